/-! SkipRowsModel's constructor -/
def jM0 (σ : jgS) (m : Nat) : jgS := jwR (jwn (jwR (jwn (jwR (jwn (jwR (jwn (jwR (jwn σ 241) m 1 (some (m + 1))) 241) m 2 (some (m + 2))) 1446) m 3 (some (m + 3))) 60) m 5 (some (m + 4))) 24) m 7 (some (m + 5))
def jM1 (σ : jgS) (m : Nat) : jgS := jwI (jwI (jwI (jM0 σ m) (m + 1) 5 5) (m + 1) 6 3) (m + 1) 8 4
def jM2 (σ : jgS) (m i : Nat) : jgS := jfd (fun r τ => jwI τ (m + 1) (9 + 4 * r + 0) 255) i (jM1 σ m)
theorem jM2_s (σ : jgS) (m i : Nat) : jM2 σ m (i + 1) = jwI (jM2 σ m i) (m + 1) (9 + 4 * i + 0) 255 := jfd_s _ _ _
def jLm7 (G : jgG) (m : Nat) : Prop := (G.2.2.2.1 m).1 = 7 ∧ G.2.2.2.1 (m + 1) = (8, 241) ∧ G.2.2.2.1 (m + 2) = (8, 241) ∧ G.2.2.2.1 (m + 3) = (8, 1446) ∧ G.2.2.2.1 (m + 4) = (8, 60) ∧ G.2.2.2.1 (m + 5) = (8, 24)
theorem jM2_2 (σ : jgS) (m : Nat) : ∀ i, (jM2 σ m i).2 = (jM0 σ m).2
  | 0 => rfl
  | i + 1 => by rw [jM2_s]; exact jM2_2 σ m i
theorem jM2_o {σ : jgS} {m a : Nat} (ha : ¬ a = m + 1) (k : Nat) : ∀ i, (jM2 σ m i).1 a k = (jM0 σ m).1 a k
  | 0 => by
    show (jM1 σ m).1 a k = _
    simp only [jM1, jI_wI, ha, false_and, if_false]
  | i + 1 => by
    rw [jM2_s, jI_wI, if_neg (fun z => ha z.1)]
    exact jM2_o ha k i
theorem jM0_f {σ : jgS} {m : Nat} (hw : jwt σ = m + 1) : jwt (jM0 σ m) = m + 6 ∧ jhs (jM0 σ m) = jhs σ + 5 ∧ jsl (jM0 σ m) = jsl σ + 2012 ∧ (∀ a k, a < m + 1 → (jM0 σ m).1 a k = σ.1 a k) ∧ (∀ a k, a < m → (jM0 σ m).2.1 a k = σ.2.1 a k) ∧ ((jM0 σ m).2.1 m 1 = some (m + 1) ∧ (jM0 σ m).2.1 m 2 = some (m + 2) ∧ (jM0 σ m).2.1 m 3 = some (m + 3) ∧ (jM0 σ m).2.1 m 5 = some (m + 4) ∧ (jM0 σ m).2.1 m 7 = some (m + 5)) ∧ ∀ k, (jM0 σ m).1 (m + 1) k = 0 := by
  have e2 : m + 1 + 1 = m + 2 := rfl
  have e3 : m + 2 + 1 = m + 3 := rfl
  have e4 : m + 3 + 1 = m + 4 := rfl
  have e5 : m + 4 + 1 = m + 5 := rfl
  have c1 : ¬ m = m + 1 := by omega
  have c2 : ¬ m = m + 2 := by omega
  have c3 : ¬ m = m + 3 := by omega
  have c4 : ¬ m = m + 4 := by omega
  have c5 : ¬ m = m + 5 := by omega
  refine ⟨by show jwt σ + 1 + 1 + 1 + 1 + 1 = _; omega, rfl, by show jsl σ + 241 + 241 + 1446 + 60 + 24 = _; omega, fun a k ha => ?_, fun a k ha => ?_, ⟨?_, ?_, ?_, ?_, ?_⟩, fun k => ?_⟩
  · have n1 : ¬ a = m + 1 := by omega
    have n2 : ¬ a = m + 2 := by omega
    have n3 : ¬ a = m + 3 := by omega
    have n4 : ¬ a = m + 4 := by omega
    have n5 : ¬ a = m + 5 := by omega
    simp only [jM0, jRI, jnI, jwtq_wR, jwt_n, hw, e2, e3, e4, e5, n1, n2, n3, n4, n5, if_false]
  · have n0 : ¬ a = m := by omega
    have n1 : ¬ a = m + 1 := by omega
    have n2 : ¬ a = m + 2 := by omega
    have n3 : ¬ a = m + 3 := by omega
    have n4 : ¬ a = m + 4 := by omega
    have n5 : ¬ a = m + 5 := by omega
    simp only [jM0, jRR, jnR, jwtq_wR, jwt_n, hw, e2, e3, e4, e5, n0, n1, n2, n3, n4, n5, false_and, if_false]
  · simp [jM0, jRR, jnR, jwtq_wR, jwt_n, hw, c1, c2, c3, c4, c5]
  · simp [jM0, jRR, jnR, jwtq_wR, jwt_n, hw, c1, c2, c3, c4, c5]
  · simp [jM0, jRR, jnR, jwtq_wR, jwt_n, hw, c1, c2, c3, c4, c5]
  · simp [jM0, jRR, jnR, jwtq_wR, jwt_n, hw, c1, c2, c3, c4, c5]
  · simp [jM0, jRR, jnR, jwtq_wR, jwt_n, hw, c1, c2, c3, c4, c5]
  · have d2 : ¬ m + 1 = m + 2 := by omega
    have d3 : ¬ m + 1 = m + 3 := by omega
    have d4 : ¬ m + 1 = m + 4 := by omega
    have d5 : ¬ m + 1 = m + 5 := by omega
    simp only [jM0, jRI, jnI, jwtq_wR, jwt_n, hw, e2, e3, e4, e5, d2, d3, d4, d5, if_false, if_true]
/-- the model's state at the start -/
def mS0 (c : Nat) : Int32 := if c = 5 then 5 else if c = 6 then 3 else if c = 8 then 4 else if c = 9 ∨ c = 13 ∨ c = 17 ∨ c = 21 then 255 else 0
theorem jM2_S {σ : jgS} {m : Nat} (hw : jwt σ = m + 1) : (jM2 σ m 4).1 (m + 1) = mS0 := by
  funext c
  obtain ⟨f1, f2, f3, f4, f5, f6, f7⟩ := jM0_f hw
  have e : (jM2 σ m 4) = jwI (jwI (jwI (jwI (jM1 σ m) (m + 1) 9 255) (m + 1) 13 255) (m + 1) 17 255) (m + 1) 21 255 := rfl
  rw [e]
  simp only [jM1, jI_wI, true_and, f7, mS0]
  by_cases h5 : c = 5
  · subst h5; rfl
  by_cases h6 : c = 6
  · subst h6; rfl
  by_cases h8 : c = 8
  · subst h8; rfl
  by_cases h9 : c = 9
  · subst h9; rfl
  by_cases h13 : c = 13
  · subst h13; rfl
  by_cases h17 : c = 17
  · subst h17; rfl
  by_cases h21 : c = 21
  · subst h21; rfl
  simp only [h5, h6, h8, h9, h13, h17, h21, if_false, or_self]
theorem jM2_Ms {G : jgG} {σ : jgS} {m : Nat} (hw : jwt σ = m + 1) (hG : G.1 ≤ m) (hl : jLm7 G m) (i : Nat) : jMs G (jM2 σ m i).2.1 (jwt (jM2 σ m i)) m := by
  obtain ⟨f1, f2, f3, f4, f5, ⟨q1, q2, q3, q5, q7⟩, f7⟩ := jM0_f hw
  obtain ⟨l0, l1, l2, l3, l4, l5⟩ := hl
  have e := jM2_2 σ m i
  have ew : jwt (jM2 σ m i) = m + 6 := by rw [← f1]; unfold jwt; rw [e]
  rw [ew, e]
  exact ⟨⟨⟨hG, by omega⟩, l0⟩, ⟨q1, q2, q3, q5, q7⟩, ⟨⟨by omega, by omega⟩, l1⟩, ⟨⟨by omega, by omega⟩, l2⟩, ⟨⟨by omega, by omega⟩, l3⟩, ⟨⟨by omega, by omega⟩, l4⟩, ⟨⟨by omega, by omega⟩, l5⟩⟩
def Pp_X7_init (G : jgG) (m : Nat) (σ : jgS) : Prop := jo G (jwt σ) m 7 ∧ jwt σ = m + 1 ∧ jhs σ = m + 1 ∧ jLm7 G m
def Ff_X7_init (G : jgG) (m : Nat) (σ : jgS) : jgR := (.inl none, jM2 σ m 4)
def P_X7_init (G : jgG) (As : List Value) (σ : jgS) : Prop := ∃ m : Nat, As = [.ref m] ∧ Pp_X7_init G m σ
def F_X7_init (G : jgG) (As : List Value) (σ : jgS) : jgR := Ff_X7_init G (jaR As 0) σ
def S_X7_init (G : jgG) : jgSpec := jsp (P_X7_init G) (F_X7_init G)
theorem PX_X7_init {G : jgG} {m : Nat} {σ : jgS} : P_X7_init G [.ref m] σ ↔ Pp_X7_init G m σ := by unfold P_X7_init; simp [and_assoc]
theorem FX_X7_init {G : jgG} {m : Nat} {σ : jgS} : F_X7_init G [.ref m] σ = Ff_X7_init G m σ := rfl
def I_X7_init : jgI := (2, 7, yX7_init, cX7_init, 2, none, 0, 1, 22, [])
theorem jd_X7_init : I_X7_init.2.2.1.cls ≠ "java/lang/invoke/MethodHandle" ∧ I_X7_init.2.2.1.cls ≠ "java/lang/invoke/VarHandle" ∧ (parseMethodDescriptor I_X7_init.2.2.1.desc).map (fun d => d.parameters.length) = some I_X7_init.2.2.2.2.2.2.1 := ⟨by decide +kernel, by decide +kernel, by decide +kernel⟩
def M_X7_init (G : jgG) : jgM := (cX7_init, [(1, jpO), (7, jpF 7 1), (13, jpF 7 2), (16, jpF 7 3), (19, jpF 7 5), (22, jpF 7 7)], [], [], none, true)
theorem bd_X7_init (G : jgG) : ∀ (As : List Value) (σ : jgS) (r : jgR), S_X7_init G As σ r → jhs σ ≤ jhs r.2 ∧ jsl σ ≤ jsl r.2 ∧ (jent As).length ≤ I_X7_init.2.2.2.2.1 ∧ Jr G (M_X7_init G) 0 (jentry As I_X7_init.2.2.2.2.1) [] σ (fun r' => r' = r) := by
  rintro As σ r ⟨⟨m, rfl, hp⟩, rfl⟩
  rw [FX_X7_init]
  refine ⟨(show jhs σ ≤ jhs (jM2 σ m 4) ∧ jsl σ ≤ jsl (jM2 σ m 4) from ⟨by have e : jhs (jM2 σ m 4) = jhs (jM0 σ m) := rfl; have := (jM0_f hp.2.1).2.1; omega, by have e : jsl (jM2 σ m 4) = jsl (jM0 σ m) := rfl; have := (jM0_f hp.2.1).2.2.1; omega⟩).1, (show jhs σ ≤ jhs (jM2 σ m 4) ∧ jsl σ ≤ jsl (jM2 σ m 4) from ⟨by have e : jhs (jM2 σ m 4) = jhs (jM0 σ m) := rfl; have := (jM0_f hp.2.1).2.1; omega, by have e : jsl (jM2 σ m 4) = jsl (jM0 σ m) := rfl; have := (jM0_f hp.2.1).2.2.1; omega⟩).2, by simp [jent, Value.category, I_X7_init], ?_⟩
  show Jr G (M_X7_init G) 0 [some (.ref m), none] [] σ (fun r' => r' = Ff_X7_init G m σ)
  obtain ⟨h0, hw, hh, hl⟩ := hp
  have hG := h0.1.1
  have hM := fun i => jM2_Ms hw hG hl i
  obtain ⟨f1, f2, f3, f4, f5, ⟨q1, q2, q3, q5, q7⟩, f7⟩ := jM0_f hw
  obtain ⟨l0, l1, l2, l3, l4, l5⟩ := hl
  have j : ∀ n, m < n → jo G n m 7 := fun n hn => ⟨⟨hG, hn⟩, l0⟩
  have j2 := j (m + 2) (by omega)
  have j3 := j (m + 3) (by omega)
  have j4 := j (m + 4) (by omega)
  have j5 := j (m + 5) (by omega)
  have j6 := j (m + 6) (by omega)
  have e2 : m + 1 + 1 = m + 2 := rfl
  have e3 : m + 2 + 1 = m + 3 := rfl
  have e4 : m + 3 + 1 = m + 4 := rfl
  have e5 : m + 4 + 1 = m + 5 := rfl
  have e6 : m + 5 + 1 = m + 6 := rfl
  have o1 : jl G (m + 6) (m + 1) := ⟨by omega, by omega⟩
  have w5 : vp_in 5 241 := vp_in_nI (n := 5) (by decide) (by decide)
  have w6 : vp_in 6 241 := vp_in_nI (n := 6) (by decide) (by decide)
  have w8 : vp_in 8 241 := vp_in_nI (n := 8) (by decide) (by decide)
  simp only [jq_aload0 (M := M_X7_init G) 1 dX7_init_0 rfl, jq_obj0 (M := M_X7_init G) 4 dX7_init_1 rfl rfl, jq_aload0 (M := M_X7_init G) 5 dX7_init_4 rfl, jq_sipush (M := M_X7_init G) 241 8 dX7_init_5 (by decide) rfl, jq_nwI (M := M_X7_init G) 10 dX7_init_8 rfl, jq_putR (M := M_X7_init G) 7 1 13 dX7_init_10 rfl rfl rfl rfl, jq_aload0 (M := M_X7_init G) 14 dX7_init_13 rfl, jq_sipush (M := M_X7_init G) 241 17 dX7_init_14 (by decide) rfl, jq_nwI (M := M_X7_init G) 19 dX7_init_17 rfl, jq_putR (M := M_X7_init G) 7 2 22 dX7_init_19 rfl rfl rfl rfl, jq_aload0 (M := M_X7_init G) 23 dX7_init_22 rfl, jq_sipush (M := M_X7_init G) 1446 26 dX7_init_23 (by decide) rfl, jq_nwI (M := M_X7_init G) 28 dX7_init_26 rfl, jq_putR (M := M_X7_init G) 7 3 31 dX7_init_28 rfl rfl rfl rfl, jq_aload0 (M := M_X7_init G) 32 dX7_init_31 rfl, jq_bipush (M := M_X7_init G) 60 34 dX7_init_32 (by decide) rfl, jq_nwI (M := M_X7_init G) 36 dX7_init_34 rfl, jq_putR (M := M_X7_init G) 7 5 39 dX7_init_36 rfl rfl rfl rfl, jq_aload0 (M := M_X7_init G) 40 dX7_init_39 rfl, jq_bipush (M := M_X7_init G) 24 42 dX7_init_40 (by decide) rfl, jq_nwI (M := M_X7_init G) 44 dX7_init_42 rfl, jq_putR (M := M_X7_init G) 7 7 47 dX7_init_44 rfl rfl rfl rfl, eq_self, jref_10, jref_11, jref_12, jk_v, jk_n, jcat_nil, jcat_i, jcat_r, jcat_l, jcat_d, jc2_i, jc2_r, jc2_n, jc1_i, jc1_r, jrf_some, jwtq_wI, jwtq_wh, jR_wI, jI_wh, jR_wh, List.cons.injEq, Value.int.injEq, Value.ref.injEq, Value.long.injEq, Value.double.injEq, true_and, and_true, and_self, Nat.reduceAdd, Nat.reduceLeDiff, if_true, if_false, ite_true, ite_false, jc1q_i, jc1q_r, jc1q_l, jwtq_wR, jwtq_wY, jI_wI, Nat.reduceEqDiff, and_false, false_and, not_false_eq_true, not_true_eq_false, Nat.zero_le, jobj0, jwt_n, jhs_n, jhsq_R, jwtq_wR, hw, hh, e2, e3, e4, e5, e6, j2, j3, j4, j5, j6, l1, l2, l3, l4, l5, show ¬ (241 : Int32) < 0 from by decide, show (241 : Int32).toNatClampNeg = 241 from by decide, show (241 : Nat) ≤ 60000000 from by decide, show ¬ (1446 : Int32) < 0 from by decide, show (1446 : Int32).toNatClampNeg = 1446 from by decide, show (1446 : Nat) ≤ 60000000 from by decide, show ¬ (60 : Int32) < 0 from by decide, show (60 : Int32).toNatClampNeg = 60 from by decide, show (60 : Nat) ≤ 60000000 from by decide, show ¬ (24 : Int32) < 0 from by decide, show (24 : Int32).toNatClampNeg = 24 from by decide, show (24 : Nat) ≤ 60000000 from by decide]
  show Jr G (M_X7_init G) _ _ _ (jM0 σ m) _
  simp only [jq_aload0 (M := M_X7_init G) 48 dX7_init_47 rfl, jq_getR (M := M_X7_init G) 7 1 51 dX7_init_48 rfl rfl rfl, jq_iconst (M := M_X7_init G) 5 52 dX7_init_51 (by decide) rfl, jq_iconst (M := M_X7_init G) 5 53 dX7_init_52 (by decide) rfl, jq_iast (M := M_X7_init G) 54 dX7_init_53 rfl, jq_aload0 (M := M_X7_init G) 55 dX7_init_54 rfl, jq_getR (M := M_X7_init G) 7 1 58 dX7_init_55 rfl rfl rfl, jq_bipush (M := M_X7_init G) 6 60 dX7_init_58 (by decide) rfl, jq_iconst (M := M_X7_init G) 3 61 dX7_init_60 (by decide) rfl, jq_iast (M := M_X7_init G) 62 dX7_init_61 rfl, jq_aload0 (M := M_X7_init G) 63 dX7_init_62 rfl, jq_getR (M := M_X7_init G) 7 1 66 dX7_init_63 rfl rfl rfl, jq_bipush (M := M_X7_init G) 8 68 dX7_init_66 (by decide) rfl, jq_iconst (M := M_X7_init G) 4 69 dX7_init_68 (by decide) rfl, jq_iast (M := M_X7_init G) 70 dX7_init_69 rfl, jq_iconst (M := M_X7_init G) 0 71 dX7_init_70 (by decide) rfl, jq_istore1 (M := M_X7_init G) 72 dX7_init_71 rfl, eq_self, jref_10, jref_11, jref_12, jk_v, jk_n, jcat_nil, jcat_i, jcat_r, jcat_l, jcat_d, jc2_i, jc2_r, jc2_n, jc1_i, jc1_r, jrf_some, jwtq_wI, jwtq_wh, jR_wI, jI_wh, jR_wh, List.cons.injEq, Value.int.injEq, Value.ref.injEq, Value.long.injEq, Value.double.injEq, true_and, and_true, and_self, Nat.reduceAdd, Nat.reduceLeDiff, if_true, if_false, ite_true, ite_false, jc1q_i, jc1q_r, jc1q_l, jwtq_wR, jwtq_wY, jI_wI, Nat.reduceEqDiff, and_false, false_and, not_false_eq_true, not_true_eq_false, Nat.zero_le, jobj0, jIR, f1, q1, j6, o1, l1, w5, w6, w8, jcl_5, jcl_6, jcl_8]
  show Jr G (M_X7_init G) _ _ _ (jM1 σ m) _
  have hA : Jr G (M_X7_init G) 72 [some (.ref m), some (.int (nI 0))] [] (jM2 σ m 0) (fun r' => r' = Ff_X7_init G m σ) := by
    refine jloop (P := fun i => Jr G (M_X7_init G) 72 [some (.ref m), some (.int (nI i))] [] (jM2 σ m i) (fun r' => r' = Ff_X7_init G m σ)) (n := 4) ?_ (fun i hlt ih => ?_)
    · show Jr G (M_X7_init G) 72 _ _ _ _
      rw [jq_iload1 (M := M_X7_init G) 73 dX7_init_72 rfl]
      simp only [jq_iconst (M := M_X7_init G) 4 74 dX7_init_73 (by decide) rfl, jq_icmp_ge (M := M_X7_init G) 99 77 dX7_init_74 (by decide) rfl, jq_ret (M := M_X7_init G) dX7_init_99 rfl, eq_self, jref_10, jref_11, jref_12, jk_v, jk_n, jcat_nil, jcat_i, jcat_r, jcat_l, jcat_d, jc2_i, jc2_r, jc2_n, jc1_i, jc1_r, jrf_some, jwtq_wI, jwtq_wh, jR_wI, jI_wh, jR_wh, List.cons.injEq, Value.int.injEq, Value.ref.injEq, Value.long.injEq, Value.double.injEq, true_and, and_true, and_self, Nat.reduceAdd, Nat.reduceLeDiff, if_true, if_false, ite_true, ite_false, jc1q_i, jc1q_r, jc1q_l, jwtq_wR, jwtq_wY, jI_wI, Nat.reduceEqDiff, and_false, false_and, not_false_eq_true, not_true_eq_false, show (4 : Int32) ≤ nI 4 from by decide]
      rfl
    · show Jr G (M_X7_init G) 72 _ _ _ _
      have hc : ¬ (4 : Int32) ≤ nI i := nI_ge (b := 4) hlt (by decide)
      have ex : (9 : Int32) + 4 * nI i + 0 = nI (9 + 4 * i + 0) := mi_rd i 0
      have exv : vp_in (nI (9 + 4 * i + 0)) 241 := vp_in_nI (by omega) (by decide)
      have exc : (nI (9 + 4 * i + 0)).toNatClampNeg = 9 + 4 * i + 0 := nI_clamp (by omega)
      obtain ⟨u0, ⟨v1, v2, v3, v5, v7⟩, ⟨a1, k1⟩, _⟩ := hM i
      rw [jM2_s, ← nI_1] at ih
      rw [jq_iload1 (M := M_X7_init G) 73 dX7_init_72 rfl]
      generalize jM2 σ m i = τ at *
      simp only [jq_iconst (M := M_X7_init G) 4 74 dX7_init_73 (by decide) rfl, jq_icmp_ge (M := M_X7_init G) 99 77 dX7_init_74 (by decide) rfl, jq_aload0 (M := M_X7_init G) 78 dX7_init_77 rfl, jq_getR (M := M_X7_init G) 7 1 81 dX7_init_78 rfl rfl rfl, jq_bipush (M := M_X7_init G) 9 83 dX7_init_81 (by decide) rfl, jq_iconst (M := M_X7_init G) 4 84 dX7_init_83 (by decide) rfl, jq_iload1 (M := M_X7_init G) 85 dX7_init_84 rfl, jq_imul (M := M_X7_init G) 86 dX7_init_85 rfl, jq_iadd (M := M_X7_init G) 87 dX7_init_86 rfl, jq_iconst (M := M_X7_init G) 0 88 dX7_init_87 (by decide) rfl, jq_iadd (M := M_X7_init G) 89 dX7_init_88 rfl, jq_sipush (M := M_X7_init G) 255 92 dX7_init_89 (by decide) rfl, jq_iast (M := M_X7_init G) 93 dX7_init_92 rfl, jq_iinc1 (M := M_X7_init G) 1 96 dX7_init_93 (by decide) rfl, jq_goto (M := M_X7_init G) 72 dX7_init_96 (by decide), eq_self, jref_10, jref_11, jref_12, jk_v, jk_n, jcat_nil, jcat_i, jcat_r, jcat_l, jcat_d, jc2_i, jc2_r, jc2_n, jc1_i, jc1_r, jrf_some, jwtq_wI, jwtq_wh, jR_wI, jI_wh, jR_wh, List.cons.injEq, Value.int.injEq, Value.ref.injEq, Value.long.injEq, Value.double.injEq, true_and, and_true, and_self, Nat.reduceAdd, Nat.reduceLeDiff, if_true, if_false, ite_true, ite_false, jc1q_i, jc1q_r, jc1q_l, jwtq_wR, jwtq_wY, jI_wI, Nat.reduceEqDiff, and_false, false_and, not_false_eq_true, not_true_eq_false, hc, u0, v1, a1, k1, ex, exv, exc]
      exact ih
  exact hA
theorem met_X7_init {l : Launch} (hl : l.stackTraces = false) (D : va_G) (cy : Nat → ClassId) (G : jgG) : jMet l D cy G I_X7_init (S_X7_init G) :=
  jr_met hl (M_X7_init G) I_X7_init (S_X7_init G) RX7 rfl (by decide) rfl rfl rfl rfl (fun h => (rfl)) jmAI jmAL (fun R h1 h2 => List.forall_mem_cons.mpr ⟨⟨jm_821, jm_71, jmO, by rw [h1]; exact Nat.le_of_ble_eq_true rfl, by rw [h2]; exact Nat.le_of_ble_eq_true rfl⟩, List.forall_mem_cons.mpr ⟨jpokF (r := (RX7, TX7, 11)) rfl jcls7 (by decide) (by decide) jm_823 (fun _ => rfl), List.forall_mem_cons.mpr ⟨jpokF (r := (RX7, TX7, 11)) rfl jcls7 (by decide) (by decide) jm_824 (fun _ => rfl), List.forall_mem_cons.mpr ⟨jpokF (r := (RX7, TX7, 11)) rfl jcls7 (by decide) (by decide) jm_825 (fun _ => rfl), List.forall_mem_cons.mpr ⟨jpokF (r := (RX7, TX7, 11)) rfl jcls7 (by decide) (by decide) jm_827 (fun _ => rfl), List.forall_mem_cons.mpr ⟨jpokF (r := (RX7, TX7, 11)) rfl jcls7 (by decide) (by decide) jm_829 (fun _ => rfl), fun _ h => nomatch h⟩⟩⟩⟩⟩⟩) (fun h => absurd rfl h) (fun _ h => nomatch h) (bd_X7_init G)
