/-! constructors of History, SkipRows, SkipRowsModel -/
def jTz (G : jgG) (σ : jgS) (h : Nat) : Prop := jT G σ h ∧ (∀ k, 3 ≤ k → k < 8 → σ.1 h k = 0) ∧ (σ.1 (h + 3) 0 = 5 ∧ σ.1 (h + 3) 1 = 3 ∧ σ.1 (h + 3) 2 = 0 ∧ σ.1 (h + 3) 3 = 4) ∧ ∀ r, r < 4 → ∀ k, σ.1 (h + 28 + r) k = if k = 0 then 255 else 0
theorem jTd_o {σ : jgS} {h a : Nat} (hw : jwt σ = h + 1) (ha : a < h) (k : Nat) : (jTd σ h 4).1 a k = σ.1 a k ∧ (jTd σ h 4).2.1 a k = σ.2.1 a k := by
  obtain ⟨f1, f2, f3, f4, f5, f6, f7⟩ := jTd_f hw 4
  obtain ⟨g1, g2, g3, g4, g5, g6⟩ := jTr_f hw 24
  obtain ⟨e1, e2, e3, e4, e5, e6, e7⟩ := jT3_f hw
  exact ⟨(f4 a k (by omega)).trans ((g4 a k (by omega)).trans (e4 a k (by omega))), (f5 a k (by omega) (by omega)).trans ((g5 a k (by omega) (by omega)).trans (e6 a k ha))⟩
theorem jTz_new {G : jgG} {σ : jgS} {h : Nat} (hw : jwt σ = h + 1) (hG : G.1 ≤ h) (hl : jLy G h) (h0 : ∀ k, 3 ≤ k → k < 8 → σ.1 h k = 0) : jTz G (jTd σ h 4) h := by
  obtain ⟨f1, f2, f3, f4, f5, f6, f7⟩ := jTd_f hw 4
  obtain ⟨g1, g2, g3, g4, g5, g6⟩ := jTr_f hw 24
  obtain ⟨e1, e2, e3, e4, ⟨s0, s1, s2, s3⟩, e6, ⟨q0, q1, q2⟩⟩ := jT3_f hw
  obtain ⟨k0, k1, k2, k3, kr, kd⟩ := hl
  have z : ∀ k, 3 ≤ k → k < 8 → (jTd σ h 4).1 h k = 0 := fun k a b => (f4 h k (by omega)).trans ((g4 h k (by omega)).trans ((e4 h k (by omega)).trans (h0 k a b)))
  have hn : jn (jTd σ h 4) h = 0 := by unfold jn; rw [z 3 (by omega) (by omega)]; decide
  have rr : ∀ k, (jTd σ h 4).2.1 h k = (jT3 σ h).2.1 h k := fun k => (f5 h k (by omega) (by omega)).trans (g5 h k (by omega) (by omega))
  have ss : ∀ k, (jTd σ h 4).1 (h + 3) k = (jT3 σ h).1 (h + 3) k := fun k => (f4 _ k (by omega)).trans (g4 _ k (by omega))
  refine ⟨⟨⟨⟨⟨hG, by omega⟩, k0⟩, ⟨(rr 0).trans q0, (rr 1).trans q1, (rr 2).trans q2⟩, ⟨⟨⟨by omega, by omega⟩, k1⟩, ⟨⟨by omega, by omega⟩, k2⟩, ⟨⟨by omega, by omega⟩, k3⟩⟩, fun i hi => ⟨(f5 _ i (by omega) (by omega)).trans (g6 i hi), ⟨by omega, by omega⟩, kr i hi⟩, fun r hr => ⟨f6 r hr, ⟨by omega, by omega⟩, kd r hr⟩⟩, ?_, by omega⟩, z, ⟨(ss 0).trans s0, (ss 1).trans s1, (ss 2).trans s2, (ss 3).trans s3⟩, f7⟩
  rw [hn]
  exact z 3 (by omega) (by omega)
theorem jTz_ext {G : jgG} {σ τ : jgS} {h : Nat} (ho : ∀ a, h ≤ a → a < h + 32 → ∀ k, τ.1 a k = σ.1 a k ∧ τ.2.1 a k = σ.2.1 a k) (hw : jwt σ ≤ jwt τ) (hz : jTz G σ h) : jTz G τ h := by
  obtain ⟨⟨⟨t0, ⟨t1, t2, t3⟩, ⟨⟨a1, k1⟩, ⟨a2, k2⟩, ⟨a3, k3⟩⟩, tr, td⟩, hn, hn24⟩, z, ⟨s0, s1, s2, s3⟩, f7⟩ := hz
  have en : jn τ h = jn σ h := by unfold jn; rw [(ho h (by omega) (by omega) 3).1]
  have w : ∀ {a : Nat}, a < jwt σ → a < jwt τ := fun q => Nat.lt_of_lt_of_le q hw
  refine ⟨⟨⟨⟨⟨t0.1.1, w t0.1.2⟩, t0.2⟩, ⟨((ho h (by omega) (by omega) 0).2).trans t1, ((ho h (by omega) (by omega) 1).2).trans t2, ((ho h (by omega) (by omega) 2).2).trans t3⟩, ⟨⟨⟨a1.1, w a1.2⟩, k1⟩, ⟨⟨a2.1, w a2.2⟩, k2⟩, ⟨⟨a3.1, w a3.2⟩, k3⟩⟩, fun i hi => ⟨((ho _ (by omega) (by omega) i).2).trans (tr i hi).1, ⟨(tr i hi).2.1.1, w (tr i hi).2.1.2⟩, (tr i hi).2.2⟩, fun r hr => ⟨((ho _ (by omega) (by omega) r).2).trans (td r hr).1, ⟨(td r hr).2.1.1, w (td r hr).2.1.2⟩, (td r hr).2.2⟩⟩, by rw [en, (ho h (by omega) (by omega) 3).1]; exact hn, by omega⟩, fun k a b => ((ho h (by omega) (by omega) k).1).trans (z k a b), ⟨((ho _ (by omega) (by omega) 0).1).trans s0, ((ho _ (by omega) (by omega) 1).1).trans s1, ((ho _ (by omega) (by omega) 2).1).trans s2, ((ho _ (by omega) (by omega) 3).1).trans s3⟩, fun r hr k => ((ho _ (by omega) (by omega) k).1).trans (f7 r hr k)⟩
def jH0 (σ : jgS) (H : Nat) : jgS := jwR (jwn σ 6) H 0 (some (H + 1))
def jHst (H j : Nat) (τ : jgS) : jgS := jwR (jTd (jwn τ 8) (H + 2 + 32 * j) 4) (H + 1) j (some (H + 2 + 32 * j))
def jHi (σ : jgS) (H i : Nat) : jgS := jfd (jHst H) i (jH0 σ H)
theorem jHi_s (σ : jgS) (H i : Nat) : jHi σ H (i + 1) = jHst H i (jHi σ H i) := jfd_s _ _ _
theorem jHi_f {G : jgG} {σ : jgS} {H : Nat} (hw : jwt σ = H + 1) (hG : G.1 ≤ H) (hl : ∀ i, i < 6 → jLy G (H + 2 + 32 * i)) : ∀ i, i ≤ 6 → jwt (jHi σ H i) = H + 2 + 32 * i ∧ jhs (jHi σ H i) = jhs σ + 1 + 32 * i ∧ jsl (jHi σ H i) = jsl σ + 6 + 272 * i ∧ (∀ a k, a < H + 1 → (jHi σ H i).1 a k = σ.1 a k) ∧ (∀ a k, a < H → (jHi σ H i).2.1 a k = σ.2.1 a k) ∧ (jHi σ H i).2.1 H 0 = some (H + 1) ∧ (∀ j, j < i → (jHi σ H i).2.1 (H + 1) j = some (H + 2 + 32 * j)) ∧ (∀ j, j < i → jTz G (jHi σ H i) (H + 2 + 32 * j))
  | 0, _ => by
    refine ⟨by show jwt σ + 1 = _; omega, rfl, rfl, fun a k ha => ?_, fun a k ha => ?_, ?_, fun j hj => absurd hj (by omega), fun j hj => absurd hj (by omega)⟩
    · show (jH0 σ H).1 a k = _
      have n1 : ¬ a = H + 1 := by omega
      simp only [jH0, jRI, jnI, hw, n1, if_false]
    · show (jH0 σ H).2.1 a k = _
      have n1 : ¬ a = H + 1 := by omega
      have n2 : ¬ a = H := by omega
      simp only [jH0, jRR, jnR, hw, n1, n2, false_and, if_false]
    · show (jH0 σ H).2.1 H 0 = _
      simp only [jH0, jRR, and_self, if_true]
  | i + 1, hi => by
    obtain ⟨f1, f2, f3, f4, f5, f6, f7, f8⟩ := jHi_f hw hG hl i (by omega)
    rw [jHi_s]
    generalize jHi σ H i = τ at *
    have hw2 : jwt (jwn τ 8) = (H + 2 + 32 * i) + 1 := by show jwt τ + 1 = _; omega
    obtain ⟨d1, d2, d3, _⟩ := jTd_f hw2 4
    have ez : ∀ k, (jwn τ 8).1 (H + 2 + 32 * i) k = 0 := fun k => if_pos f1.symm
    have hz := jTz_new hw2 (by omega) (hl i (by omega)) (fun k _ _ => ez k)
    have old : ∀ a k, a < H + 2 + 32 * i → (jTd (jwn τ 8) (H + 2 + 32 * i) 4).1 a k = τ.1 a k ∧ (jTd (jwn τ 8) (H + 2 + 32 * i) 4).2.1 a k = τ.2.1 a k := by
      intro a k ha
      obtain ⟨o1, o2⟩ := jTd_o hw2 ha k
      have nw : ¬ a = jwt τ := by omega
      exact ⟨o1.trans (if_neg nw), o2.trans (if_neg nw)⟩
    have wR : jwt (jHst H i τ) = jwt (jTd (jwn τ 8) (H + 2 + 32 * i) 4) := rfl
    refine ⟨by rw [wR]; omega, ?_, ?_, fun a k ha => (old a k (by omega)).1.trans (f4 a k ha), fun a k ha => ?_, ?_, fun j hj => ?_, fun j hj => ?_⟩
    · show jhs (jTd (jwn τ 8) (H + 2 + 32 * i) 4) = _
      have : jhs (jwn τ 8) = jhs τ + 1 := rfl
      omega
    · show jsl (jTd (jwn τ 8) (H + 2 + 32 * i) 4) = _
      have e2 : jsl (jwn τ 8) = jsl τ + 8 := rfl
      rw [d3, e2, f3]
      omega
    · have n1 : ¬ a = H + 1 := by omega
      simp only [jHst, jRR, n1, false_and, if_false]
      exact (old a k (by omega)).2.trans (f5 a k ha)
    · have n1 : ¬ H = H + 1 := by omega
      simp only [jHst, jRR, n1, false_and, if_false]
      exact (old H 0 (by omega)).2.trans f6
    · by_cases c : j = i
      · subst c
        simp only [jHst, jRR, and_self, if_true]
      · simp only [jHst, jRR, c, and_false, if_false]
        exact (old _ _ (by omega)).2.trans (f7 j (by omega))
    · have hR : ∀ a, H + 2 ≤ a → ∀ k, (jHst H i τ).1 a k = (jTd (jwn τ 8) (H + 2 + 32 * i) 4).1 a k ∧ (jHst H i τ).2.1 a k = (jTd (jwn τ 8) (H + 2 + 32 * i) 4).2.1 a k := by
        intro a ha k
        have n1 : ¬ a = H + 1 := by omega
        exact ⟨rfl, by simp only [jHst, jRR, n1, false_and, if_false]⟩
      by_cases c : j = i
      · subst c
        exact jTz_ext (fun a h1 h2 k => hR a (by omega) k) (Nat.le_refl _) hz
      · refine jTz_ext (σ := τ) (fun a h1 h2 k => ⟨(hR a (by omega) k).1.trans (old a k (by omega)).1, (hR a (by omega) k).2.trans (old a k (by omega)).2⟩) ?_ (f8 j (by omega))
        rw [wR]
        omega
def Pp_X1_init (G : jgG) (H : Nat) (σ : jgS) : Prop := jo G (jwt σ) H 1 ∧ jwt σ = H + 1 ∧ jhs σ = H + 1 ∧ G.2.2.2.1 (H + 1) = (12, 6) ∧ ∀ i, i < 6 → jLy G (H + 2 + 32 * i)
def Ff_X1_init (G : jgG) (H : Nat) (σ : jgS) : jgR := (.inl none, jHi σ H 6)
def P_X1_init (G : jgG) (As : List Value) (σ : jgS) : Prop := ∃ H : Nat, As = [.ref H] ∧ Pp_X1_init G H σ
def F_X1_init (G : jgG) (As : List Value) (σ : jgS) : jgR := Ff_X1_init G (jaR As 0) σ
def S_X1_init (G : jgG) : jgSpec := jsp (P_X1_init G) (F_X1_init G)
theorem PX_X1_init {G : jgG} {H : Nat} {σ : jgS} : P_X1_init G [.ref H] σ ↔ Pp_X1_init G H σ := by unfold P_X1_init; simp [and_assoc]
theorem FX_X1_init {G : jgG} {H : Nat} {σ : jgS} : F_X1_init G [.ref H] σ = Ff_X1_init G H σ := rfl
def I_X1_init : jgI := (2, 1, yX1_init, cX1_init, 2, none, 0, 3, 63, [])
theorem jd_X1_init : I_X1_init.2.2.1.cls ≠ "java/lang/invoke/MethodHandle" ∧ I_X1_init.2.2.1.cls ≠ "java/lang/invoke/VarHandle" ∧ (parseMethodDescriptor I_X1_init.2.2.1.desc).map (fun d => d.parameters.length) = some I_X1_init.2.2.2.2.2.2.1 := ⟨by decide +kernel, by decide +kernel, by decide +kernel⟩
def M_X1_init (G : jgG) : jgM := (cX1_init, [(3, jpO), (9, jpN 5), (11, jpF 1 0), (17, jpC I_X5_init (S_X5_init G)), (1009, jpA 2)], [], [], none, true)
theorem bd_X1_init (G : jgG) : ∀ (As : List Value) (σ : jgS) (r : jgR), S_X1_init G As σ r → jhs σ ≤ jhs r.2 ∧ jsl σ ≤ jsl r.2 ∧ (jent As).length ≤ I_X1_init.2.2.2.2.1 ∧ Jr G (M_X1_init G) 0 (jentry As I_X1_init.2.2.2.2.1) [] σ (fun r' => r' = r) := by
  rintro As σ r ⟨⟨H, rfl, hp⟩, rfl⟩
  rw [FX_X1_init]
  refine ⟨(show jhs σ ≤ jhs (jHi σ H 6) ∧ jsl σ ≤ jsl (jHi σ H 6) from ⟨by have := (jHi_f hp.2.1 hp.1.1.1 hp.2.2.2.2 6 (Nat.le_refl _)).2.1; omega, by have := (jHi_f hp.2.1 hp.1.1.1 hp.2.2.2.2 6 (Nat.le_refl _)).2.2.1; omega⟩).1, (show jhs σ ≤ jhs (jHi σ H 6) ∧ jsl σ ≤ jsl (jHi σ H 6) from ⟨by have := (jHi_f hp.2.1 hp.1.1.1 hp.2.2.2.2 6 (Nat.le_refl _)).2.1; omega, by have := (jHi_f hp.2.1 hp.1.1.1 hp.2.2.2.2 6 (Nat.le_refl _)).2.2.1; omega⟩).2, by simp [jent, Value.category, I_X1_init], ?_⟩
  show Jr G (M_X1_init G) 0 [some (.ref H), none] [] σ (fun r' => r' = Ff_X1_init G H σ)
  obtain ⟨h0, hw, hh, k1, kl⟩ := hp
  have hG := h0.1.1
  have j2 : jo G (H + 2) H 1 := ⟨⟨h0.1.1, by omega⟩, h0.2⟩
  have e2 : H + 1 + 1 = H + 2 := rfl
  simp only [jq_aload0 (M := M_X1_init G) 1 dX1_init_0 rfl, jq_obj0 (M := M_X1_init G) 4 dX1_init_1 rfl rfl, jq_aload0 (M := M_X1_init G) 5 dX1_init_4 rfl, jq_bipush (M := M_X1_init G) 6 7 dX1_init_5 (by decide) rfl, jq_nwA (M := M_X1_init G) 2 10 dX1_init_7 rfl rfl, jq_putR (M := M_X1_init G) 1 0 13 dX1_init_10 rfl rfl rfl rfl, jq_iconst (M := M_X1_init G) 0 14 dX1_init_13 (by decide) rfl, jq_istore1 (M := M_X1_init G) 15 dX1_init_14 rfl, eq_self, jref_10, jref_11, jref_12, jk_v, jk_n, jcat_nil, jcat_i, jcat_r, jcat_l, jcat_d, jc2_i, jc2_r, jc2_n, jc1_i, jc1_r, jrf_some, jwtq_wI, jwtq_wh, jR_wI, jI_wh, jR_wh, List.cons.injEq, Value.int.injEq, Value.ref.injEq, Value.long.injEq, Value.double.injEq, true_and, and_true, and_self, Nat.reduceAdd, Nat.reduceLeDiff, if_true, if_false, ite_true, ite_false, jc1q_i, jc1q_r, jc1q_l, jwtq_wR, jwtq_wY, jI_wI, Nat.reduceEqDiff, and_false, false_and, not_false_eq_true, not_true_eq_false, Nat.zero_le, jobj0, jwt_n, jhs_n, jhsq_I, jhsq_R, jnI, jnR, jRI, jRR, jIR, jI_wI, hw, hh, e2, j2, k1, show ¬ (6 : Int32) < 0 from by decide, show (6 : Int32).toNatClampNeg = 6 from by decide, show (6 : Nat) ≤ 60000000 from by decide]
  have hA : Jr G (M_X1_init G) 15 [some (.ref H), some (.int (nI 0))] [] (jHi σ H 0) (fun r' => r' = Ff_X1_init G H σ) := by
    refine jloop (P := fun i => Jr G (M_X1_init G) 15 [some (.ref H), some (.int (nI i))] [] (jHi σ H i) (fun r' => r' = Ff_X1_init G H σ)) (n := 6) ?_ (fun i hlt ih => ?_)
    · show Jr G (M_X1_init G) 15 _ _ _ _
      rw [jq_iload1 (M := M_X1_init G) 16 dX1_init_15 rfl]
      simp only [jq_bipush (M := M_X1_init G) 6 18 dX1_init_16 (by decide) rfl, jq_icmp_ge (M := M_X1_init G) 40 21 dX1_init_18 (by decide) rfl, jq_ret (M := M_X1_init G) dX1_init_40 rfl, eq_self, jref_10, jref_11, jref_12, jk_v, jk_n, jcat_nil, jcat_i, jcat_r, jcat_l, jcat_d, jc2_i, jc2_r, jc2_n, jc1_i, jc1_r, jrf_some, jwtq_wI, jwtq_wh, jR_wI, jI_wh, jR_wh, List.cons.injEq, Value.int.injEq, Value.ref.injEq, Value.long.injEq, Value.double.injEq, true_and, and_true, and_self, Nat.reduceAdd, Nat.reduceLeDiff, if_true, if_false, ite_true, ite_false, jc1q_i, jc1q_r, jc1q_l, jwtq_wR, jwtq_wY, jI_wI, Nat.reduceEqDiff, and_false, false_and, not_false_eq_true, not_true_eq_false, show (6 : Int32) ≤ nI 6 from by decide]
      rfl
    · show Jr G (M_X1_init G) 15 _ _ _ _
      have hc : ¬ (6 : Int32) ≤ nI i := nI_ge (b := 6) hlt (by decide)
      have hv : vp_in (nI i) 6 := vp_in_nI (by omega) (by decide)
      have hcl : (nI i).toNatClampNeg = i := nI_clamp (by omega)
      obtain ⟨f1, f2, f3, f4, f5, f6, f7, f8⟩ := jHi_f hw hG kl i (by omega)
      rw [jHi_s, ← nI_1] at ih
      have f2' : jhs (jHi σ H i) = H + 2 + 32 * i := by omega
      have kli := kl i hlt
      have kl0 := kli.1
      have o1 : jo G (H + 2 + 32 * i) H 1 := ⟨⟨hG, by omega⟩, h0.2⟩
      have o2 : jo G (H + 2 + 32 * i + 1) (H + 2 + 32 * i) 5 := ⟨⟨by omega, by omega⟩, kl0⟩
      have hw2 : jwt (jwn (jHi σ H i) 8) = (H + 2 + 32 * i) + 1 := by show jwt (jHi σ H i) + 1 = _; omega
      obtain ⟨d1, _⟩ := jTd_f hw2 4
      have o3 : jo G (H + 2 + 32 * i + 28 + 4) (H + 2 + 32 * i) 5 := ⟨⟨by omega, by omega⟩, kl0⟩
      have o4 : jl G (H + 2 + 32 * i + 28 + 4) (H + 1) := ⟨by omega, by omega⟩
      rw [jq_iload1 (M := M_X1_init G) 16 dX1_init_15 rfl]
      generalize jHi σ H i = τ at *
      simp only [jq_bipush (M := M_X1_init G) 6 18 dX1_init_16 (by decide) rfl, jq_icmp_ge (M := M_X1_init G) 40 21 dX1_init_18 (by decide) rfl, jq_aload0 (M := M_X1_init G) 22 dX1_init_21 rfl, jq_getR (M := M_X1_init G) 1 0 25 dX1_init_22 rfl rfl rfl, jq_iload1 (M := M_X1_init G) 26 dX1_init_25 rfl, jq_new (M := M_X1_init G) 5 29 dX1_init_26 rfl rfl rfl, jq_dupR (M := M_X1_init G) 30 dX1_init_29 rfl, jq_dupI (M := M_X1_init G) 30 dX1_init_29 rfl, jq_spec (M := M_X1_init G) I_X5_init dX1_init_30 rfl (Or.inl rfl) rfl, jq_aast (M := M_X1_init G) 34 dX1_init_33 rfl, jq_iinc1 (M := M_X1_init G) 1 37 dX1_init_34 (by decide) rfl, jq_goto (M := M_X1_init G) 15 dX1_init_37 (by decide), eq_self, jref_10, jref_11, jref_12, jk_v, jk_n, jcat_nil, jcat_i, jcat_r, jcat_l, jcat_d, jc2_i, jc2_r, jc2_n, jc1_i, jc1_r, jrf_some, jwtq_wI, jwtq_wh, jR_wI, jI_wh, jR_wh, List.cons.injEq, Value.int.injEq, Value.ref.injEq, Value.long.injEq, Value.double.injEq, true_and, and_true, and_self, Nat.reduceAdd, Nat.reduceLeDiff, if_true, if_false, ite_true, ite_false, jc1q_i, jc1q_r, jc1q_l, jwtq_wR, jwtq_wY, jI_wI, Nat.reduceEqDiff, and_false, false_and, not_false_eq_true, not_true_eq_false, Nat.zero_le, jobj0, hc, jwt_n, jhs_n, f1, f2', f6, o1, o2, o3, o4, d1, kli, kl0, k1, hv, hcl, show jN 5 = 8 from rfl, show ¬ (12 : Nat) = 10 from by decide, show ¬ (12 : Nat) = 11 from by decide, PX_X5_init, FX_X5_init, Pp_X5_init, Ff_X5_init]
      exact ih
  exact hA
theorem met_X1_init {l : Launch} (hl : l.stackTraces = false) (D : va_G) (cy : Nat → ClassId) (G : jgG) : jMet l D cy G I_X1_init (S_X1_init G) :=
  jr_met hl (M_X1_init G) I_X1_init (S_X1_init G) RX1 rfl (by decide) rfl rfl rfl rfl (fun h => (rfl)) jmAI (fun R h1 h2 => List.forall_mem_cons.mpr ⟨⟨jm_158, jm_30, jmO, by rw [h1]; exact Nat.le_of_ble_eq_true rfl, by rw [h2]; exact Nat.le_of_ble_eq_true rfl⟩, List.forall_mem_cons.mpr ⟨⟨by decide, (RX5, TX5, 8), rfl, jcls5, jm_159, jm_33, jm_11⟩, List.forall_mem_cons.mpr ⟨jpokF (r := (RX1, TX1, 3)) rfl jcls1 (by decide) (by decide) jm_162 (fun _ => rfl), List.forall_mem_cons.mpr ⟨⟨⟨jm_36, jm_11, jd_X5_init, ⟨by rw [h1]; exact Nat.le_of_ble_eq_true rfl, by rw [h2]; exact Nat.le_of_ble_eq_true rfl⟩, Or.inr (Or.inr (Or.inl ⟨rfl, jm_161, jm_35, rfl, rfl, rfl⟩))⟩, met_X5_init hl D cy G⟩, List.forall_mem_cons.mpr ⟨⟨by decide, fun i h => by have h9 : 1009 = i + 1000 := h; have e9 : i = 9 := (by omega); subst e9; exact jm_159⟩, fun _ h => nomatch h⟩⟩⟩⟩⟩) (fun h => absurd rfl h) (fun _ h => nomatch h) (bd_X1_init G)
/-- the kinds at the addresses of a SkipRows -/
def jLx (G : jgG) (x : Nat) : Prop := (G.2.2.2.1 x).1 = 6 ∧ jLy G (x + 1) ∧ (G.2.2.2.1 (x + 33)).1 = 1 ∧ G.2.2.2.1 (x + 34) = (12, 6) ∧ (∀ i, i < 6 → jLy G (x + 35 + 32 * i)) ∧ (G.2.2.2.1 (x + 227)).1 = 0 ∧ G.2.2.2.1 (x + 228) = (8, 60) ∧ G.2.2.2.1 (x + 229) = (8, 20) ∧ G.2.2.2.1 (x + 230) = (8, 20) ∧ G.2.2.2.1 (x + 231) = (8, 20) ∧ (G.2.2.2.1 (x + 232)).1 = 2
def jX1 (σ : jgS) (x : Nat) : jgS := jwR (jTd (jwn σ 8) (x + 1) 4) x 0 (some (x + 1))
def jX2 (σ : jgS) (x : Nat) : jgS := jwR (jHi (jwn (jX1 σ x) 3) (x + 33) 6) x 1 (some (x + 33))
def jX3 (σ : jgS) (x : Nat) : jgS := jwR (jB0 (jwn (jX2 σ x) 7) (x + 227)) x 2 (some (x + 227))
def jX4 (σ : jgS) (x : Nat) : jgS := jwR (jwn (jX3 σ x) 5) x 3 (some (x + 232))
theorem jB0_f {σ : jgS} {B : Nat} (hw : jwt σ = B + 1) : jwt (jB0 σ B) = B + 5 ∧ jhs (jB0 σ B) = jhs σ + 4 ∧ jsl (jB0 σ B) = jsl σ + 120 ∧ (∀ a k, a < B + 1 → (jB0 σ B).1 a k = σ.1 a k) ∧ (∀ a k, a < B → (jB0 σ B).2.1 a k = σ.2.1 a k) ∧ ((jB0 σ B).2.1 B 0 = some (B + 1) ∧ (jB0 σ B).2.1 B 2 = some (B + 2) ∧ (jB0 σ B).2.1 B 3 = some (B + 3) ∧ (jB0 σ B).2.1 B 4 = some (B + 4)) := by
  have e2 : B + 1 + 1 = B + 2 := rfl
  have e3 : B + 2 + 1 = B + 3 := rfl
  have e4 : B + 3 + 1 = B + 4 := rfl
  have c1 : ¬ B = B + 1 := by omega
  have c2 : ¬ B = B + 2 := by omega
  have c3 : ¬ B = B + 3 := by omega
  have c4 : ¬ B = B + 4 := by omega
  refine ⟨by show jwt σ + 1 + 1 + 1 + 1 = _; omega, rfl, by show jsl σ + 60 + 20 + 20 + 20 = _; omega, fun a k ha => ?_, fun a k ha => ?_, ?_, ?_, ?_, ?_⟩
  · have n1 : ¬ a = B + 1 := by omega
    have n2 : ¬ a = B + 2 := by omega
    have n3 : ¬ a = B + 3 := by omega
    have n4 : ¬ a = B + 4 := by omega
    simp only [jB0, jRI, jnI, jwtq_wR, jwt_n, hw, e2, e3, e4, n1, n2, n3, n4, if_false]
  · have n0 : ¬ a = B := by omega
    have n1 : ¬ a = B + 1 := by omega
    have n2 : ¬ a = B + 2 := by omega
    have n3 : ¬ a = B + 3 := by omega
    have n4 : ¬ a = B + 4 := by omega
    simp only [jB0, jRR, jnR, jwtq_wR, jwt_n, hw, e2, e3, e4, n0, n1, n2, n3, n4, false_and, if_false]
  · simp [jB0, jRR, jnR, jwtq_wR, jwt_n, hw, c1, c2, c3, c4]
  · simp [jB0, jRR, jnR, jwtq_wR, jwt_n, hw, c1, c2, c3, c4]
  · simp [jB0, jRR, jnR, jwtq_wR, jwt_n, hw, c1, c2, c3, c4]
  · simp [jB0, jRR, jnR, jwtq_wR, jwt_n, hw, c1, c2, c3, c4]
theorem jX_f {G : jgG} {σ : jgS} {x : Nat} (hw : jwt σ = x + 1) (hG : G.1 ≤ x) (hl : jLx G x) : (jwt (jX1 σ x) = x + 33 ∧ jhs (jX1 σ x) = jhs σ + 32) ∧ (jwt (jX2 σ x) = x + 227 ∧ jhs (jX2 σ x) = jhs σ + 226) ∧ (jwt (jX3 σ x) = x + 232 ∧ jhs (jX3 σ x) = jhs σ + 231) ∧ (jwt (jX4 σ x) = x + 233 ∧ jhs (jX4 σ x) = jhs σ + 232 ∧ jsl (jX4 σ x) = jsl σ + 2045) := by
  obtain ⟨l0, l1, l2, l3, l4, _⟩ := hl
  have h1 : jwt (jwn σ 8) = (x + 1) + 1 := by show jwt σ + 1 = _; omega
  obtain ⟨d1, d2, d3, _⟩ := jTd_f h1 4
  have a1 : jwt (jX1 σ x) = x + 33 := d1
  have a2 : jhs (jX1 σ x) = jhs σ + 32 := by have e : jhs (jX1 σ x) = jhs (jTd (jwn σ 8) (x + 1) 4) := rfl; have e2 : jhs (jwn σ 8) = jhs σ + 1 := rfl; omega
  have a3 : jsl (jX1 σ x) = jsl σ + 272 := by have e : jsl (jX1 σ x) = jsl (jTd (jwn σ 8) (x + 1) 4) := rfl; have e2 : jsl (jwn σ 8) = jsl σ + 8 := rfl; omega
  have h2 : jwt (jwn (jX1 σ x) 3) = (x + 33) + 1 := by show jwt (jX1 σ x) + 1 = _; omega
  obtain ⟨f1, f2, f3, _⟩ := jHi_f (G := G) h2 (by omega) l4 6 (Nat.le_refl _)
  have b1 : jwt (jX2 σ x) = x + 227 := f1
  have b2 : jhs (jX2 σ x) = jhs σ + 226 := by have e : jhs (jX2 σ x) = jhs (jHi (jwn (jX1 σ x) 3) (x + 33) 6) := rfl; have e2 : jhs (jwn (jX1 σ x) 3) = jhs (jX1 σ x) + 1 := rfl; omega
  have b3 : jsl (jX2 σ x) = jsl σ + 1913 := by have e : jsl (jX2 σ x) = jsl (jHi (jwn (jX1 σ x) 3) (x + 33) 6) := rfl; have e2 : jsl (jwn (jX1 σ x) 3) = jsl (jX1 σ x) + 3 := rfl; omega
  have h3 : jwt (jwn (jX2 σ x) 7) = (x + 227) + 1 := by show jwt (jX2 σ x) + 1 = _; omega
  obtain ⟨g1, g2, g3, _⟩ := jB0_f h3
  have c1 : jwt (jX3 σ x) = x + 232 := g1
  have c2 : jhs (jX3 σ x) = jhs σ + 231 := by have e : jhs (jX3 σ x) = jhs (jB0 (jwn (jX2 σ x) 7) (x + 227)) := rfl; have e2 : jhs (jwn (jX2 σ x) 7) = jhs (jX2 σ x) + 1 := rfl; omega
  have c3 : jsl (jX3 σ x) = jsl σ + 2040 := by have e : jsl (jX3 σ x) = jsl (jB0 (jwn (jX2 σ x) 7) (x + 227)) := rfl; have e2 : jsl (jwn (jX2 σ x) 7) = jsl (jX2 σ x) + 7 := rfl; omega
  exact ⟨⟨a1, a2⟩, ⟨b1, b2⟩, ⟨c1, c2⟩, by show jwt (jX3 σ x) + 1 = _; omega, by show jhs (jX3 σ x) + 1 = _; omega, by show jsl (jX3 σ x) + 5 = _; omega⟩
def Pp_X6_init (G : jgG) (x : Nat) (σ : jgS) : Prop := jo G (jwt σ) x 6 ∧ jwt σ = x + 1 ∧ jhs σ = x + 1 ∧ jLx G x
def Ff_X6_init (G : jgG) (x : Nat) (σ : jgS) : jgR := (.inl none, jX4 σ x)
def P_X6_init (G : jgG) (As : List Value) (σ : jgS) : Prop := ∃ x : Nat, As = [.ref x] ∧ Pp_X6_init G x σ
def F_X6_init (G : jgG) (As : List Value) (σ : jgS) : jgR := Ff_X6_init G (jaR As 0) σ
def S_X6_init (G : jgG) : jgSpec := jsp (P_X6_init G) (F_X6_init G)
theorem PX_X6_init {G : jgG} {x : Nat} {σ : jgS} : P_X6_init G [.ref x] σ ↔ Pp_X6_init G x σ := by unfold P_X6_init; simp [and_assoc]
theorem FX_X6_init {G : jgG} {x : Nat} {σ : jgS} : F_X6_init G [.ref x] σ = Ff_X6_init G x σ := rfl
def I_X6_init : jgI := (2, 6, yX6_init, cX6_init, 1, none, 0, 4, 84, [])
theorem jd_X6_init : I_X6_init.2.2.1.cls ≠ "java/lang/invoke/MethodHandle" ∧ I_X6_init.2.2.1.cls ≠ "java/lang/invoke/VarHandle" ∧ (parseMethodDescriptor I_X6_init.2.2.1.desc).map (fun d => d.parameters.length) = some I_X6_init.2.2.2.2.2.2.1 := ⟨by decide +kernel, by decide +kernel, by decide +kernel⟩
def M_X6_init (G : jgG) : jgM := (cX6_init, [(1, jpO), (7, jpN 5), (9, jpC I_X5_init (S_X5_init G)), (10, jpF 6 0), (16, jpN 1), (18, jpC I_X1_init (S_X1_init G)), (19, jpF 6 1), (23, jpN 0), (25, jpC I_X0_init (S_X0_init G)), (26, jpF 6 2), (30, jpN 2), (32, jpC I_X2_init (S_X2_init G)), (33, jpF 6 3)], [], [], none, true)
theorem bd_X6_init (G : jgG) : ∀ (As : List Value) (σ : jgS) (r : jgR), S_X6_init G As σ r → jhs σ ≤ jhs r.2 ∧ jsl σ ≤ jsl r.2 ∧ (jent As).length ≤ I_X6_init.2.2.2.2.1 ∧ Jr G (M_X6_init G) 0 (jentry As I_X6_init.2.2.2.2.1) [] σ (fun r' => r' = r) := by
  rintro As σ r ⟨⟨x, rfl, hp⟩, rfl⟩
  rw [FX_X6_init]
  refine ⟨(show jhs σ ≤ jhs (jX4 σ x) ∧ jsl σ ≤ jsl (jX4 σ x) from ⟨by have := (jX_f hp.2.1 hp.1.1.1 hp.2.2.2).2.2.2.2.1; omega, by have := (jX_f hp.2.1 hp.1.1.1 hp.2.2.2).2.2.2.2.2; omega⟩).1, (show jhs σ ≤ jhs (jX4 σ x) ∧ jsl σ ≤ jsl (jX4 σ x) from ⟨by have := (jX_f hp.2.1 hp.1.1.1 hp.2.2.2).2.2.2.2.1; omega, by have := (jX_f hp.2.1 hp.1.1.1 hp.2.2.2).2.2.2.2.2; omega⟩).2, by simp [jent, Value.category, I_X6_init], ?_⟩
  show Jr G (M_X6_init G) 0 [some (.ref x)] [] σ (fun r' => r' = Ff_X6_init G x σ)
  obtain ⟨h0, hw, hh, hl⟩ := hp
  have hG := h0.1.1
  obtain ⟨⟨a1, a2⟩, ⟨b1, b2⟩, ⟨c1, c2⟩, ⟨d1, d2, d3⟩⟩ := jX_f hw hG hl
  obtain ⟨l0, l1, l2, l3, l4, l5, l6, l7, l8, l9, l10⟩ := hl
  have a2' : jhs (jX1 σ x) = x + 33 := by omega
  have b2' : jhs (jX2 σ x) = x + 227 := by omega
  have c2' : jhs (jX3 σ x) = x + 232 := by omega
  have j : ∀ n, x < n → jo G n x 6 := fun n hn => ⟨⟨hG, hn⟩, l0⟩
  have i1 : jo G (x + 1 + 1) (x + 1) 5 := ⟨⟨by omega, by omega⟩, l1.1⟩
  have i2 : jo G (x + 33 + 1) (x + 33) 1 := ⟨⟨by omega, by omega⟩, l2⟩
  have i3 : jo G (x + 227 + 1) (x + 227) 0 := ⟨⟨by omega, by omega⟩, l5⟩
  have i4 : jo G (x + 232 + 1) (x + 232) 2 := ⟨⟨by omega, by omega⟩, l10⟩
  have m1 := j (x + 33) (by omega)
  have m2 := j (x + 227) (by omega)
  have m3 := j (x + 232) (by omega)
  have m4 := j (x + 232 + 1) (by omega)
  have l10' := l1.1
  have w1 : jwt (jTd (jwn σ 8) (x + 1) 4) = x + 33 := a1
  have w2 : jwt (jHi (jwn (jX1 σ x) 3) (x + 33) 6) = x + 227 := b1
  have w3 : jwt (jB0 (jwn (jX2 σ x) 7) (x + 227)) = x + 232 := c1
  simp only [jq_aload0 (M := M_X6_init G) 1 dX6_init_0 rfl, jq_obj0 (M := M_X6_init G) 4 dX6_init_1 rfl rfl, jq_aload0 (M := M_X6_init G) 5 dX6_init_4 rfl, jq_new (M := M_X6_init G) 5 8 dX6_init_5 rfl rfl rfl, jq_dupR (M := M_X6_init G) 9 dX6_init_8 rfl, jq_dupI (M := M_X6_init G) 9 dX6_init_8 rfl, jq_spec (M := M_X6_init G) I_X5_init dX6_init_9 rfl (Or.inl rfl) rfl, jq_putR (M := M_X6_init G) 6 0 15 dX6_init_12 rfl rfl rfl rfl, eq_self, jref_10, jref_11, jref_12, jk_v, jk_n, jcat_nil, jcat_i, jcat_r, jcat_l, jcat_d, jc2_i, jc2_r, jc2_n, jc1_i, jc1_r, jrf_some, jwtq_wI, jwtq_wh, jR_wI, jI_wh, jR_wh, List.cons.injEq, Value.int.injEq, Value.ref.injEq, Value.long.injEq, Value.double.injEq, true_and, and_true, and_self, Nat.reduceAdd, Nat.reduceLeDiff, if_true, if_false, ite_true, ite_false, jc1q_i, jc1q_r, jc1q_l, jwtq_wR, jwtq_wY, jI_wI, Nat.reduceEqDiff, and_false, false_and, not_false_eq_true, not_true_eq_false, Nat.zero_le, jobj0, jwt_n, jhs_n, hw, hh, i1, l1, l10', w1, m1, show jN 5 = 8 from rfl, PX_X5_init, FX_X5_init, Pp_X5_init, Ff_X5_init]
  show Jr G (M_X6_init G) _ _ _ (jX1 σ x) _
  simp only [jq_aload0 (M := M_X6_init G) 16 dX6_init_15 rfl, jq_new (M := M_X6_init G) 1 19 dX6_init_16 rfl rfl rfl, jq_dupR (M := M_X6_init G) 20 dX6_init_19 rfl, jq_dupI (M := M_X6_init G) 20 dX6_init_19 rfl, jq_spec (M := M_X6_init G) I_X1_init dX6_init_20 rfl (Or.inl rfl) rfl, jq_putR (M := M_X6_init G) 6 1 26 dX6_init_23 rfl rfl rfl rfl, eq_self, jref_10, jref_11, jref_12, jk_v, jk_n, jcat_nil, jcat_i, jcat_r, jcat_l, jcat_d, jc2_i, jc2_r, jc2_n, jc1_i, jc1_r, jrf_some, jwtq_wI, jwtq_wh, jR_wI, jI_wh, jR_wh, List.cons.injEq, Value.int.injEq, Value.ref.injEq, Value.long.injEq, Value.double.injEq, true_and, and_true, and_self, Nat.reduceAdd, Nat.reduceLeDiff, if_true, if_false, ite_true, ite_false, jc1q_i, jc1q_r, jc1q_l, jwtq_wR, jwtq_wY, jI_wI, Nat.reduceEqDiff, and_false, false_and, not_false_eq_true, not_true_eq_false, Nat.zero_le, jobj0, jwt_n, jhs_n, a1, a2', i2, l2, l3, w2, m2, show jN 1 = 3 from rfl, show x + 33 + 1 = x + 34 from rfl, PX_X1_init, FX_X1_init, Pp_X1_init, Ff_X1_init]
  refine ⟨l4, ?_⟩
  show Jr G (M_X6_init G) _ _ _ (jX2 σ x) _
  simp only [jq_aload0 (M := M_X6_init G) 27 dX6_init_26 rfl, jq_new (M := M_X6_init G) 0 30 dX6_init_27 rfl rfl rfl, jq_dupR (M := M_X6_init G) 31 dX6_init_30 rfl, jq_dupI (M := M_X6_init G) 31 dX6_init_30 rfl, jq_spec (M := M_X6_init G) I_X0_init dX6_init_31 rfl (Or.inr rfl) rfl, jq_putR (M := M_X6_init G) 6 2 37 dX6_init_34 rfl rfl rfl rfl, eq_self, jref_10, jref_11, jref_12, jk_v, jk_n, jcat_nil, jcat_i, jcat_r, jcat_l, jcat_d, jc2_i, jc2_r, jc2_n, jc1_i, jc1_r, jrf_some, jwtq_wI, jwtq_wh, jR_wI, jI_wh, jR_wh, List.cons.injEq, Value.int.injEq, Value.ref.injEq, Value.long.injEq, Value.double.injEq, true_and, and_true, and_self, Nat.reduceAdd, Nat.reduceLeDiff, if_true, if_false, ite_true, ite_false, jc1q_i, jc1q_r, jc1q_l, jwtq_wR, jwtq_wY, jI_wI, Nat.reduceEqDiff, and_false, false_and, not_false_eq_true, not_true_eq_false, Nat.zero_le, jobj0, jwt_n, jhs_n, b1, b2', i3, l5, l6, l7, l8, l9, w3, m3, show jN 0 = 7 from rfl, show x + 227 + 1 = x + 228 from rfl, show x + 227 + 2 = x + 229 from rfl, show x + 227 + 3 = x + 230 from rfl, show x + 227 + 4 = x + 231 from rfl, show jo G (x + 228) (x + 227) 0 from i3, PX_X0_init, FX_X0_init, Pp_X0_init, Ff_X0_init]
  show Jr G (M_X6_init G) _ _ _ (jX3 σ x) _
  simp only [jq_aload0 (M := M_X6_init G) 38 dX6_init_37 rfl, jq_new (M := M_X6_init G) 2 41 dX6_init_38 rfl rfl rfl, jq_dupR (M := M_X6_init G) 42 dX6_init_41 rfl, jq_dupI (M := M_X6_init G) 42 dX6_init_41 rfl, jq_spec (M := M_X6_init G) I_X2_init dX6_init_42 rfl (Or.inr rfl) rfl, jq_putR (M := M_X6_init G) 6 3 48 dX6_init_45 rfl rfl rfl rfl, jq_ret (M := M_X6_init G) dX6_init_48 rfl, eq_self, jref_10, jref_11, jref_12, jk_v, jk_n, jcat_nil, jcat_i, jcat_r, jcat_l, jcat_d, jc2_i, jc2_r, jc2_n, jc1_i, jc1_r, jrf_some, jwtq_wI, jwtq_wh, jR_wI, jI_wh, jR_wh, List.cons.injEq, Value.int.injEq, Value.ref.injEq, Value.long.injEq, Value.double.injEq, true_and, and_true, and_self, Nat.reduceAdd, Nat.reduceLeDiff, if_true, if_false, ite_true, ite_false, jc1q_i, jc1q_r, jc1q_l, jwtq_wR, jwtq_wY, jI_wI, Nat.reduceEqDiff, and_false, false_and, not_false_eq_true, not_true_eq_false, Nat.zero_le, jobj0, jwt_n, jhs_n, c1, c2', i4, l10, m4, show jN 2 = 5 from rfl, PX_X2_init, FX_X2_init, Pp_X2_init, Ff_X2_init]
  rfl
theorem met_X6_init {l : Launch} (hl : l.stackTraces = false) (D : va_G) (cy : Nat → ClassId) (G : jgG) : jMet l D cy G I_X6_init (S_X6_init G) :=
  jr_met hl (M_X6_init G) I_X6_init (S_X6_init G) RX6 rfl (by decide) rfl rfl rfl rfl (fun h => (rfl)) jmAI (fun R h1 h2 => List.forall_mem_cons.mpr ⟨⟨jm_29, jm_30, jmO, by rw [h1]; exact Nat.le_of_ble_eq_true rfl, by rw [h2]; exact Nat.le_of_ble_eq_true rfl⟩, List.forall_mem_cons.mpr ⟨⟨by decide, (RX5, TX5, 8), rfl, jcls5, jm_32, jm_33, jm_11⟩, List.forall_mem_cons.mpr ⟨⟨⟨jm_36, jm_11, jd_X5_init, ⟨by rw [h1]; exact Nat.le_of_ble_eq_true rfl, by rw [h2]; exact Nat.le_of_ble_eq_true rfl⟩, Or.inr (Or.inr (Or.inl ⟨rfl, jm_34, jm_35, rfl, rfl, rfl⟩))⟩, met_X5_init hl D cy G⟩, List.forall_mem_cons.mpr ⟨jpokF (r := (RX6, TX6, 4)) rfl jcls6 (by decide) (by decide) jm_224 (fun _ => rfl), List.forall_mem_cons.mpr ⟨⟨by decide, (RX1, TX1, 3), rfl, jcls1, jm_153, jm_154, jm_14⟩, List.forall_mem_cons.mpr ⟨⟨⟨jm_157, jm_14, jd_X1_init, ⟨by rw [h1]; exact Nat.le_of_ble_eq_true rfl, by rw [h2]; exact Nat.le_of_ble_eq_true rfl⟩, Or.inr (Or.inr (Or.inl ⟨rfl, jm_155, jm_156, rfl, rfl, rfl⟩))⟩, met_X1_init hl D cy G⟩, List.forall_mem_cons.mpr ⟨jpokF (r := (RX6, TX6, 4)) rfl jcls6 (by decide) (by decide) jm_225 (fun _ => rfl), List.forall_mem_cons.mpr ⟨⟨by decide, (RX0, TX0, 7), rfl, jcls0, jm_173, jm_174, jm_15⟩, List.forall_mem_cons.mpr ⟨⟨⟨jm_177, jm_15, jd_X0_init, ⟨by rw [h1]; exact Nat.le_of_ble_eq_true rfl, by rw [h2]; exact Nat.le_of_ble_eq_true rfl⟩, Or.inr (Or.inr (Or.inr (Or.inl ⟨rfl, show (RX6, 25, yX0_init) ∈ jnest from by decide +kernel, jm_176, rfl, rfl, rfl⟩)))⟩, met_X0_init hl D cy G⟩, List.forall_mem_cons.mpr ⟨jpokF (r := (RX6, TX6, 4)) rfl jcls6 (by decide) (by decide) jm_226 (fun _ => rfl), List.forall_mem_cons.mpr ⟨⟨by decide, (RX2, TX2, 5), rfl, jcls2, jm_198, jm_199, jm_16⟩, List.forall_mem_cons.mpr ⟨⟨⟨jm_202, jm_16, jd_X2_init, ⟨by rw [h1]; exact Nat.le_of_ble_eq_true rfl, by rw [h2]; exact Nat.le_of_ble_eq_true rfl⟩, Or.inr (Or.inr (Or.inr (Or.inl ⟨rfl, show (RX6, 32, yX2_init) ∈ jnest from by decide +kernel, jm_201, rfl, rfl, rfl⟩)))⟩, met_X2_init hl D cy G⟩, List.forall_mem_cons.mpr ⟨jpokF (r := (RX6, TX6, 4)) rfl jcls6 (by decide) (by decide) jm_227 (fun _ => rfl), fun _ h => nomatch h⟩⟩⟩⟩⟩⟩⟩⟩⟩⟩⟩⟩⟩) (fun h => absurd rfl h) (fun _ h => nomatch h) (bd_X6_init G)
