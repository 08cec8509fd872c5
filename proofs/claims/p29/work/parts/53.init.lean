/-! constructors -/
section JN
variable {G : jgG} {M : jgM} {pc : Nat} {ls : List (Option Value)} {st : List Value} {σ : jgS} {Φ : jgR → Prop}
theorem jq_obj0 {i a : Nat} (q : Nat) (hd : decode M.1 pc = .ok (.invokespecial i, 3)) (hp : jgfind M.2.1 i = some jpO) (hq : pc + 3 = q) : Jr G M pc ls [.ref a] σ Φ ↔ Jr G M q ls [] σ Φ := jq_obj q hd hp hq (Nat.zero_le 8)
theorem jq_new {i : Nat} (ci q : Nat) (hd : decode M.1 pc = .ok (.new i, 3)) (hx : jgx M.2.2.1 pc = none) (hp : jgfind M.2.1 i = some (jpN ci)) (hq : pc + 3 = q) : Jr G M pc ls st σ Φ ↔ jwt σ = jhs σ ∧ (G.2.2.2.1 (jwt σ)).1 = ci ∧ Jr G M q ls (.ref (jwt σ) :: st) (jwn σ (jN ci)) Φ := by
  subst hq
  rw [jr_step hd]
  simp only [jgOp, hx, true_and]
  constructor
  · rintro ⟨ci', h1, h2, h3, h4⟩
    rw [hp] at h1
    cases h1
    exact ⟨h2, h3, h4⟩
  · rintro ⟨h2, h3, h4⟩
    exact ⟨ci, hp, h2, h3, h4⟩
theorem jq_nwI {n : Int32} (q : Nat) (hd : decode M.1 pc = .ok (.newarray .int, 2)) (hq : pc + 2 = q) : Jr G M pc ls (.int n :: st) σ Φ ↔ ¬ n < 0 ∧ n.toNatClampNeg ≤ 60000000 ∧ jwt σ = jhs σ ∧ G.2.2.2.1 (jwt σ) = (8, n.toNatClampNeg) ∧ Jr G M q ls (.ref (jwt σ) :: st) (jwn σ n.toNatClampNeg) Φ := by
  subst hq
  rw [jr_step hd]
  simp only [jgOp, true_and, List.cons.injEq, Value.int.injEq]
  constructor
  · rintro ⟨n', rest, ⟨rfl, rfl⟩, h1, h2, h3, h4, h5⟩
    exact ⟨h1, h2, h3, h4, h5⟩
  · rintro ⟨h1, h2, h3, h4, h5⟩
    exact ⟨n, st, ⟨rfl, rfl⟩, h1, h2, h3, h4, h5⟩
theorem jq_nwA {n : Int32} {i : Nat} (j q : Nat) (hd : decode M.1 pc = .ok (.anewarray i, 3)) (hp : jgfind M.2.1 (i + 1000) = some (jpA j)) (hq : pc + 3 = q) : Jr G M pc ls (.int n :: st) σ Φ ↔ ¬ n < 0 ∧ n.toNatClampNeg ≤ 60000000 ∧ jwt σ = jhs σ ∧ G.2.2.2.1 (jwt σ) = (10 + j, n.toNatClampNeg) ∧ Jr G M q ls (.ref (jwt σ) :: st) (jwn σ n.toNatClampNeg) Φ := by
  subst hq
  rw [jr_step hd]
  simp only [jgOp, true_and, List.cons.injEq, Value.int.injEq]
  constructor
  · rintro ⟨n', rest, j', ⟨rfl, rfl⟩, h0, h1, h2, h3, h4, h5⟩
    rw [hp] at h0
    cases h0
    exact ⟨h1, h2, h3, h4, h5⟩
  · rintro ⟨h1, h2, h3, h4, h5⟩
    exact ⟨n, st, j, ⟨rfl, rfl⟩, hp, h1, h2, h3, h4, h5⟩
theorem jq_spec {i b : Nat} (I : jgI) {pre : List Value → jgS → Prop} {f : List Value → jgS → jgR} (hd : decode M.1 pc = .ok (.invokespecial i, 3)) (hp : jgfind M.2.1 i = some (jpC I (jsp pre f))) (h0 : I.1 = 2 ∨ I.1 = 3) (hn : I.2.2.2.2.2.2.1 = 0) : Jr G M pc ls (.ref b :: st) σ Φ ↔ jcat st ≤ 8 ∧ pre [.ref b] σ ∧ (f [.ref b] σ).1 = .inl none ∧ Jr G M (pc + 3) ls st (f [.ref b] σ).2 Φ := by
  rw [jr_step hd]
  constructor
  · rintro ⟨-, ⟨h, -⟩ | ⟨I', S', b', As, h, h0', hlen, h1, h4, σ', h56, h7⟩⟩
    · rw [hp] at h
      cases h
    · rw [hp] at h
      cases h
      rw [hn] at h1 h4 h7
      simp only [jargs, List.take_succ_cons, List.take_zero, List.reverse_cons, List.reverse_nil, List.nil_append, List.cons_append, List.cons.injEq, Value.ref.injEq, List.take, List.drop] at h1 h4 h7
      obtain ⟨rfl, rfl⟩ := h1
      obtain ⟨h5, h6⟩ := h56
      refine ⟨h4, h5, by rw [← h6], ?_⟩
      rw [← h6]
      exact h7
  · rintro ⟨h4, h5, h6, h7⟩
    refine ⟨rfl, Or.inr ⟨I, _, b, [], hp, h0, by rw [hn]; simp, by rw [hn]; rfl, by rw [hn]; exact h4, (f [.ref b] σ).2, ⟨h5, by rw [← h6]⟩, ?_⟩⟩
    rw [hn]
    exact h7
end JN
theorem jobj0 : (jcat [] ≤ 8) = True := eq_true (Nat.zero_le 8)
theorem jwt_n (σ : jgS) (n : Nat) : jwt (jwn σ n) = jwt σ + 1 := id rfl
theorem jhs_n (σ : jgS) (n : Nat) : jhs (jwn σ n) = jhs σ + 1 := id rfl
theorem jsl_n (σ : jgS) (n : Nat) : jsl (jwn σ n) = jsl σ + n := id rfl
theorem jhsq_I (σ : jgS) (a k : Nat) (x : Int32) : jhs (jwI σ a k x) = jhs σ := id rfl
theorem jhsq_R (σ : jgS) (a k : Nat) (x : Option Nat) : jhs (jwR σ a k x) = jhs σ := id rfl
theorem jslq_I (σ : jgS) (a k : Nat) (x : Int32) : jsl (jwI σ a k x) = jsl σ := id rfl
theorem jslq_R (σ : jgS) (a k : Nat) (x : Option Nat) : jsl (jwR σ a k x) = jsl σ := id rfl
theorem jnI (σ : jgS) (n a k : Nat) : (jwn σ n).1 a k = if a = jwt σ then 0 else σ.1 a k := id rfl
theorem jnR (σ : jgS) (n a k : Nat) : (jwn σ n).2.1 a k = if a = jwt σ then none else σ.2.1 a k := id rfl
theorem jRI (σ : jgS) (a k : Nat) (x : Option Nat) : (jwR σ a k x).1 = σ.1 := id rfl
theorem jRR (σ : jgS) (a k : Nat) (x : Option Nat) (b j : Nat) : (jwR σ a k x).2.1 b j = if b = a ∧ j = k then x else σ.2.1 b j := id rfl
theorem jIR (σ : jgS) (a k : Nat) (x : Int32) : (jwI σ a k x).2.1 = σ.2.1 := id rfl
def Pp_X4_init (G : jgG) (a : Nat) (σ : jgS) : Prop := jo G (jwt σ) a 4
def Ff_X4_init (G : jgG) (a : Nat) (σ : jgS) : jgR := (.inl none, jwI (jwI σ a 5 (-1)) a 6 (-1))
def P_X4_init (G : jgG) (As : List Value) (σ : jgS) : Prop := ∃ a : Nat, As = [.ref a] ∧ Pp_X4_init G a σ
def F_X4_init (G : jgG) (As : List Value) (σ : jgS) : jgR := Ff_X4_init G (jaR As 0) σ
def S_X4_init (G : jgG) : jgSpec := jsp (P_X4_init G) (F_X4_init G)
theorem PX_X4_init {G : jgG} {a : Nat} {σ : jgS} : P_X4_init G [.ref a] σ ↔ Pp_X4_init G a σ := by unfold P_X4_init; simp [and_assoc]
theorem FX_X4_init {G : jgG} {a : Nat} {σ : jgS} : F_X4_init G [.ref a] σ = Ff_X4_init G a σ := rfl
def I_X4_init : jgI := (3, 4, yX4_init, cX4_init, 1, none, 0, 1, 22, [])
theorem jd_X4_init : I_X4_init.2.2.1.cls ≠ "java/lang/invoke/MethodHandle" ∧ I_X4_init.2.2.1.cls ≠ "java/lang/invoke/VarHandle" ∧ (parseMethodDescriptor I_X4_init.2.2.1.desc).map (fun d => d.parameters.length) = some I_X4_init.2.2.2.2.2.2.1 := ⟨by decide +kernel, by decide +kernel, by decide +kernel⟩
def M_X4_init (G : jgG) : jgM := (cX4_init, [(3, jpO), (9, jpF 4 5), (15, jpF 4 6)], [], [], none, true)
theorem bd_X4_init (G : jgG) : ∀ (As : List Value) (σ : jgS) (r : jgR), S_X4_init G As σ r → jhs σ ≤ jhs r.2 ∧ jsl σ ≤ jsl r.2 ∧ (jent As).length ≤ I_X4_init.2.2.2.2.1 ∧ Jr G (M_X4_init G) 0 (jentry As I_X4_init.2.2.2.2.1) [] σ (fun r' => r' = r) := by
  rintro As σ r ⟨⟨a, rfl, hp⟩, rfl⟩
  rw [FX_X4_init]
  refine ⟨(by first | exact Nat.le_refl _ | (show _ ≤ _; simp only [F_X4_init, Ff_X4_init]; (repeat' split) <;> first | exact Nat.le_refl _ | exact Nat.le_succ _ | exact Nat.le_add_right _ _)), (by first | exact Nat.le_refl _ | (show _ ≤ _; simp only [F_X4_init, Ff_X4_init]; (repeat' split) <;> first | exact Nat.le_refl _ | exact Nat.le_succ _ | exact Nat.le_add_right _ _)), by simp [jent, Value.category, I_X4_init], ?_⟩
  show Jr G (M_X4_init G) 0 [some (.ref a)] [] σ (fun r' => r' = Ff_X4_init G a σ)
  have u := hp
  simp only [jq_aload0 (M := M_X4_init G) 1 dX4_init_0 rfl, jq_obj0 (M := M_X4_init G) 4 dX4_init_1 rfl rfl, jq_aload0 (M := M_X4_init G) 5 dX4_init_4 rfl, jq_iconst (M := M_X4_init G) (-1) 6 dX4_init_5 (by decide) rfl, jq_putI (M := M_X4_init G) 4 5 9 dX4_init_6 rfl rfl rfl, jq_aload0 (M := M_X4_init G) 10 dX4_init_9 rfl, jq_iconst (M := M_X4_init G) (-1) 11 dX4_init_10 (by decide) rfl, jq_putI (M := M_X4_init G) 4 6 14 dX4_init_11 rfl rfl rfl, jq_ret (M := M_X4_init G) dX4_init_14 rfl, eq_self, jref_10, jref_11, jref_12, jk_v, jk_n, jcat_nil, jcat_i, jcat_r, jcat_l, jcat_d, jc2_i, jc2_r, jc2_n, jc1_i, jc1_r, jrf_some, jwtq_wI, jwtq_wh, jR_wI, jI_wh, jR_wh, List.cons.injEq, Value.int.injEq, Value.ref.injEq, Value.long.injEq, Value.double.injEq, true_and, and_true, and_self, Nat.reduceAdd, Nat.reduceLeDiff, if_true, if_false, ite_true, ite_false, jc1q_i, jc1q_r, jc1q_l, jwtq_wR, jwtq_wY, jI_wI, Nat.reduceEqDiff, and_false, false_and, not_false_eq_true, not_true_eq_false, Nat.zero_le, jobj0, show jo G (jwt σ) a 4 from hp, Ff_X4_init]
theorem met_X4_init {l : Launch} (hl : l.stackTraces = false) (D : va_G) (cy : Nat → ClassId) (G : jgG) : jMet l D cy G I_X4_init (S_X4_init G) :=
  jr_met hl (M_X4_init G) I_X4_init (S_X4_init G) RX4 rfl (by decide) rfl rfl rfl rfl (fun h => (rfl)) jmAI (fun R h1 h2 => List.forall_mem_cons.mpr ⟨⟨jm_46, jm_30, jmO, by rw [h1]; exact Nat.le_of_ble_eq_true rfl, by rw [h2]; exact Nat.le_of_ble_eq_true rfl⟩, List.forall_mem_cons.mpr ⟨jpokF (r := (RX4, TX4, 9)) rfl jcls4 (by decide) (by decide) jm_62 (fun _ => rfl), List.forall_mem_cons.mpr ⟨jpokF (r := (RX4, TX4, 9)) rfl jcls4 (by decide) (by decide) jm_65 (fun _ => rfl), fun _ h => nomatch h⟩⟩⟩) (fun h => absurd rfl h) (fun _ h => nomatch h) (bd_X4_init G)
def Pp_X3_init (G : jgG) (a : Nat) (σ : jgS) : Prop := jo G (jwt σ) a 3
def Ff_X3_init (G : jgG) (a : Nat) (σ : jgS) : jgR := (.inl none, jwI σ a 0 255)
def P_X3_init (G : jgG) (As : List Value) (σ : jgS) : Prop := ∃ a : Nat, As = [.ref a] ∧ Pp_X3_init G a σ
def F_X3_init (G : jgG) (As : List Value) (σ : jgS) : jgR := Ff_X3_init G (jaR As 0) σ
def S_X3_init (G : jgG) : jgSpec := jsp (P_X3_init G) (F_X3_init G)
theorem PX_X3_init {G : jgG} {a : Nat} {σ : jgS} : P_X3_init G [.ref a] σ ↔ Pp_X3_init G a σ := by unfold P_X3_init; simp [and_assoc]
theorem FX_X3_init {G : jgG} {a : Nat} {σ : jgS} : F_X3_init G [.ref a] σ = Ff_X3_init G a σ := rfl
def I_X3_init : jgI := (3, 3, yX3_init, cX3_init, 1, none, 0, 1, 22, [])
theorem jd_X3_init : I_X3_init.2.2.1.cls ≠ "java/lang/invoke/MethodHandle" ∧ I_X3_init.2.2.1.cls ≠ "java/lang/invoke/VarHandle" ∧ (parseMethodDescriptor I_X3_init.2.2.1.desc).map (fun d => d.parameters.length) = some I_X3_init.2.2.2.2.2.2.1 := ⟨by decide +kernel, by decide +kernel, by decide +kernel⟩
def M_X3_init (G : jgG) : jgM := (cX3_init, [(3, jpO), (9, jpF 3 0)], [], [], none, true)
theorem bd_X3_init (G : jgG) : ∀ (As : List Value) (σ : jgS) (r : jgR), S_X3_init G As σ r → jhs σ ≤ jhs r.2 ∧ jsl σ ≤ jsl r.2 ∧ (jent As).length ≤ I_X3_init.2.2.2.2.1 ∧ Jr G (M_X3_init G) 0 (jentry As I_X3_init.2.2.2.2.1) [] σ (fun r' => r' = r) := by
  rintro As σ r ⟨⟨a, rfl, hp⟩, rfl⟩
  rw [FX_X3_init]
  refine ⟨(by first | exact Nat.le_refl _ | (show _ ≤ _; simp only [F_X3_init, Ff_X3_init]; (repeat' split) <;> first | exact Nat.le_refl _ | exact Nat.le_succ _ | exact Nat.le_add_right _ _)), (by first | exact Nat.le_refl _ | (show _ ≤ _; simp only [F_X3_init, Ff_X3_init]; (repeat' split) <;> first | exact Nat.le_refl _ | exact Nat.le_succ _ | exact Nat.le_add_right _ _)), by simp [jent, Value.category, I_X3_init], ?_⟩
  show Jr G (M_X3_init G) 0 [some (.ref a)] [] σ (fun r' => r' = Ff_X3_init G a σ)
  simp only [jq_aload0 (M := M_X3_init G) 1 dX3_init_0 rfl, jq_obj0 (M := M_X3_init G) 4 dX3_init_1 rfl rfl, jq_aload0 (M := M_X3_init G) 5 dX3_init_4 rfl, jq_sipush (M := M_X3_init G) 255 8 dX3_init_5 (by decide) rfl, jq_putI (M := M_X3_init G) 3 0 11 dX3_init_8 rfl rfl rfl, jq_ret (M := M_X3_init G) dX3_init_11 rfl, eq_self, jref_10, jref_11, jref_12, jk_v, jk_n, jcat_nil, jcat_i, jcat_r, jcat_l, jcat_d, jc2_i, jc2_r, jc2_n, jc1_i, jc1_r, jrf_some, jwtq_wI, jwtq_wh, jR_wI, jI_wh, jR_wh, List.cons.injEq, Value.int.injEq, Value.ref.injEq, Value.long.injEq, Value.double.injEq, true_and, and_true, and_self, Nat.reduceAdd, Nat.reduceLeDiff, if_true, if_false, ite_true, ite_false, jc1q_i, jc1q_r, jc1q_l, jwtq_wR, jwtq_wY, jI_wI, Nat.reduceEqDiff, and_false, false_and, not_false_eq_true, not_true_eq_false, Nat.zero_le, jobj0, show jo G (jwt σ) a 3 from hp, Ff_X3_init]
theorem met_X3_init {l : Launch} (hl : l.stackTraces = false) (D : va_G) (cy : Nat → ClassId) (G : jgG) : jMet l D cy G I_X3_init (S_X3_init G) :=
  jr_met hl (M_X3_init G) I_X3_init (S_X3_init G) RX3 rfl (by decide) rfl rfl rfl rfl (fun h => (rfl)) jmAI (fun R h1 h2 => List.forall_mem_cons.mpr ⟨⟨jm_98, jm_30, jmO, by rw [h1]; exact Nat.le_of_ble_eq_true rfl, by rw [h2]; exact Nat.le_of_ble_eq_true rfl⟩, List.forall_mem_cons.mpr ⟨jpokF (r := (RX3, TX3, 4)) rfl jcls3 (by decide) (by decide) jm_99 (fun _ => rfl), fun _ h => nomatch h⟩⟩) (fun h => absurd rfl h) (fun _ h => nomatch h) (bd_X3_init G)
def Pp_X2_init (G : jgG) (a : Nat) (σ : jgS) : Prop := jo G (jwt σ) a 2
def Ff_X2_init (G : jgG) (a : Nat) (σ : jgS) : jgR := (.inl none, σ)
def P_X2_init (G : jgG) (As : List Value) (σ : jgS) : Prop := ∃ a : Nat, As = [.ref a] ∧ Pp_X2_init G a σ
def F_X2_init (G : jgG) (As : List Value) (σ : jgS) : jgR := Ff_X2_init G (jaR As 0) σ
def S_X2_init (G : jgG) : jgSpec := jsp (P_X2_init G) (F_X2_init G)
theorem PX_X2_init {G : jgG} {a : Nat} {σ : jgS} : P_X2_init G [.ref a] σ ↔ Pp_X2_init G a σ := by unfold P_X2_init; simp [and_assoc]
theorem FX_X2_init {G : jgG} {a : Nat} {σ : jgS} : F_X2_init G [.ref a] σ = Ff_X2_init G a σ := rfl
def I_X2_init : jgI := (3, 2, yX2_init, cX2_init, 1, none, 0, 1, 22, [])
theorem jd_X2_init : I_X2_init.2.2.1.cls ≠ "java/lang/invoke/MethodHandle" ∧ I_X2_init.2.2.1.cls ≠ "java/lang/invoke/VarHandle" ∧ (parseMethodDescriptor I_X2_init.2.2.1.desc).map (fun d => d.parameters.length) = some I_X2_init.2.2.2.2.2.2.1 := ⟨by decide +kernel, by decide +kernel, by decide +kernel⟩
def M_X2_init (G : jgG) : jgM := (cX2_init, [(3, jpO)], [], [], none, true)
theorem bd_X2_init (G : jgG) : ∀ (As : List Value) (σ : jgS) (r : jgR), S_X2_init G As σ r → jhs σ ≤ jhs r.2 ∧ jsl σ ≤ jsl r.2 ∧ (jent As).length ≤ I_X2_init.2.2.2.2.1 ∧ Jr G (M_X2_init G) 0 (jentry As I_X2_init.2.2.2.2.1) [] σ (fun r' => r' = r) := by
  rintro As σ r ⟨⟨a, rfl, hp⟩, rfl⟩
  rw [FX_X2_init]
  refine ⟨(by first | exact Nat.le_refl _ | (show _ ≤ _; simp only [F_X2_init, Ff_X2_init]; (repeat' split) <;> first | exact Nat.le_refl _ | exact Nat.le_succ _ | exact Nat.le_add_right _ _)), (by first | exact Nat.le_refl _ | (show _ ≤ _; simp only [F_X2_init, Ff_X2_init]; (repeat' split) <;> first | exact Nat.le_refl _ | exact Nat.le_succ _ | exact Nat.le_add_right _ _)), by simp [jent, Value.category, I_X2_init], ?_⟩
  show Jr G (M_X2_init G) 0 [some (.ref a)] [] σ (fun r' => r' = Ff_X2_init G a σ)
  simp only [jq_aload0 (M := M_X2_init G) 1 dX2_init_0 rfl, jq_obj0 (M := M_X2_init G) 4 dX2_init_1 rfl rfl, jq_ret (M := M_X2_init G) dX2_init_4 rfl, eq_self, jref_10, jref_11, jref_12, jk_v, jk_n, jcat_nil, jcat_i, jcat_r, jcat_l, jcat_d, jc2_i, jc2_r, jc2_n, jc1_i, jc1_r, jrf_some, jwtq_wI, jwtq_wh, jR_wI, jI_wh, jR_wh, List.cons.injEq, Value.int.injEq, Value.ref.injEq, Value.long.injEq, Value.double.injEq, true_and, and_true, and_self, Nat.reduceAdd, Nat.reduceLeDiff, if_true, if_false, ite_true, ite_false, jc1q_i, jc1q_r, jc1q_l, jwtq_wR, jwtq_wY, jI_wI, Nat.reduceEqDiff, and_false, false_and, not_false_eq_true, not_true_eq_false, Nat.zero_le, jobj0, Ff_X2_init]
theorem met_X2_init {l : Launch} (hl : l.stackTraces = false) (D : va_G) (cy : Nat → ClassId) (G : jgG) : jMet l D cy G I_X2_init (S_X2_init G) :=
  jr_met hl (M_X2_init G) I_X2_init (S_X2_init G) RX2 rfl (by decide) rfl rfl rfl rfl (fun h => (rfl)) jmAI (fun R h1 h2 => List.forall_mem_cons.mpr ⟨⟨jm_203, jm_30, jmO, by rw [h1]; exact Nat.le_of_ble_eq_true rfl, by rw [h2]; exact Nat.le_of_ble_eq_true rfl⟩, fun _ h => nomatch h⟩) (fun h => absurd rfl h) (fun _ h => nomatch h) (bd_X2_init G)
def jB0 (σ : jgS) (B : Nat) : jgS := jwR (jwn (jwR (jwn (jwR (jwn (jwR (jwn σ 60) B 0 (some (B + 1))) 20) B 2 (some (B + 2))) 20) B 3 (some (B + 3))) 20) B 4 (some (B + 4))
theorem jle4 {a b c : Nat} (h1 : b = a + c) : a ≤ b := by omega
def Pp_X0_init (G : jgG) (B : Nat) (σ : jgS) : Prop := jo G (jwt σ) B 0 ∧ jwt σ = B + 1 ∧ jhs σ = B + 1 ∧ G.2.2.2.1 (B + 1) = (8, 60) ∧ G.2.2.2.1 (B + 2) = (8, 20) ∧ G.2.2.2.1 (B + 3) = (8, 20) ∧ G.2.2.2.1 (B + 4) = (8, 20)
def Ff_X0_init (G : jgG) (B : Nat) (σ : jgS) : jgR := (.inl none, jB0 σ B)
def P_X0_init (G : jgG) (As : List Value) (σ : jgS) : Prop := ∃ B : Nat, As = [.ref B] ∧ Pp_X0_init G B σ
def F_X0_init (G : jgG) (As : List Value) (σ : jgS) : jgR := Ff_X0_init G (jaR As 0) σ
def S_X0_init (G : jgG) : jgSpec := jsp (P_X0_init G) (F_X0_init G)
theorem PX_X0_init {G : jgG} {B : Nat} {σ : jgS} : P_X0_init G [.ref B] σ ↔ Pp_X0_init G B σ := by unfold P_X0_init; simp [and_assoc]
theorem FX_X0_init {G : jgG} {B : Nat} {σ : jgS} : F_X0_init G [.ref B] σ = Ff_X0_init G B σ := rfl
def I_X0_init : jgI := (3, 0, yX0_init, cX0_init, 1, none, 0, 1, 22, [])
theorem jd_X0_init : I_X0_init.2.2.1.cls ≠ "java/lang/invoke/MethodHandle" ∧ I_X0_init.2.2.1.cls ≠ "java/lang/invoke/VarHandle" ∧ (parseMethodDescriptor I_X0_init.2.2.1.desc).map (fun d => d.parameters.length) = some I_X0_init.2.2.2.2.2.2.1 := ⟨by decide +kernel, by decide +kernel, by decide +kernel⟩
def M_X0_init (G : jgG) : jgM := (cX0_init, [(3, jpO), (9, jpF 0 0), (15, jpF 0 2), (18, jpF 0 3), (21, jpF 0 4)], [], [], none, true)
theorem bd_X0_init (G : jgG) : ∀ (As : List Value) (σ : jgS) (r : jgR), S_X0_init G As σ r → jhs σ ≤ jhs r.2 ∧ jsl σ ≤ jsl r.2 ∧ (jent As).length ≤ I_X0_init.2.2.2.2.1 ∧ Jr G (M_X0_init G) 0 (jentry As I_X0_init.2.2.2.2.1) [] σ (fun r' => r' = r) := by
  rintro As σ r ⟨⟨B, rfl, hp⟩, rfl⟩
  rw [FX_X0_init]
  refine ⟨(show jhs σ ≤ jhs (jB0 σ B) ∧ jsl σ ≤ jsl (jB0 σ B) from ⟨jle4 (c := 4) rfl, jle4 (c := 60 + 20 + 20 + 20) (by show jsl σ + 60 + 20 + 20 + 20 = _; omega)⟩).1, (show jhs σ ≤ jhs (jB0 σ B) ∧ jsl σ ≤ jsl (jB0 σ B) from ⟨jle4 (c := 4) rfl, jle4 (c := 60 + 20 + 20 + 20) (by show jsl σ + 60 + 20 + 20 + 20 = _; omega)⟩).2, by simp [jent, Value.category, I_X0_init], ?_⟩
  show Jr G (M_X0_init G) 0 [some (.ref B)] [] σ (fun r' => r' = Ff_X0_init G B σ)
  obtain ⟨h0, hw, hh, k1, k2, k3, k4⟩ := hp
  have j1 : ∀ n, jo G (B + (n + 1)) B 0 := fun n => ⟨⟨h0.1.1, by omega⟩, h0.2⟩
  have j2 : jo G (B + 2) B 0 := j1 1
  have j3 : jo G (B + 3) B 0 := j1 2
  have j4 : jo G (B + 4) B 0 := j1 3
  have j5 : jo G (B + 5) B 0 := j1 4
  have e2 : B + 1 + 1 = B + 2 := rfl
  have e3 : B + 2 + 1 = B + 3 := rfl
  have e4 : B + 3 + 1 = B + 4 := rfl
  have e5 : B + 4 + 1 = B + 5 := rfl
  simp only [jq_aload0 (M := M_X0_init G) 1 dX0_init_0 rfl, jq_obj0 (M := M_X0_init G) 4 dX0_init_1 rfl rfl, jq_aload0 (M := M_X0_init G) 5 dX0_init_4 rfl, jq_bipush (M := M_X0_init G) 60 7 dX0_init_5 (by decide) rfl, jq_nwI (M := M_X0_init G) 9 dX0_init_7 rfl, jq_putR (M := M_X0_init G) 0 0 12 dX0_init_9 rfl rfl rfl rfl, jq_aload0 (M := M_X0_init G) 13 dX0_init_12 rfl, jq_bipush (M := M_X0_init G) 20 15 dX0_init_13 (by decide) rfl, jq_nwI (M := M_X0_init G) 17 dX0_init_15 rfl, jq_putR (M := M_X0_init G) 0 2 20 dX0_init_17 rfl rfl rfl rfl, jq_aload0 (M := M_X0_init G) 21 dX0_init_20 rfl, jq_bipush (M := M_X0_init G) 20 23 dX0_init_21 (by decide) rfl, jq_nwI (M := M_X0_init G) 25 dX0_init_23 rfl, jq_putR (M := M_X0_init G) 0 3 28 dX0_init_25 rfl rfl rfl rfl, jq_aload0 (M := M_X0_init G) 29 dX0_init_28 rfl, jq_bipush (M := M_X0_init G) 20 31 dX0_init_29 (by decide) rfl, jq_nwI (M := M_X0_init G) 33 dX0_init_31 rfl, jq_putR (M := M_X0_init G) 0 4 36 dX0_init_33 rfl rfl rfl rfl, jq_ret (M := M_X0_init G) dX0_init_36 rfl, eq_self, jref_10, jref_11, jref_12, jk_v, jk_n, jcat_nil, jcat_i, jcat_r, jcat_l, jcat_d, jc2_i, jc2_r, jc2_n, jc1_i, jc1_r, jrf_some, jwtq_wI, jwtq_wh, jR_wI, jI_wh, jR_wh, List.cons.injEq, Value.int.injEq, Value.ref.injEq, Value.long.injEq, Value.double.injEq, true_and, and_true, and_self, Nat.reduceAdd, Nat.reduceLeDiff, if_true, if_false, ite_true, ite_false, jc1q_i, jc1q_r, jc1q_l, jwtq_wR, jwtq_wY, jI_wI, Nat.reduceEqDiff, and_false, false_and, not_false_eq_true, not_true_eq_false, Nat.zero_le, jobj0, jwt_n, jhs_n, jhsq_I, jhsq_R, jnI, jnR, jRI, jRR, jIR, jI_wI, hw, hh, e2, e3, e4, e5, j2, j3, j4, j5, k1, k2, k3, k4, show ¬ (60 : Int32) < 0 from by decide, show (60 : Int32).toNatClampNeg = 60 from by decide, show (60 : Nat) ≤ 60000000 from by decide, show ¬ (20 : Int32) < 0 from by decide, show (20 : Int32).toNatClampNeg = 20 from by decide, show (20 : Nat) ≤ 60000000 from by decide, Ff_X0_init, jB0]
theorem met_X0_init {l : Launch} (hl : l.stackTraces = false) (D : va_G) (cy : Nat → ClassId) (G : jgG) : jMet l D cy G I_X0_init (S_X0_init G) :=
  jr_met hl (M_X0_init G) I_X0_init (S_X0_init G) RX0 rfl (by decide) rfl rfl rfl rfl (fun h => (rfl)) jmAI (fun R h1 h2 => List.forall_mem_cons.mpr ⟨⟨jm_178, jm_30, jmO, by rw [h1]; exact Nat.le_of_ble_eq_true rfl, by rw [h2]; exact Nat.le_of_ble_eq_true rfl⟩, List.forall_mem_cons.mpr ⟨jpokF (r := (RX0, TX0, 7)) rfl jcls0 (by decide) (by decide) jm_179 (fun _ => rfl), List.forall_mem_cons.mpr ⟨jpokF (r := (RX0, TX0, 7)) rfl jcls0 (by decide) (by decide) jm_180 (fun _ => rfl), List.forall_mem_cons.mpr ⟨jpokF (r := (RX0, TX0, 7)) rfl jcls0 (by decide) (by decide) jm_181 (fun _ => rfl), List.forall_mem_cons.mpr ⟨jpokF (r := (RX0, TX0, 7)) rfl jcls0 (by decide) (by decide) jm_182 (fun _ => rfl), fun _ h => nomatch h⟩⟩⟩⟩⟩) (fun h => absurd rfl h) (fun _ h => nomatch h) (bd_X0_init G)
/-- the kinds at a table's addresses -/
def jLy (G : jgG) (h : Nat) : Prop := (G.2.2.2.1 h).1 = 5 ∧ G.2.2.2.1 (h + 1) = (10, 24) ∧ G.2.2.2.1 (h + 2) = (11, 4) ∧ G.2.2.2.1 (h + 3) = (8, 4) ∧ (∀ i, i < 24 → (G.2.2.2.1 (h + 4 + i)).1 = 4) ∧ ∀ r, r < 4 → (G.2.2.2.1 (h + 28 + r)).1 = 3
def jT3 (σ : jgS) (h : Nat) : jgS := jwR (jwI (jwI (jwI (jwI (jwn (jwR (jwn (jwR (jwn σ 24) h 0 (some (h + 1))) 4) h 1 (some (h + 2))) 4) (h + 3) 0 5) (h + 3) 1 3) (h + 3) 2 0) (h + 3) 3 4) h 2 (some (h + 3))
def jTrs (h j : Nat) (τ : jgS) : jgS := jwR (jwI (jwI (jwn τ 9) (h + 4 + j) 5 (-1)) (h + 4 + j) 6 (-1)) (h + 1) j (some (h + 4 + j))
def jTr (σ : jgS) (h i : Nat) : jgS := jfd (jTrs h) i (jT3 σ h)
def jTds (h j : Nat) (τ : jgS) : jgS := jwR (jwI (jwn τ 4) (h + 28 + j) 0 255) (h + 2) j (some (h + 28 + j))
def jTd (σ : jgS) (h i : Nat) : jgS := jfd (jTds h) i (jTr σ h 24)
theorem jT3_f {σ : jgS} {h : Nat} (hw : jwt σ = h + 1) : jwt (jT3 σ h) = h + 4 ∧ jhs (jT3 σ h) = jhs σ + 3 ∧ jsl (jT3 σ h) = jsl σ + 32 ∧ (∀ a k, a < h + 1 → (jT3 σ h).1 a k = σ.1 a k) ∧ ((jT3 σ h).1 (h + 3) 0 = 5 ∧ (jT3 σ h).1 (h + 3) 1 = 3 ∧ (jT3 σ h).1 (h + 3) 2 = 0 ∧ (jT3 σ h).1 (h + 3) 3 = 4) ∧ (∀ a k, a < h → (jT3 σ h).2.1 a k = σ.2.1 a k) ∧ ((jT3 σ h).2.1 h 0 = some (h + 1) ∧ (jT3 σ h).2.1 h 1 = some (h + 2) ∧ (jT3 σ h).2.1 h 2 = some (h + 3)) := by
  have e2 : h + 1 + 1 = h + 2 := rfl
  have e3 : h + 2 + 1 = h + 3 := rfl
  have c1 : ¬ h = h + 3 := by omega
  have c2 : ¬ h = h + 2 := by omega
  have c3 : ¬ h = h + 1 := by omega
  refine ⟨by show jwt σ + 1 + 1 + 1 = _; omega, rfl, by show jsl σ + 24 + 4 + 4 = _; omega, fun a k ha => ?_, ⟨?_, ?_, ?_, ?_⟩, fun a k ha => ?_, ?_, ?_, ?_⟩
  · have n1 : ¬ a = h + 3 := by omega
    have n2 : ¬ a = h + 2 := by omega
    have n3 : ¬ a = h + 1 := by omega
    simp only [jT3, jRI, jI_wI, jnI, jwtq_wR, jwt_n, hw, e2, e3, n1, n2, n3, false_and, if_false]
  · simp [jT3, jRI, jI_wI]
  · simp [jT3, jRI, jI_wI]
  · simp [jT3, jRI, jI_wI]
  · simp [jT3, jRI, jI_wI]
  · have n1 : ¬ a = h + 3 := by omega
    have n2 : ¬ a = h + 2 := by omega
    have n3 : ¬ a = h + 1 := by omega
    have n4 : ¬ a = h := by omega
    simp only [jT3, jRR, jIR, jnR, jwtq_wR, jwt_n, hw, e2, e3, n1, n2, n3, n4, false_and, if_false]
  · simp [jT3, jRR, jIR, jnR, jwtq_wR, jwt_n, hw, c1, c2, c3]
  · simp [jT3, jRR, jIR, jnR, jwtq_wR, jwt_n, hw, c1, c2, c3]
  · simp [jT3, jRR, jIR, jnR, jwtq_wR, jwt_n, hw, c1, c2, c3]
theorem jTr_f {σ : jgS} {h : Nat} (hw : jwt σ = h + 1) : ∀ i, jwt (jTr σ h i) = h + 4 + i ∧ jhs (jTr σ h i) = jhs σ + 3 + i ∧ jsl (jTr σ h i) = jsl σ + 32 + 9 * i ∧ (∀ a k, a < h + 4 → (jTr σ h i).1 a k = (jT3 σ h).1 a k) ∧ (∀ a k, a < h + 4 → ¬ a = h + 1 → (jTr σ h i).2.1 a k = (jT3 σ h).2.1 a k) ∧ (∀ j, j < i → (jTr σ h i).2.1 (h + 1) j = some (h + 4 + j))
  | 0 => by
    obtain ⟨f1, f2, f3, _⟩ := jT3_f hw
    exact ⟨f1, f2, f3, fun _ _ _ => rfl, fun _ _ _ _ => rfl, fun j hj => absurd hj (by omega)⟩
  | i + 1 => by
    obtain ⟨f1, f2, f3, f4, f5, f6⟩ := jTr_f hw i
    have e : jTr σ h (i + 1) = jTrs h i (jTr σ h i) := jfd_s _ _ _
    rw [e]
    generalize jTr σ h i = τ at *
    refine ⟨by show jwt τ + 1 = _; omega, by show jhs τ + 1 = _; omega, by show jsl τ + 9 = _; omega, fun a k ha => ?_, fun a k ha hn => ?_, fun j hj => ?_⟩
    · have n1 : ¬ a = h + 4 + i := by omega
      simp only [jTrs, jRI, jI_wI, jnI, f1, n1, false_and, if_false]
      exact f4 a k ha
    · have n1 : ¬ a = h + 4 + i := by omega
      simp only [jTrs, jRR, jIR, jnR, f1, n1, hn, false_and, if_false]
      exact f5 a k ha hn
    · have n1 : ¬ h + 1 = h + 4 + i := by omega
      by_cases c : j = i
      · subst c
        simp only [jTrs, jRR, true_and, if_true]
      · simp only [jTrs, jRR, jIR, jnR, f1, n1, c, and_false, if_false]
        exact f6 j (by omega)
theorem jTd_f {σ : jgS} {h : Nat} (hw : jwt σ = h + 1) : ∀ i, jwt (jTd σ h i) = h + 28 + i ∧ jhs (jTd σ h i) = jhs σ + 27 + i ∧ jsl (jTd σ h i) = jsl σ + 248 + 4 * i ∧ (∀ a k, a < h + 28 → (jTd σ h i).1 a k = (jTr σ h 24).1 a k) ∧ (∀ a k, a < h + 28 → ¬ a = h + 2 → (jTd σ h i).2.1 a k = (jTr σ h 24).2.1 a k) ∧ (∀ j, j < i → (jTd σ h i).2.1 (h + 2) j = some (h + 28 + j)) ∧ (∀ j, j < i → ∀ k, (jTd σ h i).1 (h + 28 + j) k = if k = 0 then 255 else 0)
  | 0 => by
    obtain ⟨f1, f2, f3, _⟩ := jTr_f hw 24
    exact ⟨f1, f2, f3, fun _ _ _ => rfl, fun _ _ _ _ => rfl, fun j hj => absurd hj (by omega), fun j hj => absurd hj (by omega)⟩
  | i + 1 => by
    obtain ⟨f1, f2, f3, f4, f5, f6, f7⟩ := jTd_f hw i
    have e : jTd σ h (i + 1) = jTds h i (jTd σ h i) := jfd_s _ _ _
    rw [e]
    generalize jTd σ h i = τ at *
    refine ⟨by show jwt τ + 1 = _; omega, by show jhs τ + 1 = _; omega, by show jsl τ + 4 = _; omega, fun a k ha => ?_, fun a k ha hn => ?_, fun j hj => ?_, fun j hj k => ?_⟩
    · have n1 : ¬ a = h + 28 + i := by omega
      simp only [jTds, jRI, jI_wI, jnI, f1, n1, false_and, if_false]
      exact f4 a k ha
    · have n1 : ¬ a = h + 28 + i := by omega
      simp only [jTds, jRR, jIR, jnR, f1, n1, hn, false_and, if_false]
      exact f5 a k ha hn
    · have n1 : ¬ h + 2 = h + 28 + i := by omega
      by_cases c : j = i
      · subst c
        simp only [jTds, jRR, true_and, if_true]
      · simp only [jTds, jRR, jIR, jnR, f1, n1, c, and_false, if_false]
        exact f6 j (by omega)
    · by_cases c : j = i
      · subst c
        by_cases d : k = 0
        · simp only [jTds, jRI, jI_wI, d, and_self, if_true]
        · simp only [jTds, jRI, jI_wI, jnI, f1, d, and_false, if_false, if_true]
      · have n1 : ¬ h + 28 + j = h + 28 + i := by omega
        simp only [jTds, jRI, jI_wI, jnI, f1, n1, false_and, if_false]
        exact f7 j (by omega) k
def Pp_X5_init (G : jgG) (h : Nat) (σ : jgS) : Prop := jo G (jwt σ) h 5 ∧ jwt σ = h + 1 ∧ jhs σ = h + 1 ∧ jLy G h
def Ff_X5_init (G : jgG) (h : Nat) (σ : jgS) : jgR := (.inl none, jTd σ h 4)
def P_X5_init (G : jgG) (As : List Value) (σ : jgS) : Prop := ∃ h : Nat, As = [.ref h] ∧ Pp_X5_init G h σ
def F_X5_init (G : jgG) (As : List Value) (σ : jgS) : jgR := Ff_X5_init G (jaR As 0) σ
def S_X5_init (G : jgG) : jgSpec := jsp (P_X5_init G) (F_X5_init G)
theorem PX_X5_init {G : jgG} {h : Nat} {σ : jgS} : P_X5_init G [.ref h] σ ↔ Pp_X5_init G h σ := by unfold P_X5_init; simp [and_assoc]
theorem FX_X5_init {G : jgG} {h : Nat} {σ : jgS} : F_X5_init G [.ref h] σ = Ff_X5_init G h σ := rfl
def I_X5_init : jgI := (2, 5, yX5_init, cX5_init, 2, none, 0, 2, 42, [])
theorem jd_X5_init : I_X5_init.2.2.1.cls ≠ "java/lang/invoke/MethodHandle" ∧ I_X5_init.2.2.1.cls ≠ "java/lang/invoke/VarHandle" ∧ (parseMethodDescriptor I_X5_init.2.2.1.desc).map (fun d => d.parameters.length) = some I_X5_init.2.2.2.2.2.2.1 := ⟨by decide +kernel, by decide +kernel, by decide +kernel⟩
def M_X5_init (G : jgG) : jgM := (cX5_init, [(3, jpO), (9, jpN 4), (11, jpF 5 0), (17, jpN 3), (19, jpF 5 1), (23, jpF 5 2), (27, jpC I_X4_init (S_X4_init G)), (28, jpC I_X3_init (S_X3_init G)), (1009, jpA 0), (1017, jpA 1)], [], [], none, true)
theorem bd_X5_init (G : jgG) : ∀ (As : List Value) (σ : jgS) (r : jgR), S_X5_init G As σ r → jhs σ ≤ jhs r.2 ∧ jsl σ ≤ jsl r.2 ∧ (jent As).length ≤ I_X5_init.2.2.2.2.1 ∧ Jr G (M_X5_init G) 0 (jentry As I_X5_init.2.2.2.2.1) [] σ (fun r' => r' = r) := by
  rintro As σ r ⟨⟨h, rfl, hp⟩, rfl⟩
  rw [FX_X5_init]
  refine ⟨(show jhs σ ≤ jhs (jTd σ h 4) ∧ jsl σ ≤ jsl (jTd σ h 4) from ⟨by have := (jTd_f hp.2.1 4).2.1; omega, by have := (jTd_f hp.2.1 4).2.2.1; omega⟩).1, (show jhs σ ≤ jhs (jTd σ h 4) ∧ jsl σ ≤ jsl (jTd σ h 4) from ⟨by have := (jTd_f hp.2.1 4).2.1; omega, by have := (jTd_f hp.2.1 4).2.2.1; omega⟩).2, by simp [jent, Value.category, I_X5_init], ?_⟩
  show Jr G (M_X5_init G) 0 [some (.ref h), none] [] σ (fun r' => r' = Ff_X5_init G h σ)
  obtain ⟨h0, hw, hh, k0, k1, k2, k3, kr, kd⟩ := hp
  have j1 : ∀ n, jo G (h + (n + 1)) h 5 := fun n => ⟨⟨h0.1.1, by omega⟩, h0.2⟩
  have hG := h0.1.1
  have j2 : jo G (h + 2) h 5 := j1 1
  have j3 : jo G (h + 3) h 5 := j1 2
  have j4 : jo G (h + 4) h 5 := j1 3
  have l3 : jl G (h + 4) (h + 3) := ⟨by omega, by omega⟩
  have e2 : h + 1 + 1 = h + 2 := rfl
  have e3 : h + 2 + 1 = h + 3 := rfl
  have e4 : h + 3 + 1 = h + 4 := rfl
  have v0 : vp_in 0 4 := vp_in_nI (n := 0) (by decide) (by decide)
  have v1 : vp_in 1 4 := vp_in_nI (n := 1) (by decide) (by decide)
  have v2 : vp_in 2 4 := vp_in_nI (n := 2) (by decide) (by decide)
  have v3 : vp_in 3 4 := vp_in_nI (n := 3) (by decide) (by decide)
  simp only [jq_aload0 (M := M_X5_init G) 1 dX5_init_0 rfl, jq_obj0 (M := M_X5_init G) 4 dX5_init_1 rfl rfl, jq_aload0 (M := M_X5_init G) 5 dX5_init_4 rfl, jq_bipush (M := M_X5_init G) 24 7 dX5_init_5 (by decide) rfl, jq_nwA (M := M_X5_init G) 0 10 dX5_init_7 rfl rfl, jq_putR (M := M_X5_init G) 5 0 13 dX5_init_10 rfl rfl rfl rfl, jq_aload0 (M := M_X5_init G) 14 dX5_init_13 rfl, jq_iconst (M := M_X5_init G) 4 15 dX5_init_14 (by decide) rfl, jq_nwA (M := M_X5_init G) 1 18 dX5_init_15 rfl rfl, jq_putR (M := M_X5_init G) 5 1 21 dX5_init_18 rfl rfl rfl rfl, jq_aload0 (M := M_X5_init G) 22 dX5_init_21 rfl, jq_iconst (M := M_X5_init G) 4 23 dX5_init_22 (by decide) rfl, jq_nwI (M := M_X5_init G) 25 dX5_init_23 rfl, jq_dupR (M := M_X5_init G) 26 dX5_init_25 rfl, jq_dupI (M := M_X5_init G) 26 dX5_init_25 rfl, jq_iconst (M := M_X5_init G) 0 27 dX5_init_26 (by decide) rfl, jq_iconst (M := M_X5_init G) 5 28 dX5_init_27 (by decide) rfl, jq_iast (M := M_X5_init G) 29 dX5_init_28 rfl, jq_dupR (M := M_X5_init G) 30 dX5_init_29 rfl, jq_dupI (M := M_X5_init G) 30 dX5_init_29 rfl, jq_iconst (M := M_X5_init G) 1 31 dX5_init_30 (by decide) rfl, jq_iconst (M := M_X5_init G) 3 32 dX5_init_31 (by decide) rfl, jq_iast (M := M_X5_init G) 33 dX5_init_32 rfl, jq_dupR (M := M_X5_init G) 34 dX5_init_33 rfl, jq_dupI (M := M_X5_init G) 34 dX5_init_33 rfl, jq_iconst (M := M_X5_init G) 2 35 dX5_init_34 (by decide) rfl, jq_iconst (M := M_X5_init G) 0 36 dX5_init_35 (by decide) rfl, jq_iast (M := M_X5_init G) 37 dX5_init_36 rfl, jq_dupR (M := M_X5_init G) 38 dX5_init_37 rfl, jq_dupI (M := M_X5_init G) 38 dX5_init_37 rfl, jq_iconst (M := M_X5_init G) 3 39 dX5_init_38 (by decide) rfl, jq_iconst (M := M_X5_init G) 4 40 dX5_init_39 (by decide) rfl, jq_iast (M := M_X5_init G) 41 dX5_init_40 rfl, jq_putR (M := M_X5_init G) 5 2 44 dX5_init_41 rfl rfl rfl rfl, jq_iconst (M := M_X5_init G) 0 45 dX5_init_44 (by decide) rfl, jq_istore1 (M := M_X5_init G) 46 dX5_init_45 rfl, eq_self, jref_10, jref_11, jref_12, jk_v, jk_n, jcat_nil, jcat_i, jcat_r, jcat_l, jcat_d, jc2_i, jc2_r, jc2_n, jc1_i, jc1_r, jrf_some, jwtq_wI, jwtq_wh, jR_wI, jI_wh, jR_wh, List.cons.injEq, Value.int.injEq, Value.ref.injEq, Value.long.injEq, Value.double.injEq, true_and, and_true, and_self, Nat.reduceAdd, Nat.reduceLeDiff, if_true, if_false, ite_true, ite_false, jc1q_i, jc1q_r, jc1q_l, jwtq_wR, jwtq_wY, jI_wI, Nat.reduceEqDiff, and_false, false_and, not_false_eq_true, not_true_eq_false, Nat.zero_le, jobj0, jwt_n, jhs_n, jhsq_I, jhsq_R, jnI, jnR, jRI, jRR, jIR, jI_wI, hw, hh, e2, e3, e4, j2, j3, j4, l3, k1, k2, k3, v0, v1, v2, v3, jcl_0, jcl_1, jcl_2, jcl_3, show ¬ (24 : Int32) < 0 from by decide, show (24 : Int32).toNatClampNeg = 24 from by decide, show (24 : Nat) ≤ 60000000 from by decide, show ¬ (4 : Int32) < 0 from by decide, show (4 : Int32).toNatClampNeg = 4 from by decide, show (4 : Nat) ≤ 60000000 from by decide]
  have hD : ∀ o, Jr G (M_X5_init G) 73 [some (.ref h), o] [] (jTr σ h 24) (fun r' => r' = Ff_X5_init G h σ) → True := fun _ _ => trivial
  have hB : Jr G (M_X5_init G) 73 [some (.ref h), some (.int (nI 0))] [] (jTd σ h 0) (fun r' => r' = Ff_X5_init G h σ) := by
    refine jloop (P := fun i => Jr G (M_X5_init G) 73 [some (.ref h), some (.int (nI i))] [] (jTd σ h i) (fun r' => r' = Ff_X5_init G h σ)) (n := 4) ?_ (fun i hlt ih => ?_)
    · show Jr G (M_X5_init G) 73 _ _ _ _
      rw [jq_iload1 (M := M_X5_init G) 74 dX5_init_73 rfl]
      simp only [jq_iconst (M := M_X5_init G) 4 75 dX5_init_74 (by decide) rfl, jq_icmp_ge (M := M_X5_init G) 97 78 dX5_init_75 (by decide) rfl, jq_ret (M := M_X5_init G) dX5_init_97 rfl, eq_self, jref_10, jref_11, jref_12, jk_v, jk_n, jcat_nil, jcat_i, jcat_r, jcat_l, jcat_d, jc2_i, jc2_r, jc2_n, jc1_i, jc1_r, jrf_some, jwtq_wI, jwtq_wh, jR_wI, jI_wh, jR_wh, List.cons.injEq, Value.int.injEq, Value.ref.injEq, Value.long.injEq, Value.double.injEq, true_and, and_true, and_self, Nat.reduceAdd, Nat.reduceLeDiff, if_true, if_false, ite_true, ite_false, jc1q_i, jc1q_r, jc1q_l, jwtq_wR, jwtq_wY, jI_wI, Nat.reduceEqDiff, and_false, false_and, not_false_eq_true, not_true_eq_false, show (4 : Int32) ≤ nI 4 from by decide]
      rfl
    · show Jr G (M_X5_init G) 73 _ _ _ _
      have hc : ¬ (4 : Int32) ≤ nI i := nI_ge (b := 4) hlt (by decide)
      have hv : vp_in (nI i) 4 := vp_in_nI (by omega) (by decide)
      have hcl : (nI i).toNatClampNeg = i := nI_clamp (by omega)
      obtain ⟨f1, f2, f3, f4, f5, f6, f7⟩ := jTd_f hw i
      have g1 : (jTd σ h i).2.1 h 1 = some (h + 2) := (f5 h 1 (by omega) (by omega)).trans (((jTr_f hw 24).2.2.2.2.1 h 1 (by omega) (by omega)).trans (jT3_f hw).2.2.2.2.2.2.2.1)
      have e : jTd σ h (i + 1) = jTds h i (jTd σ h i) := jfd_s _ _ _
      rw [e, ← nI_1] at ih
      have f2' : jhs (jTd σ h i) = h + 28 + i := by omega
      have o1 : jo G (h + 28 + i) h 5 := ⟨⟨hG, by omega⟩, h0.2⟩
      have o2 : jo G (h + 28 + i + 1) (h + 28 + i) 3 := ⟨⟨by omega, by omega⟩, kd i hlt⟩
      have o3 : jl G (h + 28 + i + 1) (h + 2) := ⟨by omega, by omega⟩
      have kdi := kd i hlt
      rw [jq_iload1 (M := M_X5_init G) 74 dX5_init_73 rfl]
      generalize jTd σ h i = τ at *
      simp only [jq_iconst (M := M_X5_init G) 4 75 dX5_init_74 (by decide) rfl, jq_icmp_ge (M := M_X5_init G) 97 78 dX5_init_75 (by decide) rfl, jq_aload0 (M := M_X5_init G) 79 dX5_init_78 rfl, jq_getR (M := M_X5_init G) 5 1 82 dX5_init_79 rfl rfl rfl, jq_iload1 (M := M_X5_init G) 83 dX5_init_82 rfl, jq_new (M := M_X5_init G) 3 86 dX5_init_83 rfl rfl rfl, jq_dupR (M := M_X5_init G) 87 dX5_init_86 rfl, jq_dupI (M := M_X5_init G) 87 dX5_init_86 rfl, jq_spec (M := M_X5_init G) I_X3_init dX5_init_87 rfl (Or.inr rfl) rfl, jq_aast (M := M_X5_init G) 91 dX5_init_90 rfl, jq_iinc1 (M := M_X5_init G) 1 94 dX5_init_91 (by decide) rfl, jq_goto (M := M_X5_init G) 73 dX5_init_94 (by decide), eq_self, jref_10, jref_11, jref_12, jk_v, jk_n, jcat_nil, jcat_i, jcat_r, jcat_l, jcat_d, jc2_i, jc2_r, jc2_n, jc1_i, jc1_r, jrf_some, jwtq_wI, jwtq_wh, jR_wI, jI_wh, jR_wh, List.cons.injEq, Value.int.injEq, Value.ref.injEq, Value.long.injEq, Value.double.injEq, true_and, and_true, and_self, Nat.reduceAdd, Nat.reduceLeDiff, if_true, if_false, ite_true, ite_false, jc1q_i, jc1q_r, jc1q_l, jwtq_wR, jwtq_wY, jI_wI, Nat.reduceEqDiff, and_false, false_and, not_false_eq_true, not_true_eq_false, Nat.zero_le, jobj0, hc, jwt_n, jhs_n, jhsq_I, jhsq_R, jnI, jnR, jRI, jRR, jIR, jI_wI, f1, f2', g1, o1, o2, o3, kdi, k2, hv, hcl, show jN 3 = 4 from rfl, show ¬ (11 : Nat) = 10 from by decide, PX_X3_init, FX_X3_init, Pp_X3_init, Ff_X3_init]
      exact ih
  have hA : Jr G (M_X5_init G) 46 [some (.ref h), some (.int (nI 0))] [] (jTr σ h 0) (fun r' => r' = Ff_X5_init G h σ) := by
    refine jloop (P := fun i => Jr G (M_X5_init G) 46 [some (.ref h), some (.int (nI i))] [] (jTr σ h i) (fun r' => r' = Ff_X5_init G h σ)) (n := 24) ?_ (fun i hlt ih => ?_)
    · show Jr G (M_X5_init G) 46 _ _ _ _
      rw [jq_iload1 (M := M_X5_init G) 47 dX5_init_46 rfl]
      simp only [jq_bipush (M := M_X5_init G) 24 49 dX5_init_47 (by decide) rfl, jq_icmp_ge (M := M_X5_init G) 71 52 dX5_init_49 (by decide) rfl, jq_iconst (M := M_X5_init G) 0 72 dX5_init_71 (by decide) rfl, jq_istore1 (M := M_X5_init G) 73 dX5_init_72 rfl, eq_self, jref_10, jref_11, jref_12, jk_v, jk_n, jcat_nil, jcat_i, jcat_r, jcat_l, jcat_d, jc2_i, jc2_r, jc2_n, jc1_i, jc1_r, jrf_some, jwtq_wI, jwtq_wh, jR_wI, jI_wh, jR_wh, List.cons.injEq, Value.int.injEq, Value.ref.injEq, Value.long.injEq, Value.double.injEq, true_and, and_true, and_self, Nat.reduceAdd, Nat.reduceLeDiff, if_true, if_false, ite_true, ite_false, jc1q_i, jc1q_r, jc1q_l, jwtq_wR, jwtq_wY, jI_wI, Nat.reduceEqDiff, and_false, false_and, not_false_eq_true, not_true_eq_false, show (24 : Int32) ≤ nI 24 from by decide]
      exact hB
    · show Jr G (M_X5_init G) 46 _ _ _ _
      have hc : ¬ (24 : Int32) ≤ nI i := nI_ge (b := 24) hlt (by decide)
      have hv : vp_in (nI i) 24 := vp_in_nI (by omega) (by decide)
      have hcl : (nI i).toNatClampNeg = i := nI_clamp (by omega)
      obtain ⟨f1, f2, f3, f4, f5, f6⟩ := jTr_f hw i
      have g1 : (jTr σ h i).2.1 h 0 = some (h + 1) := (f5 h 0 (by omega) (by omega)).trans (jT3_f hw).2.2.2.2.2.2.1
      have e : jTr σ h (i + 1) = jTrs h i (jTr σ h i) := jfd_s _ _ _
      rw [e, ← nI_1] at ih
      have f2' : jhs (jTr σ h i) = h + 4 + i := by omega
      have o1 : jo G (h + 4 + i) h 5 := ⟨⟨hG, by omega⟩, h0.2⟩
      have o2 : jo G (h + 4 + i + 1) (h + 4 + i) 4 := ⟨⟨by omega, by omega⟩, kr i hlt⟩
      have o3 : jl G (h + 4 + i + 1) (h + 1) := ⟨by omega, by omega⟩
      have kri := kr i hlt
      rw [jq_iload1 (M := M_X5_init G) 47 dX5_init_46 rfl]
      generalize jTr σ h i = τ at *
      simp only [jq_bipush (M := M_X5_init G) 24 49 dX5_init_47 (by decide) rfl, jq_icmp_ge (M := M_X5_init G) 71 52 dX5_init_49 (by decide) rfl, jq_aload0 (M := M_X5_init G) 53 dX5_init_52 rfl, jq_getR (M := M_X5_init G) 5 0 56 dX5_init_53 rfl rfl rfl, jq_iload1 (M := M_X5_init G) 57 dX5_init_56 rfl, jq_new (M := M_X5_init G) 4 60 dX5_init_57 rfl rfl rfl, jq_dupR (M := M_X5_init G) 61 dX5_init_60 rfl, jq_dupI (M := M_X5_init G) 61 dX5_init_60 rfl, jq_spec (M := M_X5_init G) I_X4_init dX5_init_61 rfl (Or.inr rfl) rfl, jq_aast (M := M_X5_init G) 65 dX5_init_64 rfl, jq_iinc1 (M := M_X5_init G) 1 68 dX5_init_65 (by decide) rfl, jq_goto (M := M_X5_init G) 46 dX5_init_68 (by decide), eq_self, jref_10, jref_11, jref_12, jk_v, jk_n, jcat_nil, jcat_i, jcat_r, jcat_l, jcat_d, jc2_i, jc2_r, jc2_n, jc1_i, jc1_r, jrf_some, jwtq_wI, jwtq_wh, jR_wI, jI_wh, jR_wh, List.cons.injEq, Value.int.injEq, Value.ref.injEq, Value.long.injEq, Value.double.injEq, true_and, and_true, and_self, Nat.reduceAdd, Nat.reduceLeDiff, if_true, if_false, ite_true, ite_false, jc1q_i, jc1q_r, jc1q_l, jwtq_wR, jwtq_wY, jI_wI, Nat.reduceEqDiff, and_false, false_and, not_false_eq_true, not_true_eq_false, Nat.zero_le, jobj0, hc, jwt_n, jhs_n, jhsq_I, jhsq_R, jnI, jnR, jRI, jRR, jIR, jI_wI, f1, f2', g1, o1, o2, o3, kri, k1, hv, hcl, show jN 4 = 9 from rfl, PX_X4_init, FX_X4_init, Pp_X4_init, Ff_X4_init]
      exact ih
  exact hA
theorem met_X5_init {l : Launch} (hl : l.stackTraces = false) (D : va_G) (cy : Nat → ClassId) (G : jgG) : jMet l D cy G I_X5_init (S_X5_init G) :=
  jr_met hl (M_X5_init G) I_X5_init (S_X5_init G) RX5 rfl (by decide) rfl rfl rfl rfl (fun h => (rfl)) jmAI (fun R h1 h2 => List.forall_mem_cons.mpr ⟨⟨jm_37, jm_30, jmO, by rw [h1]; exact Nat.le_of_ble_eq_true rfl, by rw [h2]; exact Nat.le_of_ble_eq_true rfl⟩, List.forall_mem_cons.mpr ⟨⟨by decide, (RX4, TX4, 9), rfl, jcls4, jm_38, jm_42, jm_12⟩, List.forall_mem_cons.mpr ⟨jpokF (r := (RX5, TX5, 8)) rfl jcls5 (by decide) (by decide) jm_117 (fun _ => rfl), List.forall_mem_cons.mpr ⟨⟨by decide, (RX3, TX3, 4), rfl, jcls3, jm_40, jm_94, jm_13⟩, List.forall_mem_cons.mpr ⟨jpokF (r := (RX5, TX5, 8)) rfl jcls5 (by decide) (by decide) jm_120 (fun _ => rfl), List.forall_mem_cons.mpr ⟨jpokF (r := (RX5, TX5, 8)) rfl jcls5 (by decide) (by decide) jm_122 (fun _ => rfl), List.forall_mem_cons.mpr ⟨⟨⟨jm_45, jm_12, jd_X4_init, ⟨by rw [h1]; exact Nat.le_of_ble_eq_true rfl, by rw [h2]; exact Nat.le_of_ble_eq_true rfl⟩, Or.inr (Or.inr (Or.inr (Or.inl ⟨rfl, show (RX5, 27, yX4_init) ∈ jnest from by decide +kernel, jm_44, rfl, rfl, rfl⟩)))⟩, met_X4_init hl D cy G⟩, List.forall_mem_cons.mpr ⟨⟨⟨jm_97, jm_13, jd_X3_init, ⟨by rw [h1]; exact Nat.le_of_ble_eq_true rfl, by rw [h2]; exact Nat.le_of_ble_eq_true rfl⟩, Or.inr (Or.inr (Or.inr (Or.inl ⟨rfl, show (RX5, 28, yX3_init) ∈ jnest from by decide +kernel, jm_96, rfl, rfl, rfl⟩)))⟩, met_X3_init hl D cy G⟩, List.forall_mem_cons.mpr ⟨⟨by decide, fun i h => by have h9 : 1009 = i + 1000 := h; have e9 : i = 9 := (by omega); subst e9; exact jm_38⟩, List.forall_mem_cons.mpr ⟨⟨by decide, fun i h => by have h9 : 1017 = i + 1000 := h; have e9 : i = 17 := (by omega); subst e9; exact jm_40⟩, fun _ h => nomatch h⟩⟩⟩⟩⟩⟩⟩⟩⟩⟩) (fun h => absurd rfl h) (fun _ h => nomatch h) (bd_X5_init G)
