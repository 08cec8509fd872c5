/-! the wrappers of the law -/
def Pp_L_put (G : jgG) (x : Nat) (a : Int32) (b : Int32) (o : Nat) (σ : jgS) : Prop := jo G (jwt σ) x 6 ∧ Pp_X6_put G x a b σ ∧ kWp G o ["java/lang/IllegalArgumentException", "java/lang/IllegalStateException"] σ (Ff_X6_put G x a b σ)
def Ff_L_put (G : jgG) (x : Nat) (a : Int32) (b : Int32) (o : Nat) (σ : jgS) : jgR := kW ["java/lang/IllegalArgumentException", "java/lang/IllegalStateException"] o (Ff_X6_put G x a b σ)
def P_L_put (G : jgG) (As : List Value) (σ : jgS) : Prop := ∃ x : Nat, ∃ a : Int32, ∃ b : Int32, ∃ o : Nat, As = [.ref x, .int a, .int b, .ref o] ∧ Pp_L_put G x a b o σ
def F_L_put (G : jgG) (As : List Value) (σ : jgS) : jgR := Ff_L_put G (jaR As 0) (jaI As 1) (jaI As 2) (jaR As 3) σ
def S_L_put (G : jgG) : jgSpec := jsp (P_L_put G) (F_L_put G)
theorem PX_L_put {G : jgG} {x : Nat} {a : Int32} {b : Int32} {o : Nat} {σ : jgS} : P_L_put G [.ref x, .int a, .int b, .ref o] σ ↔ Pp_L_put G x a b o σ := by unfold P_L_put; simp [and_assoc]
theorem FX_L_put {G : jgG} {x : Nat} {a : Int32} {b : Int32} {o : Nat} {σ : jgS} : F_L_put G [.ref x, .int a, .int b, .ref o] σ = Ff_L_put G x a b o σ := rfl
def I_L_put : jgI := (4, 99, yL_put, cL_put, 5, (some .int), 4, 8, 134, [(0, 10, 13, 13), (0, 10, 17, 15)])
theorem jd_L_put : I_L_put.2.2.1.cls ≠ "java/lang/invoke/MethodHandle" ∧ I_L_put.2.2.1.cls ≠ "java/lang/invoke/VarHandle" ∧ (parseMethodDescriptor I_L_put.2.2.1.desc).map (fun d => d.parameters.length) = some I_L_put.2.2.2.2.2.2.1 := ⟨by decide +kernel, by decide +kernel, by decide +kernel⟩
def M_L_put (G : jgG) : jgM := (cL_put, [(7, jpC I_X6_put (S_X6_put G))], [], [(0, 10, 13, 13, "java/lang/IllegalArgumentException"), (0, 10, 17, 15, "java/lang/IllegalStateException")], (some .int), false)
theorem bd_L_put (G : jgG) : ∀ (As : List Value) (σ : jgS) (r : jgR), S_L_put G As σ r → jhs σ ≤ jhs r.2 ∧ jsl σ ≤ jsl r.2 ∧ (jent As).length ≤ I_L_put.2.2.2.2.1 ∧ Jr G (M_L_put G) 0 (jentry As I_L_put.2.2.2.2.1) [] σ (fun r' => r' = r) := by
  rintro As σ r ⟨⟨x, a, b, o, rfl, hp⟩, rfl⟩
  rw [FX_L_put]
  refine ⟨(kW_le hp.2.2).1, (kW_le hp.2.2).2, by simp [jent, Value.category, I_L_put], ?_⟩
  show Jr G (M_L_put G) 0 [some (.ref x), some (.int a), some (.int b), some (.ref o), none] [] σ (fun r' => r' = Ff_L_put G x a b o σ)
  obtain ⟨hx, hP, ha, hE, hs⟩ := hp
  unfold Ff_L_put
  have hw := kE6_wt hE
  generalize hR : Ff_X6_put G x a b σ = R at *
  obtain ⟨R1, τ⟩ := R
  have ha2 : ja G (jwt τ) o 9 1 := by rw [show jwt τ = jwt σ from hw]; exact ha
  have hv1 : vp_in 0 1 := vp_in_nI (n := 0) (by decide) (by decide)
  rcases hs with ⟨v, hv⟩ | ⟨E, hm, hv⟩
  · have hv : R1 = .inl (some (.int v)) := hv
    subst hv
    simp only [jq_aload3 (M := M_L_put G) 1 dL_put_0 rfl, jq_iconst (M := M_L_put G) 0 2 dL_put_1 (by decide) rfl, jq_aload0 (M := M_L_put G) 3 dL_put_2 rfl, jq_iload1 (M := M_L_put G) 4 dL_put_3 rfl, jq_iload2 (M := M_L_put G) 5 dL_put_4 rfl, jq_virt2 (M := M_L_put G) I_X6_put 6 dL_put_5 rfl rfl rfl rfl, jq_i2l (M := M_L_put G) 9 dL_put_8 rfl, jq_last (M := M_L_put G) 10 dL_put_9 rfl 1 ha2, jq_goto (M := M_L_put G) 21 dL_put_10 (by decide), jq_iconst (M := M_L_put G) 0 22 dL_put_21 (by decide) rfl, jq_iret (M := M_L_put G) .int dL_put_22 rfl, eq_self, jref_10, jref_11, jref_12, jk_v, jk_n, jcat_nil, jcat_i, jcat_r, jcat_l, jcat_d, jc2_i, jc2_r, jc2_n, jc1_i, jc1_r, jrf_some, jwtq_wI, jwtq_wh, jR_wI, jI_wh, jR_wh, List.cons.injEq, Value.int.injEq, Value.ref.injEq, Value.long.injEq, Value.double.injEq, true_and, and_true, and_self, Nat.reduceAdd, Nat.reduceLeDiff, if_true, if_false, ite_true, ite_false, jc1q_i, jc1q_r, jc1q_l, jwtq_wR, jwtq_wY, jI_wI, Nat.reduceEqDiff, and_false, false_and, not_false_eq_true, not_true_eq_false, PX_X6_put, FX_X6_put, hR, hP, hx, hw, hv1, jcl_0, jnr_i]
    rfl
  · have hv : R1 = .inr E := hv
    subst hv
    simp only [List.mem_cons, List.not_mem_nil, or_false] at hm
    rcases hm with rfl | rfl
    · simp only [jq_aload3 (M := M_L_put G) 1 dL_put_0 rfl, jq_iconst (M := M_L_put G) 0 2 dL_put_1 (by decide) rfl, jq_aload0 (M := M_L_put G) 3 dL_put_2 rfl, jq_iload1 (M := M_L_put G) 4 dL_put_3 rfl, jq_iload2 (M := M_L_put G) 5 dL_put_4 rfl, jq_virt2 (M := M_L_put G) I_X6_put 6 dL_put_5 rfl rfl rfl rfl, eq_self, jref_10, jref_11, jref_12, jk_v, jk_n, jcat_nil, jcat_i, jcat_r, jcat_l, jcat_d, jc2_i, jc2_r, jc2_n, jc1_i, jc1_r, jrf_some, jwtq_wI, jwtq_wh, jR_wI, jI_wh, jR_wh, List.cons.injEq, Value.int.injEq, Value.ref.injEq, Value.long.injEq, Value.double.injEq, true_and, and_true, and_self, Nat.reduceAdd, Nat.reduceLeDiff, if_true, if_false, ite_true, ite_false, jc1q_i, jc1q_r, jc1q_l, jwtq_wR, jwtq_wY, jI_wI, Nat.reduceEqDiff, and_false, false_and, not_false_eq_true, not_true_eq_false, PX_X6_put, FX_X6_put, hR, hP, hx, hw, hv1, jcl_0, jnr_i, jk_h (M := M_L_put G) (pc := 5) (E := "java/lang/IllegalArgumentException") 13 rfl]
      intro q
      simp only [jq_astoreW4 (M := M_L_put G) 15 dL_put_13 rfl, jq_iconst (M := M_L_put G) 1 16 dL_put_15 (by decide) rfl, jq_iret (M := M_L_put G) .int dL_put_16 rfl, eq_self, jref_10, jref_11, jref_12, jk_v, jk_n, jcat_nil, jcat_i, jcat_r, jcat_l, jcat_d, jc2_i, jc2_r, jc2_n, jc1_i, jc1_r, jrf_some, jwtq_wI, jwtq_wh, jR_wI, jI_wh, jR_wh, List.cons.injEq, Value.int.injEq, Value.ref.injEq, Value.long.injEq, Value.double.injEq, true_and, and_true, and_self, Nat.reduceAdd, Nat.reduceLeDiff, if_true, if_false, ite_true, ite_false, jc1q_i, jc1q_r, jc1q_l, jwtq_wR, jwtq_wY, jI_wI, Nat.reduceEqDiff, and_false, false_and, not_false_eq_true, not_true_eq_false, jnr_i]
      rfl
    · simp only [jq_aload3 (M := M_L_put G) 1 dL_put_0 rfl, jq_iconst (M := M_L_put G) 0 2 dL_put_1 (by decide) rfl, jq_aload0 (M := M_L_put G) 3 dL_put_2 rfl, jq_iload1 (M := M_L_put G) 4 dL_put_3 rfl, jq_iload2 (M := M_L_put G) 5 dL_put_4 rfl, jq_virt2 (M := M_L_put G) I_X6_put 6 dL_put_5 rfl rfl rfl rfl, eq_self, jref_10, jref_11, jref_12, jk_v, jk_n, jcat_nil, jcat_i, jcat_r, jcat_l, jcat_d, jc2_i, jc2_r, jc2_n, jc1_i, jc1_r, jrf_some, jwtq_wI, jwtq_wh, jR_wI, jI_wh, jR_wh, List.cons.injEq, Value.int.injEq, Value.ref.injEq, Value.long.injEq, Value.double.injEq, true_and, and_true, and_self, Nat.reduceAdd, Nat.reduceLeDiff, if_true, if_false, ite_true, ite_false, jc1q_i, jc1q_r, jc1q_l, jwtq_wR, jwtq_wY, jI_wI, Nat.reduceEqDiff, and_false, false_and, not_false_eq_true, not_true_eq_false, PX_X6_put, FX_X6_put, hR, hP, hx, hw, hv1, jcl_0, jnr_i, jk_h (M := M_L_put G) (pc := 5) (E := "java/lang/IllegalStateException") 17 rfl]
      intro q
      simp only [jq_astoreW4 (M := M_L_put G) 19 dL_put_17 rfl, jq_iconst (M := M_L_put G) 2 20 dL_put_19 (by decide) rfl, jq_iret (M := M_L_put G) .int dL_put_20 rfl, eq_self, jref_10, jref_11, jref_12, jk_v, jk_n, jcat_nil, jcat_i, jcat_r, jcat_l, jcat_d, jc2_i, jc2_r, jc2_n, jc1_i, jc1_r, jrf_some, jwtq_wI, jwtq_wh, jR_wI, jI_wh, jR_wh, List.cons.injEq, Value.int.injEq, Value.ref.injEq, Value.long.injEq, Value.double.injEq, true_and, and_true, and_self, Nat.reduceAdd, Nat.reduceLeDiff, if_true, if_false, ite_true, ite_false, jc1q_i, jc1q_r, jc1q_l, jwtq_wR, jwtq_wY, jI_wI, Nat.reduceEqDiff, and_false, false_and, not_false_eq_true, not_true_eq_false, jnr_i]
      rfl
theorem met_L_put {l : Launch} (hl : l.stackTraces = false) (D : va_G) (cy : Nat → ClassId) (G : jgG) : jMet l D cy G I_L_put (S_L_put G) :=
  jr_metH (M_L_put G) I_L_put (S_L_put G) RL rfl (by decide) rfl rfl rfl (by decide) rfl rfl jmAI jmAL (fun R h1 h2 => List.forall_mem_cons.mpr ⟨⟨⟨jm_601, jm_50, jd_X6_put, ⟨by rw [h1]; exact Nat.le_of_ble_eq_true rfl, by rw [h2]; exact Nat.le_of_ble_eq_true rfl⟩, Or.inl ⟨rfl, jm_598, jm_599, jm_600, rfl, Nat.le_of_ble_eq_true rfl, _, rfl, rfl⟩⟩, met_X6_put hl D cy G⟩, fun _ h => nomatch h⟩) (List.forall_mem_cons.mpr ⟨⟨by decide, jw_lIA, jw_cIA⟩, List.forall_mem_cons.mpr ⟨⟨by decide, jw_lIS, jw_cIS⟩, fun _ h => nomatch h⟩⟩) (show ∀ q ∈ ([(0, 10, 13, 13, "java/lang/IllegalArgumentException"), (0, 10, 17, 15, "java/lang/IllegalStateException")] : List (Nat × Nat × Nat × Nat × String)), ∀ z ∈ ([(0, 10, 13, 13, "java/lang/IllegalArgumentException"), (0, 10, 17, 15, "java/lang/IllegalStateException")] : List (Nat × Nat × Nat × Nat × String)), z.2.2.2.2 = q.2.2.2.2 ∨ (q.2.2.2.2, z.2.2.2.2) ∈ jxnc from by decide +kernel) (fun As σ r h => by obtain ⟨-, rfl⟩ := h; exact kW_v _ _ _) (bd_L_put G)
def Pp_L_urge (G : jgG) (x : Nat) (a : Int32) (b : Int32) (o : Nat) (σ : jgS) : Prop := jo G (jwt σ) x 6 ∧ Pp_X6_urge G x a b σ ∧ kWp G o ["java/lang/IndexOutOfBoundsException", "java/lang/IllegalArgumentException", "java/lang/IllegalStateException"] σ (Ff_X6_urge G x a b σ)
def Ff_L_urge (G : jgG) (x : Nat) (a : Int32) (b : Int32) (o : Nat) (σ : jgS) : jgR := kW ["java/lang/IndexOutOfBoundsException", "java/lang/IllegalArgumentException", "java/lang/IllegalStateException"] o (Ff_X6_urge G x a b σ)
def P_L_urge (G : jgG) (As : List Value) (σ : jgS) : Prop := ∃ x : Nat, ∃ a : Int32, ∃ b : Int32, ∃ o : Nat, As = [.ref x, .int a, .int b, .ref o] ∧ Pp_L_urge G x a b o σ
def F_L_urge (G : jgG) (As : List Value) (σ : jgS) : jgR := Ff_L_urge G (jaR As 0) (jaI As 1) (jaI As 2) (jaR As 3) σ
def S_L_urge (G : jgG) : jgSpec := jsp (P_L_urge G) (F_L_urge G)
theorem PX_L_urge {G : jgG} {x : Nat} {a : Int32} {b : Int32} {o : Nat} {σ : jgS} : P_L_urge G [.ref x, .int a, .int b, .ref o] σ ↔ Pp_L_urge G x a b o σ := by unfold P_L_urge; simp [and_assoc]
theorem FX_L_urge {G : jgG} {x : Nat} {a : Int32} {b : Int32} {o : Nat} {σ : jgS} : F_L_urge G [.ref x, .int a, .int b, .ref o] σ = Ff_L_urge G x a b o σ := rfl
def I_L_urge : jgI := (4, 99, yL_urge, cL_urge, 5, (some .int), 4, 8, 135, [(0, 10, 13, 20), (0, 10, 17, 13), (0, 10, 21, 15)])
theorem jd_L_urge : I_L_urge.2.2.1.cls ≠ "java/lang/invoke/MethodHandle" ∧ I_L_urge.2.2.1.cls ≠ "java/lang/invoke/VarHandle" ∧ (parseMethodDescriptor I_L_urge.2.2.1.desc).map (fun d => d.parameters.length) = some I_L_urge.2.2.2.2.2.2.1 := ⟨by decide +kernel, by decide +kernel, by decide +kernel⟩
def M_L_urge (G : jgG) : jgM := (cL_urge, [(17, jpC I_X6_urge (S_X6_urge G))], [], [(0, 10, 13, 20, "java/lang/IndexOutOfBoundsException"), (0, 10, 17, 13, "java/lang/IllegalArgumentException"), (0, 10, 21, 15, "java/lang/IllegalStateException")], (some .int), false)
theorem bd_L_urge (G : jgG) : ∀ (As : List Value) (σ : jgS) (r : jgR), S_L_urge G As σ r → jhs σ ≤ jhs r.2 ∧ jsl σ ≤ jsl r.2 ∧ (jent As).length ≤ I_L_urge.2.2.2.2.1 ∧ Jr G (M_L_urge G) 0 (jentry As I_L_urge.2.2.2.2.1) [] σ (fun r' => r' = r) := by
  rintro As σ r ⟨⟨x, a, b, o, rfl, hp⟩, rfl⟩
  rw [FX_L_urge]
  refine ⟨(kW_le hp.2.2).1, (kW_le hp.2.2).2, by simp [jent, Value.category, I_L_urge], ?_⟩
  show Jr G (M_L_urge G) 0 [some (.ref x), some (.int a), some (.int b), some (.ref o), none] [] σ (fun r' => r' = Ff_L_urge G x a b o σ)
  obtain ⟨hx, hP, ha, hE, hs⟩ := hp
  unfold Ff_L_urge
  have hw := kE6_wt hE
  generalize hR : Ff_X6_urge G x a b σ = R at *
  obtain ⟨R1, τ⟩ := R
  have ha2 : ja G (jwt τ) o 9 1 := by rw [show jwt τ = jwt σ from hw]; exact ha
  have hv1 : vp_in 0 1 := vp_in_nI (n := 0) (by decide) (by decide)
  rcases hs with ⟨v, hv⟩ | ⟨E, hm, hv⟩
  · have hv : R1 = .inl (some (.int v)) := hv
    subst hv
    simp only [jq_aload3 (M := M_L_urge G) 1 dL_urge_0 rfl, jq_iconst (M := M_L_urge G) 0 2 dL_urge_1 (by decide) rfl, jq_aload0 (M := M_L_urge G) 3 dL_urge_2 rfl, jq_iload1 (M := M_L_urge G) 4 dL_urge_3 rfl, jq_iload2 (M := M_L_urge G) 5 dL_urge_4 rfl, jq_virt2 (M := M_L_urge G) I_X6_urge 6 dL_urge_5 rfl rfl rfl rfl, jq_i2l (M := M_L_urge G) 9 dL_urge_8 rfl, jq_last (M := M_L_urge G) 10 dL_urge_9 rfl 1 ha2, jq_goto (M := M_L_urge G) 25 dL_urge_10 (by decide), jq_iconst (M := M_L_urge G) 0 26 dL_urge_25 (by decide) rfl, jq_iret (M := M_L_urge G) .int dL_urge_26 rfl, eq_self, jref_10, jref_11, jref_12, jk_v, jk_n, jcat_nil, jcat_i, jcat_r, jcat_l, jcat_d, jc2_i, jc2_r, jc2_n, jc1_i, jc1_r, jrf_some, jwtq_wI, jwtq_wh, jR_wI, jI_wh, jR_wh, List.cons.injEq, Value.int.injEq, Value.ref.injEq, Value.long.injEq, Value.double.injEq, true_and, and_true, and_self, Nat.reduceAdd, Nat.reduceLeDiff, if_true, if_false, ite_true, ite_false, jc1q_i, jc1q_r, jc1q_l, jwtq_wR, jwtq_wY, jI_wI, Nat.reduceEqDiff, and_false, false_and, not_false_eq_true, not_true_eq_false, PX_X6_urge, FX_X6_urge, hR, hP, hx, hw, hv1, jcl_0, jnr_i]
    rfl
  · have hv : R1 = .inr E := hv
    subst hv
    simp only [List.mem_cons, List.not_mem_nil, or_false] at hm
    rcases hm with rfl | rfl | rfl
    · simp only [jq_aload3 (M := M_L_urge G) 1 dL_urge_0 rfl, jq_iconst (M := M_L_urge G) 0 2 dL_urge_1 (by decide) rfl, jq_aload0 (M := M_L_urge G) 3 dL_urge_2 rfl, jq_iload1 (M := M_L_urge G) 4 dL_urge_3 rfl, jq_iload2 (M := M_L_urge G) 5 dL_urge_4 rfl, jq_virt2 (M := M_L_urge G) I_X6_urge 6 dL_urge_5 rfl rfl rfl rfl, eq_self, jref_10, jref_11, jref_12, jk_v, jk_n, jcat_nil, jcat_i, jcat_r, jcat_l, jcat_d, jc2_i, jc2_r, jc2_n, jc1_i, jc1_r, jrf_some, jwtq_wI, jwtq_wh, jR_wI, jI_wh, jR_wh, List.cons.injEq, Value.int.injEq, Value.ref.injEq, Value.long.injEq, Value.double.injEq, true_and, and_true, and_self, Nat.reduceAdd, Nat.reduceLeDiff, if_true, if_false, ite_true, ite_false, jc1q_i, jc1q_r, jc1q_l, jwtq_wR, jwtq_wY, jI_wI, Nat.reduceEqDiff, and_false, false_and, not_false_eq_true, not_true_eq_false, PX_X6_urge, FX_X6_urge, hR, hP, hx, hw, hv1, jcl_0, jnr_i, jk_h (M := M_L_urge G) (pc := 5) (E := "java/lang/IndexOutOfBoundsException") 13 rfl]
      intro q
      simp only [jq_astoreW4 (M := M_L_urge G) 15 dL_urge_13 rfl, jq_iconst (M := M_L_urge G) 1 16 dL_urge_15 (by decide) rfl, jq_iret (M := M_L_urge G) .int dL_urge_16 rfl, eq_self, jref_10, jref_11, jref_12, jk_v, jk_n, jcat_nil, jcat_i, jcat_r, jcat_l, jcat_d, jc2_i, jc2_r, jc2_n, jc1_i, jc1_r, jrf_some, jwtq_wI, jwtq_wh, jR_wI, jI_wh, jR_wh, List.cons.injEq, Value.int.injEq, Value.ref.injEq, Value.long.injEq, Value.double.injEq, true_and, and_true, and_self, Nat.reduceAdd, Nat.reduceLeDiff, if_true, if_false, ite_true, ite_false, jc1q_i, jc1q_r, jc1q_l, jwtq_wR, jwtq_wY, jI_wI, Nat.reduceEqDiff, and_false, false_and, not_false_eq_true, not_true_eq_false, jnr_i]
      rfl
    · simp only [jq_aload3 (M := M_L_urge G) 1 dL_urge_0 rfl, jq_iconst (M := M_L_urge G) 0 2 dL_urge_1 (by decide) rfl, jq_aload0 (M := M_L_urge G) 3 dL_urge_2 rfl, jq_iload1 (M := M_L_urge G) 4 dL_urge_3 rfl, jq_iload2 (M := M_L_urge G) 5 dL_urge_4 rfl, jq_virt2 (M := M_L_urge G) I_X6_urge 6 dL_urge_5 rfl rfl rfl rfl, eq_self, jref_10, jref_11, jref_12, jk_v, jk_n, jcat_nil, jcat_i, jcat_r, jcat_l, jcat_d, jc2_i, jc2_r, jc2_n, jc1_i, jc1_r, jrf_some, jwtq_wI, jwtq_wh, jR_wI, jI_wh, jR_wh, List.cons.injEq, Value.int.injEq, Value.ref.injEq, Value.long.injEq, Value.double.injEq, true_and, and_true, and_self, Nat.reduceAdd, Nat.reduceLeDiff, if_true, if_false, ite_true, ite_false, jc1q_i, jc1q_r, jc1q_l, jwtq_wR, jwtq_wY, jI_wI, Nat.reduceEqDiff, and_false, false_and, not_false_eq_true, not_true_eq_false, PX_X6_urge, FX_X6_urge, hR, hP, hx, hw, hv1, jcl_0, jnr_i, jk_h (M := M_L_urge G) (pc := 5) (E := "java/lang/IllegalArgumentException") 17 rfl]
      intro q
      simp only [jq_astoreW4 (M := M_L_urge G) 19 dL_urge_17 rfl, jq_iconst (M := M_L_urge G) 2 20 dL_urge_19 (by decide) rfl, jq_iret (M := M_L_urge G) .int dL_urge_20 rfl, eq_self, jref_10, jref_11, jref_12, jk_v, jk_n, jcat_nil, jcat_i, jcat_r, jcat_l, jcat_d, jc2_i, jc2_r, jc2_n, jc1_i, jc1_r, jrf_some, jwtq_wI, jwtq_wh, jR_wI, jI_wh, jR_wh, List.cons.injEq, Value.int.injEq, Value.ref.injEq, Value.long.injEq, Value.double.injEq, true_and, and_true, and_self, Nat.reduceAdd, Nat.reduceLeDiff, if_true, if_false, ite_true, ite_false, jc1q_i, jc1q_r, jc1q_l, jwtq_wR, jwtq_wY, jI_wI, Nat.reduceEqDiff, and_false, false_and, not_false_eq_true, not_true_eq_false, jnr_i]
      rfl
    · simp only [jq_aload3 (M := M_L_urge G) 1 dL_urge_0 rfl, jq_iconst (M := M_L_urge G) 0 2 dL_urge_1 (by decide) rfl, jq_aload0 (M := M_L_urge G) 3 dL_urge_2 rfl, jq_iload1 (M := M_L_urge G) 4 dL_urge_3 rfl, jq_iload2 (M := M_L_urge G) 5 dL_urge_4 rfl, jq_virt2 (M := M_L_urge G) I_X6_urge 6 dL_urge_5 rfl rfl rfl rfl, eq_self, jref_10, jref_11, jref_12, jk_v, jk_n, jcat_nil, jcat_i, jcat_r, jcat_l, jcat_d, jc2_i, jc2_r, jc2_n, jc1_i, jc1_r, jrf_some, jwtq_wI, jwtq_wh, jR_wI, jI_wh, jR_wh, List.cons.injEq, Value.int.injEq, Value.ref.injEq, Value.long.injEq, Value.double.injEq, true_and, and_true, and_self, Nat.reduceAdd, Nat.reduceLeDiff, if_true, if_false, ite_true, ite_false, jc1q_i, jc1q_r, jc1q_l, jwtq_wR, jwtq_wY, jI_wI, Nat.reduceEqDiff, and_false, false_and, not_false_eq_true, not_true_eq_false, PX_X6_urge, FX_X6_urge, hR, hP, hx, hw, hv1, jcl_0, jnr_i, jk_h (M := M_L_urge G) (pc := 5) (E := "java/lang/IllegalStateException") 21 rfl]
      intro q
      simp only [jq_astoreW4 (M := M_L_urge G) 23 dL_urge_21 rfl, jq_iconst (M := M_L_urge G) 3 24 dL_urge_23 (by decide) rfl, jq_iret (M := M_L_urge G) .int dL_urge_24 rfl, eq_self, jref_10, jref_11, jref_12, jk_v, jk_n, jcat_nil, jcat_i, jcat_r, jcat_l, jcat_d, jc2_i, jc2_r, jc2_n, jc1_i, jc1_r, jrf_some, jwtq_wI, jwtq_wh, jR_wI, jI_wh, jR_wh, List.cons.injEq, Value.int.injEq, Value.ref.injEq, Value.long.injEq, Value.double.injEq, true_and, and_true, and_self, Nat.reduceAdd, Nat.reduceLeDiff, if_true, if_false, ite_true, ite_false, jc1q_i, jc1q_r, jc1q_l, jwtq_wR, jwtq_wY, jI_wI, Nat.reduceEqDiff, and_false, false_and, not_false_eq_true, not_true_eq_false, jnr_i]
      rfl
theorem met_L_urge {l : Launch} (hl : l.stackTraces = false) (D : va_G) (cy : Nat → ClassId) (G : jgG) : jMet l D cy G I_L_urge (S_L_urge G) :=
  jr_metH (M_L_urge G) I_L_urge (S_L_urge G) RL rfl (by decide) rfl rfl rfl (by decide) rfl rfl jmAI jmAL (fun R h1 h2 => List.forall_mem_cons.mpr ⟨⟨⟨jm_637, jm_50, jd_X6_urge, ⟨by rw [h1]; exact Nat.le_of_ble_eq_true rfl, by rw [h2]; exact Nat.le_of_ble_eq_true rfl⟩, Or.inl ⟨rfl, jm_634, jm_635, jm_636, rfl, Nat.le_of_ble_eq_true rfl, _, rfl, rfl⟩⟩, met_X6_urge hl D cy G⟩, fun _ h => nomatch h⟩) (List.forall_mem_cons.mpr ⟨⟨by decide, jw_lIO, jw_cIO⟩, List.forall_mem_cons.mpr ⟨⟨by decide, jw_lIA, jw_cIA⟩, List.forall_mem_cons.mpr ⟨⟨by decide, jw_lIS, jw_cIS⟩, fun _ h => nomatch h⟩⟩⟩) (show ∀ q ∈ ([(0, 10, 13, 20, "java/lang/IndexOutOfBoundsException"), (0, 10, 17, 13, "java/lang/IllegalArgumentException"), (0, 10, 21, 15, "java/lang/IllegalStateException")] : List (Nat × Nat × Nat × Nat × String)), ∀ z ∈ ([(0, 10, 13, 20, "java/lang/IndexOutOfBoundsException"), (0, 10, 17, 13, "java/lang/IllegalArgumentException"), (0, 10, 21, 15, "java/lang/IllegalStateException")] : List (Nat × Nat × Nat × Nat × String)), z.2.2.2.2 = q.2.2.2.2 ∨ (q.2.2.2.2, z.2.2.2.2) ∈ jxnc from by decide +kernel) (fun As σ r h => by obtain ⟨-, rfl⟩ := h; exact kW_v _ _ _) (bd_L_urge G)
def Pp_L_revive (G : jgG) (x : Nat) (a : Int32) (o : Nat) (σ : jgS) : Prop := jo G (jwt σ) x 6 ∧ Pp_X6_revive G x a σ ∧ kWp G o ["java/lang/IndexOutOfBoundsException", "java/lang/IllegalStateException"] σ (Ff_X6_revive G x a σ)
def Ff_L_revive (G : jgG) (x : Nat) (a : Int32) (o : Nat) (σ : jgS) : jgR := kW ["java/lang/IndexOutOfBoundsException", "java/lang/IllegalStateException"] o (Ff_X6_revive G x a σ)
def P_L_revive (G : jgG) (As : List Value) (σ : jgS) : Prop := ∃ x : Nat, ∃ a : Int32, ∃ o : Nat, As = [.ref x, .int a, .ref o] ∧ Pp_L_revive G x a o σ
def F_L_revive (G : jgG) (As : List Value) (σ : jgS) : jgR := Ff_L_revive G (jaR As 0) (jaI As 1) (jaR As 2) σ
def S_L_revive (G : jgG) : jgSpec := jsp (P_L_revive G) (F_L_revive G)
theorem PX_L_revive {G : jgG} {x : Nat} {a : Int32} {o : Nat} {σ : jgS} : P_L_revive G [.ref x, .int a, .ref o] σ ↔ Pp_L_revive G x a o σ := by unfold P_L_revive; simp [and_assoc]
theorem FX_L_revive {G : jgG} {x : Nat} {a : Int32} {o : Nat} {σ : jgS} : F_L_revive G [.ref x, .int a, .ref o] σ = Ff_L_revive G x a o σ := rfl
def I_L_revive : jgI := (4, 99, yL_revive, cL_revive, 4, (some .int), 3, 8, 133, [(0, 9, 12, 20), (0, 9, 15, 15)])
theorem jd_L_revive : I_L_revive.2.2.1.cls ≠ "java/lang/invoke/MethodHandle" ∧ I_L_revive.2.2.1.cls ≠ "java/lang/invoke/VarHandle" ∧ (parseMethodDescriptor I_L_revive.2.2.1.desc).map (fun d => d.parameters.length) = some I_L_revive.2.2.2.2.2.2.1 := ⟨by decide +kernel, by decide +kernel, by decide +kernel⟩
def M_L_revive (G : jgG) : jgM := (cL_revive, [(22, jpC I_X6_revive (S_X6_revive G))], [], [(0, 9, 12, 20, "java/lang/IndexOutOfBoundsException"), (0, 9, 15, 15, "java/lang/IllegalStateException")], (some .int), false)
theorem bd_L_revive (G : jgG) : ∀ (As : List Value) (σ : jgS) (r : jgR), S_L_revive G As σ r → jhs σ ≤ jhs r.2 ∧ jsl σ ≤ jsl r.2 ∧ (jent As).length ≤ I_L_revive.2.2.2.2.1 ∧ Jr G (M_L_revive G) 0 (jentry As I_L_revive.2.2.2.2.1) [] σ (fun r' => r' = r) := by
  rintro As σ r ⟨⟨x, a, o, rfl, hp⟩, rfl⟩
  rw [FX_L_revive]
  refine ⟨(kW_le hp.2.2).1, (kW_le hp.2.2).2, by simp [jent, Value.category, I_L_revive], ?_⟩
  show Jr G (M_L_revive G) 0 [some (.ref x), some (.int a), some (.ref o), none] [] σ (fun r' => r' = Ff_L_revive G x a o σ)
  obtain ⟨hx, hP, ha, hE, hs⟩ := hp
  unfold Ff_L_revive
  have hw := kE6_wt hE
  generalize hR : Ff_X6_revive G x a σ = R at *
  obtain ⟨R1, τ⟩ := R
  have ha2 : ja G (jwt τ) o 9 1 := by rw [show jwt τ = jwt σ from hw]; exact ha
  have hv1 : vp_in 0 1 := vp_in_nI (n := 0) (by decide) (by decide)
  rcases hs with ⟨v, hv⟩ | ⟨E, hm, hv⟩
  · have hv : R1 = .inl (some (.int v)) := hv
    subst hv
    simp only [jq_aload2 (M := M_L_revive G) 1 dL_revive_0 rfl, jq_iconst (M := M_L_revive G) 0 2 dL_revive_1 (by decide) rfl, jq_aload0 (M := M_L_revive G) 3 dL_revive_2 rfl, jq_iload1 (M := M_L_revive G) 4 dL_revive_3 rfl, jq_virt1 (M := M_L_revive G) I_X6_revive 6 dL_revive_4 rfl rfl rfl rfl, jq_i2l (M := M_L_revive G) 8 dL_revive_7 rfl, jq_last (M := M_L_revive G) 9 dL_revive_8 rfl 1 ha2, jq_goto (M := M_L_revive G) 18 dL_revive_9 (by decide), jq_iconst (M := M_L_revive G) 0 19 dL_revive_18 (by decide) rfl, jq_iret (M := M_L_revive G) .int dL_revive_19 rfl, eq_self, jref_10, jref_11, jref_12, jk_v, jk_n, jcat_nil, jcat_i, jcat_r, jcat_l, jcat_d, jc2_i, jc2_r, jc2_n, jc1_i, jc1_r, jrf_some, jwtq_wI, jwtq_wh, jR_wI, jI_wh, jR_wh, List.cons.injEq, Value.int.injEq, Value.ref.injEq, Value.long.injEq, Value.double.injEq, true_and, and_true, and_self, Nat.reduceAdd, Nat.reduceLeDiff, if_true, if_false, ite_true, ite_false, jc1q_i, jc1q_r, jc1q_l, jwtq_wR, jwtq_wY, jI_wI, Nat.reduceEqDiff, and_false, false_and, not_false_eq_true, not_true_eq_false, PX_X6_revive, FX_X6_revive, hR, hP, hx, hw, hv1, jcl_0, jnr_i]
    rfl
  · have hv : R1 = .inr E := hv
    subst hv
    simp only [List.mem_cons, List.not_mem_nil, or_false] at hm
    rcases hm with rfl | rfl
    · simp only [jq_aload2 (M := M_L_revive G) 1 dL_revive_0 rfl, jq_iconst (M := M_L_revive G) 0 2 dL_revive_1 (by decide) rfl, jq_aload0 (M := M_L_revive G) 3 dL_revive_2 rfl, jq_iload1 (M := M_L_revive G) 4 dL_revive_3 rfl, jq_virt1 (M := M_L_revive G) I_X6_revive 6 dL_revive_4 rfl rfl rfl rfl, eq_self, jref_10, jref_11, jref_12, jk_v, jk_n, jcat_nil, jcat_i, jcat_r, jcat_l, jcat_d, jc2_i, jc2_r, jc2_n, jc1_i, jc1_r, jrf_some, jwtq_wI, jwtq_wh, jR_wI, jI_wh, jR_wh, List.cons.injEq, Value.int.injEq, Value.ref.injEq, Value.long.injEq, Value.double.injEq, true_and, and_true, and_self, Nat.reduceAdd, Nat.reduceLeDiff, if_true, if_false, ite_true, ite_false, jc1q_i, jc1q_r, jc1q_l, jwtq_wR, jwtq_wY, jI_wI, Nat.reduceEqDiff, and_false, false_and, not_false_eq_true, not_true_eq_false, PX_X6_revive, FX_X6_revive, hR, hP, hx, hw, hv1, jcl_0, jnr_i, jk_h (M := M_L_revive G) (pc := 4) (E := "java/lang/IndexOutOfBoundsException") 12 rfl]
      intro q
      simp only [jq_astore3 (M := M_L_revive G) 13 dL_revive_12 rfl, jq_iconst (M := M_L_revive G) 1 14 dL_revive_13 (by decide) rfl, jq_iret (M := M_L_revive G) .int dL_revive_14 rfl, eq_self, jref_10, jref_11, jref_12, jk_v, jk_n, jcat_nil, jcat_i, jcat_r, jcat_l, jcat_d, jc2_i, jc2_r, jc2_n, jc1_i, jc1_r, jrf_some, jwtq_wI, jwtq_wh, jR_wI, jI_wh, jR_wh, List.cons.injEq, Value.int.injEq, Value.ref.injEq, Value.long.injEq, Value.double.injEq, true_and, and_true, and_self, Nat.reduceAdd, Nat.reduceLeDiff, if_true, if_false, ite_true, ite_false, jc1q_i, jc1q_r, jc1q_l, jwtq_wR, jwtq_wY, jI_wI, Nat.reduceEqDiff, and_false, false_and, not_false_eq_true, not_true_eq_false, jnr_i]
      rfl
    · simp only [jq_aload2 (M := M_L_revive G) 1 dL_revive_0 rfl, jq_iconst (M := M_L_revive G) 0 2 dL_revive_1 (by decide) rfl, jq_aload0 (M := M_L_revive G) 3 dL_revive_2 rfl, jq_iload1 (M := M_L_revive G) 4 dL_revive_3 rfl, jq_virt1 (M := M_L_revive G) I_X6_revive 6 dL_revive_4 rfl rfl rfl rfl, eq_self, jref_10, jref_11, jref_12, jk_v, jk_n, jcat_nil, jcat_i, jcat_r, jcat_l, jcat_d, jc2_i, jc2_r, jc2_n, jc1_i, jc1_r, jrf_some, jwtq_wI, jwtq_wh, jR_wI, jI_wh, jR_wh, List.cons.injEq, Value.int.injEq, Value.ref.injEq, Value.long.injEq, Value.double.injEq, true_and, and_true, and_self, Nat.reduceAdd, Nat.reduceLeDiff, if_true, if_false, ite_true, ite_false, jc1q_i, jc1q_r, jc1q_l, jwtq_wR, jwtq_wY, jI_wI, Nat.reduceEqDiff, and_false, false_and, not_false_eq_true, not_true_eq_false, PX_X6_revive, FX_X6_revive, hR, hP, hx, hw, hv1, jcl_0, jnr_i, jk_h (M := M_L_revive G) (pc := 4) (E := "java/lang/IllegalStateException") 15 rfl]
      intro q
      simp only [jq_astore3 (M := M_L_revive G) 16 dL_revive_15 rfl, jq_iconst (M := M_L_revive G) 2 17 dL_revive_16 (by decide) rfl, jq_iret (M := M_L_revive G) .int dL_revive_17 rfl, eq_self, jref_10, jref_11, jref_12, jk_v, jk_n, jcat_nil, jcat_i, jcat_r, jcat_l, jcat_d, jc2_i, jc2_r, jc2_n, jc1_i, jc1_r, jrf_some, jwtq_wI, jwtq_wh, jR_wI, jI_wh, jR_wh, List.cons.injEq, Value.int.injEq, Value.ref.injEq, Value.long.injEq, Value.double.injEq, true_and, and_true, and_self, Nat.reduceAdd, Nat.reduceLeDiff, if_true, if_false, ite_true, ite_false, jc1q_i, jc1q_r, jc1q_l, jwtq_wR, jwtq_wY, jI_wI, Nat.reduceEqDiff, and_false, false_and, not_false_eq_true, not_true_eq_false, jnr_i]
      rfl
theorem met_L_revive {l : Launch} (hl : l.stackTraces = false) (D : va_G) (cy : Nat → ClassId) (G : jgG) : jMet l D cy G I_L_revive (S_L_revive G) :=
  jr_metH (M_L_revive G) I_L_revive (S_L_revive G) RL rfl (by decide) rfl rfl rfl (by decide) rfl rfl jmAI jmAL (fun R h1 h2 => List.forall_mem_cons.mpr ⟨⟨⟨jm_645, jm_50, jd_X6_revive, ⟨by rw [h1]; exact Nat.le_of_ble_eq_true rfl, by rw [h2]; exact Nat.le_of_ble_eq_true rfl⟩, Or.inl ⟨rfl, jm_642, jm_643, jm_644, rfl, Nat.le_of_ble_eq_true rfl, _, rfl, rfl⟩⟩, met_X6_revive hl D cy G⟩, fun _ h => nomatch h⟩) (List.forall_mem_cons.mpr ⟨⟨by decide, jw_lIO, jw_cIO⟩, List.forall_mem_cons.mpr ⟨⟨by decide, jw_lIS, jw_cIS⟩, fun _ h => nomatch h⟩⟩) (show ∀ q ∈ ([(0, 9, 12, 20, "java/lang/IndexOutOfBoundsException"), (0, 9, 15, 15, "java/lang/IllegalStateException")] : List (Nat × Nat × Nat × Nat × String)), ∀ z ∈ ([(0, 9, 12, 20, "java/lang/IndexOutOfBoundsException"), (0, 9, 15, 15, "java/lang/IllegalStateException")] : List (Nat × Nat × Nat × Nat × String)), z.2.2.2.2 = q.2.2.2.2 ∨ (q.2.2.2.2, z.2.2.2.2) ∈ jxnc from by decide +kernel) (fun As σ r h => by obtain ⟨-, rfl⟩ := h; exact kW_v _ _ _) (bd_L_revive G)
def Pp_L_set (G : jgG) (x : Nat) (a : Int32) (b : Int32) (o : Nat) (σ : jgS) : Prop := jo G (jwt σ) x 6 ∧ Pp_X6_set G x a b σ ∧ kWp G o ["java/lang/IndexOutOfBoundsException", "java/lang/IllegalArgumentException"] σ (Ff_X6_set G x a b σ)
def Ff_L_set (G : jgG) (x : Nat) (a : Int32) (b : Int32) (o : Nat) (σ : jgS) : jgR := kW ["java/lang/IndexOutOfBoundsException", "java/lang/IllegalArgumentException"] o (Ff_X6_set G x a b σ)
def P_L_set (G : jgG) (As : List Value) (σ : jgS) : Prop := ∃ x : Nat, ∃ a : Int32, ∃ b : Int32, ∃ o : Nat, As = [.ref x, .int a, .int b, .ref o] ∧ Pp_L_set G x a b o σ
def F_L_set (G : jgG) (As : List Value) (σ : jgS) : jgR := Ff_L_set G (jaR As 0) (jaI As 1) (jaI As 2) (jaR As 3) σ
def S_L_set (G : jgG) : jgSpec := jsp (P_L_set G) (F_L_set G)
theorem PX_L_set {G : jgG} {x : Nat} {a : Int32} {b : Int32} {o : Nat} {σ : jgS} : P_L_set G [.ref x, .int a, .int b, .ref o] σ ↔ Pp_L_set G x a b o σ := by unfold P_L_set; simp [and_assoc]
theorem FX_L_set {G : jgG} {x : Nat} {a : Int32} {b : Int32} {o : Nat} {σ : jgS} : F_L_set G [.ref x, .int a, .int b, .ref o] σ = Ff_L_set G x a b o σ := rfl
def I_L_set : jgI := (4, 99, yL_set, cL_set, 5, (some .int), 4, 8, 135, [(0, 10, 13, 20), (0, 10, 17, 13)])
theorem jd_L_set : I_L_set.2.2.1.cls ≠ "java/lang/invoke/MethodHandle" ∧ I_L_set.2.2.1.cls ≠ "java/lang/invoke/VarHandle" ∧ (parseMethodDescriptor I_L_set.2.2.1.desc).map (fun d => d.parameters.length) = some I_L_set.2.2.2.2.2.2.1 := ⟨by decide +kernel, by decide +kernel, by decide +kernel⟩
def M_L_set (G : jgG) : jgM := (cL_set, [(26, jpC I_X6_set (S_X6_set G))], [], [(0, 10, 13, 20, "java/lang/IndexOutOfBoundsException"), (0, 10, 17, 13, "java/lang/IllegalArgumentException")], (some .int), false)
theorem bd_L_set (G : jgG) : ∀ (As : List Value) (σ : jgS) (r : jgR), S_L_set G As σ r → jhs σ ≤ jhs r.2 ∧ jsl σ ≤ jsl r.2 ∧ (jent As).length ≤ I_L_set.2.2.2.2.1 ∧ Jr G (M_L_set G) 0 (jentry As I_L_set.2.2.2.2.1) [] σ (fun r' => r' = r) := by
  rintro As σ r ⟨⟨x, a, b, o, rfl, hp⟩, rfl⟩
  rw [FX_L_set]
  refine ⟨(kW_le hp.2.2).1, (kW_le hp.2.2).2, by simp [jent, Value.category, I_L_set], ?_⟩
  show Jr G (M_L_set G) 0 [some (.ref x), some (.int a), some (.int b), some (.ref o), none] [] σ (fun r' => r' = Ff_L_set G x a b o σ)
  obtain ⟨hx, hP, ha, hE, hs⟩ := hp
  unfold Ff_L_set
  have hw := kE6_wt hE
  generalize hR : Ff_X6_set G x a b σ = R at *
  obtain ⟨R1, τ⟩ := R
  have ha2 : ja G (jwt τ) o 9 1 := by rw [show jwt τ = jwt σ from hw]; exact ha
  have hv1 : vp_in 0 1 := vp_in_nI (n := 0) (by decide) (by decide)
  rcases hs with ⟨v, hv⟩ | ⟨E, hm, hv⟩
  · have hv : R1 = .inl (some (.int v)) := hv
    subst hv
    simp only [jq_aload3 (M := M_L_set G) 1 dL_set_0 rfl, jq_iconst (M := M_L_set G) 0 2 dL_set_1 (by decide) rfl, jq_aload0 (M := M_L_set G) 3 dL_set_2 rfl, jq_iload1 (M := M_L_set G) 4 dL_set_3 rfl, jq_iload2 (M := M_L_set G) 5 dL_set_4 rfl, jq_virt2 (M := M_L_set G) I_X6_set 6 dL_set_5 rfl rfl rfl rfl, jq_i2l (M := M_L_set G) 9 dL_set_8 rfl, jq_last (M := M_L_set G) 10 dL_set_9 rfl 1 ha2, jq_goto (M := M_L_set G) 21 dL_set_10 (by decide), jq_iconst (M := M_L_set G) 0 22 dL_set_21 (by decide) rfl, jq_iret (M := M_L_set G) .int dL_set_22 rfl, eq_self, jref_10, jref_11, jref_12, jk_v, jk_n, jcat_nil, jcat_i, jcat_r, jcat_l, jcat_d, jc2_i, jc2_r, jc2_n, jc1_i, jc1_r, jrf_some, jwtq_wI, jwtq_wh, jR_wI, jI_wh, jR_wh, List.cons.injEq, Value.int.injEq, Value.ref.injEq, Value.long.injEq, Value.double.injEq, true_and, and_true, and_self, Nat.reduceAdd, Nat.reduceLeDiff, if_true, if_false, ite_true, ite_false, jc1q_i, jc1q_r, jc1q_l, jwtq_wR, jwtq_wY, jI_wI, Nat.reduceEqDiff, and_false, false_and, not_false_eq_true, not_true_eq_false, PX_X6_set, FX_X6_set, hR, hP, hx, hw, hv1, jcl_0, jnr_i]
    rfl
  · have hv : R1 = .inr E := hv
    subst hv
    simp only [List.mem_cons, List.not_mem_nil, or_false] at hm
    rcases hm with rfl | rfl
    · simp only [jq_aload3 (M := M_L_set G) 1 dL_set_0 rfl, jq_iconst (M := M_L_set G) 0 2 dL_set_1 (by decide) rfl, jq_aload0 (M := M_L_set G) 3 dL_set_2 rfl, jq_iload1 (M := M_L_set G) 4 dL_set_3 rfl, jq_iload2 (M := M_L_set G) 5 dL_set_4 rfl, jq_virt2 (M := M_L_set G) I_X6_set 6 dL_set_5 rfl rfl rfl rfl, eq_self, jref_10, jref_11, jref_12, jk_v, jk_n, jcat_nil, jcat_i, jcat_r, jcat_l, jcat_d, jc2_i, jc2_r, jc2_n, jc1_i, jc1_r, jrf_some, jwtq_wI, jwtq_wh, jR_wI, jI_wh, jR_wh, List.cons.injEq, Value.int.injEq, Value.ref.injEq, Value.long.injEq, Value.double.injEq, true_and, and_true, and_self, Nat.reduceAdd, Nat.reduceLeDiff, if_true, if_false, ite_true, ite_false, jc1q_i, jc1q_r, jc1q_l, jwtq_wR, jwtq_wY, jI_wI, Nat.reduceEqDiff, and_false, false_and, not_false_eq_true, not_true_eq_false, PX_X6_set, FX_X6_set, hR, hP, hx, hw, hv1, jcl_0, jnr_i, jk_h (M := M_L_set G) (pc := 5) (E := "java/lang/IndexOutOfBoundsException") 13 rfl]
      intro q
      simp only [jq_astoreW4 (M := M_L_set G) 15 dL_set_13 rfl, jq_iconst (M := M_L_set G) 1 16 dL_set_15 (by decide) rfl, jq_iret (M := M_L_set G) .int dL_set_16 rfl, eq_self, jref_10, jref_11, jref_12, jk_v, jk_n, jcat_nil, jcat_i, jcat_r, jcat_l, jcat_d, jc2_i, jc2_r, jc2_n, jc1_i, jc1_r, jrf_some, jwtq_wI, jwtq_wh, jR_wI, jI_wh, jR_wh, List.cons.injEq, Value.int.injEq, Value.ref.injEq, Value.long.injEq, Value.double.injEq, true_and, and_true, and_self, Nat.reduceAdd, Nat.reduceLeDiff, if_true, if_false, ite_true, ite_false, jc1q_i, jc1q_r, jc1q_l, jwtq_wR, jwtq_wY, jI_wI, Nat.reduceEqDiff, and_false, false_and, not_false_eq_true, not_true_eq_false, jnr_i]
      rfl
    · simp only [jq_aload3 (M := M_L_set G) 1 dL_set_0 rfl, jq_iconst (M := M_L_set G) 0 2 dL_set_1 (by decide) rfl, jq_aload0 (M := M_L_set G) 3 dL_set_2 rfl, jq_iload1 (M := M_L_set G) 4 dL_set_3 rfl, jq_iload2 (M := M_L_set G) 5 dL_set_4 rfl, jq_virt2 (M := M_L_set G) I_X6_set 6 dL_set_5 rfl rfl rfl rfl, eq_self, jref_10, jref_11, jref_12, jk_v, jk_n, jcat_nil, jcat_i, jcat_r, jcat_l, jcat_d, jc2_i, jc2_r, jc2_n, jc1_i, jc1_r, jrf_some, jwtq_wI, jwtq_wh, jR_wI, jI_wh, jR_wh, List.cons.injEq, Value.int.injEq, Value.ref.injEq, Value.long.injEq, Value.double.injEq, true_and, and_true, and_self, Nat.reduceAdd, Nat.reduceLeDiff, if_true, if_false, ite_true, ite_false, jc1q_i, jc1q_r, jc1q_l, jwtq_wR, jwtq_wY, jI_wI, Nat.reduceEqDiff, and_false, false_and, not_false_eq_true, not_true_eq_false, PX_X6_set, FX_X6_set, hR, hP, hx, hw, hv1, jcl_0, jnr_i, jk_h (M := M_L_set G) (pc := 5) (E := "java/lang/IllegalArgumentException") 17 rfl]
      intro q
      simp only [jq_astoreW4 (M := M_L_set G) 19 dL_set_17 rfl, jq_iconst (M := M_L_set G) 2 20 dL_set_19 (by decide) rfl, jq_iret (M := M_L_set G) .int dL_set_20 rfl, eq_self, jref_10, jref_11, jref_12, jk_v, jk_n, jcat_nil, jcat_i, jcat_r, jcat_l, jcat_d, jc2_i, jc2_r, jc2_n, jc1_i, jc1_r, jrf_some, jwtq_wI, jwtq_wh, jR_wI, jI_wh, jR_wh, List.cons.injEq, Value.int.injEq, Value.ref.injEq, Value.long.injEq, Value.double.injEq, true_and, and_true, and_self, Nat.reduceAdd, Nat.reduceLeDiff, if_true, if_false, ite_true, ite_false, jc1q_i, jc1q_r, jc1q_l, jwtq_wR, jwtq_wY, jI_wI, Nat.reduceEqDiff, and_false, false_and, not_false_eq_true, not_true_eq_false, jnr_i]
      rfl
theorem met_L_set {l : Launch} (hl : l.stackTraces = false) (D : va_G) (cy : Nat → ClassId) (G : jgG) : jMet l D cy G I_L_set (S_L_set G) :=
  jr_metH (M_L_set G) I_L_set (S_L_set G) RL rfl (by decide) rfl rfl rfl (by decide) rfl rfl jmAI jmAL (fun R h1 h2 => List.forall_mem_cons.mpr ⟨⟨⟨jm_653, jm_50, jd_X6_set, ⟨by rw [h1]; exact Nat.le_of_ble_eq_true rfl, by rw [h2]; exact Nat.le_of_ble_eq_true rfl⟩, Or.inl ⟨rfl, jm_650, jm_651, jm_652, rfl, Nat.le_of_ble_eq_true rfl, _, rfl, rfl⟩⟩, met_X6_set hl D cy G⟩, fun _ h => nomatch h⟩) (List.forall_mem_cons.mpr ⟨⟨by decide, jw_lIO, jw_cIO⟩, List.forall_mem_cons.mpr ⟨⟨by decide, jw_lIA, jw_cIA⟩, fun _ h => nomatch h⟩⟩) (show ∀ q ∈ ([(0, 10, 13, 20, "java/lang/IndexOutOfBoundsException"), (0, 10, 17, 13, "java/lang/IllegalArgumentException")] : List (Nat × Nat × Nat × Nat × String)), ∀ z ∈ ([(0, 10, 13, 20, "java/lang/IndexOutOfBoundsException"), (0, 10, 17, 13, "java/lang/IllegalArgumentException")] : List (Nat × Nat × Nat × Nat × String)), z.2.2.2.2 = q.2.2.2.2 ∨ (q.2.2.2.2, z.2.2.2.2) ∈ jxnc from by decide +kernel) (fun As σ r h => by obtain ⟨-, rfl⟩ := h; exact kW_v _ _ _) (bd_L_set G)
def Pp_L_takes (G : jgG) (x : Nat) (a : Int32) (b : Int32) (o : Nat) (σ : jgS) : Prop := jo G (jwt σ) x 6 ∧ Pp_X6_takes G x a b σ ∧ kWp G o ["java/lang/IndexOutOfBoundsException", "java/lang/IllegalArgumentException"] σ (Ff_X6_takes G x a b σ)
def Ff_L_takes (G : jgG) (x : Nat) (a : Int32) (b : Int32) (o : Nat) (σ : jgS) : jgR := kW ["java/lang/IndexOutOfBoundsException", "java/lang/IllegalArgumentException"] o (Ff_X6_takes G x a b σ)
def P_L_takes (G : jgG) (As : List Value) (σ : jgS) : Prop := ∃ x : Nat, ∃ a : Int32, ∃ b : Int32, ∃ o : Nat, As = [.ref x, .int a, .int b, .ref o] ∧ Pp_L_takes G x a b o σ
def F_L_takes (G : jgG) (As : List Value) (σ : jgS) : jgR := Ff_L_takes G (jaR As 0) (jaI As 1) (jaI As 2) (jaR As 3) σ
def S_L_takes (G : jgG) : jgSpec := jsp (P_L_takes G) (F_L_takes G)
theorem PX_L_takes {G : jgG} {x : Nat} {a : Int32} {b : Int32} {o : Nat} {σ : jgS} : P_L_takes G [.ref x, .int a, .int b, .ref o] σ ↔ Pp_L_takes G x a b o σ := by unfold P_L_takes; simp [and_assoc]
theorem FX_L_takes {G : jgG} {x : Nat} {a : Int32} {b : Int32} {o : Nat} {σ : jgS} : F_L_takes G [.ref x, .int a, .int b, .ref o] σ = Ff_L_takes G x a b o σ := rfl
def I_L_takes : jgI := (4, 99, yL_takes, cL_takes, 5, (some .int), 4, 8, 135, [(0, 10, 13, 20), (0, 10, 17, 13)])
theorem jd_L_takes : I_L_takes.2.2.1.cls ≠ "java/lang/invoke/MethodHandle" ∧ I_L_takes.2.2.1.cls ≠ "java/lang/invoke/VarHandle" ∧ (parseMethodDescriptor I_L_takes.2.2.1.desc).map (fun d => d.parameters.length) = some I_L_takes.2.2.2.2.2.2.1 := ⟨by decide +kernel, by decide +kernel, by decide +kernel⟩
def M_L_takes (G : jgG) : jgM := (cL_takes, [(29, jpC I_X6_takes (S_X6_takes G))], [], [(0, 10, 13, 20, "java/lang/IndexOutOfBoundsException"), (0, 10, 17, 13, "java/lang/IllegalArgumentException")], (some .int), false)
theorem bd_L_takes (G : jgG) : ∀ (As : List Value) (σ : jgS) (r : jgR), S_L_takes G As σ r → jhs σ ≤ jhs r.2 ∧ jsl σ ≤ jsl r.2 ∧ (jent As).length ≤ I_L_takes.2.2.2.2.1 ∧ Jr G (M_L_takes G) 0 (jentry As I_L_takes.2.2.2.2.1) [] σ (fun r' => r' = r) := by
  rintro As σ r ⟨⟨x, a, b, o, rfl, hp⟩, rfl⟩
  rw [FX_L_takes]
  refine ⟨(kW_le hp.2.2).1, (kW_le hp.2.2).2, by simp [jent, Value.category, I_L_takes], ?_⟩
  show Jr G (M_L_takes G) 0 [some (.ref x), some (.int a), some (.int b), some (.ref o), none] [] σ (fun r' => r' = Ff_L_takes G x a b o σ)
  obtain ⟨hx, hP, ha, hE, hs⟩ := hp
  unfold Ff_L_takes
  have hw := kE6_wt hE
  generalize hR : Ff_X6_takes G x a b σ = R at *
  obtain ⟨R1, τ⟩ := R
  have ha2 : ja G (jwt τ) o 9 1 := by rw [show jwt τ = jwt σ from hw]; exact ha
  have hv1 : vp_in 0 1 := vp_in_nI (n := 0) (by decide) (by decide)
  rcases hs with ⟨v, hv⟩ | ⟨E, hm, hv⟩
  · have hv : R1 = .inl (some (.int v)) := hv
    subst hv
    simp only [jq_aload3 (M := M_L_takes G) 1 dL_takes_0 rfl, jq_iconst (M := M_L_takes G) 0 2 dL_takes_1 (by decide) rfl, jq_aload0 (M := M_L_takes G) 3 dL_takes_2 rfl, jq_iload1 (M := M_L_takes G) 4 dL_takes_3 rfl, jq_iload2 (M := M_L_takes G) 5 dL_takes_4 rfl, jq_virt2 (M := M_L_takes G) I_X6_takes 6 dL_takes_5 rfl rfl rfl rfl, jq_i2l (M := M_L_takes G) 9 dL_takes_8 rfl, jq_last (M := M_L_takes G) 10 dL_takes_9 rfl 1 ha2, jq_goto (M := M_L_takes G) 21 dL_takes_10 (by decide), jq_iconst (M := M_L_takes G) 0 22 dL_takes_21 (by decide) rfl, jq_iret (M := M_L_takes G) .int dL_takes_22 rfl, eq_self, jref_10, jref_11, jref_12, jk_v, jk_n, jcat_nil, jcat_i, jcat_r, jcat_l, jcat_d, jc2_i, jc2_r, jc2_n, jc1_i, jc1_r, jrf_some, jwtq_wI, jwtq_wh, jR_wI, jI_wh, jR_wh, List.cons.injEq, Value.int.injEq, Value.ref.injEq, Value.long.injEq, Value.double.injEq, true_and, and_true, and_self, Nat.reduceAdd, Nat.reduceLeDiff, if_true, if_false, ite_true, ite_false, jc1q_i, jc1q_r, jc1q_l, jwtq_wR, jwtq_wY, jI_wI, Nat.reduceEqDiff, and_false, false_and, not_false_eq_true, not_true_eq_false, PX_X6_takes, FX_X6_takes, hR, hP, hx, hw, hv1, jcl_0, jnr_i]
    rfl
  · have hv : R1 = .inr E := hv
    subst hv
    simp only [List.mem_cons, List.not_mem_nil, or_false] at hm
    rcases hm with rfl | rfl
    · simp only [jq_aload3 (M := M_L_takes G) 1 dL_takes_0 rfl, jq_iconst (M := M_L_takes G) 0 2 dL_takes_1 (by decide) rfl, jq_aload0 (M := M_L_takes G) 3 dL_takes_2 rfl, jq_iload1 (M := M_L_takes G) 4 dL_takes_3 rfl, jq_iload2 (M := M_L_takes G) 5 dL_takes_4 rfl, jq_virt2 (M := M_L_takes G) I_X6_takes 6 dL_takes_5 rfl rfl rfl rfl, eq_self, jref_10, jref_11, jref_12, jk_v, jk_n, jcat_nil, jcat_i, jcat_r, jcat_l, jcat_d, jc2_i, jc2_r, jc2_n, jc1_i, jc1_r, jrf_some, jwtq_wI, jwtq_wh, jR_wI, jI_wh, jR_wh, List.cons.injEq, Value.int.injEq, Value.ref.injEq, Value.long.injEq, Value.double.injEq, true_and, and_true, and_self, Nat.reduceAdd, Nat.reduceLeDiff, if_true, if_false, ite_true, ite_false, jc1q_i, jc1q_r, jc1q_l, jwtq_wR, jwtq_wY, jI_wI, Nat.reduceEqDiff, and_false, false_and, not_false_eq_true, not_true_eq_false, PX_X6_takes, FX_X6_takes, hR, hP, hx, hw, hv1, jcl_0, jnr_i, jk_h (M := M_L_takes G) (pc := 5) (E := "java/lang/IndexOutOfBoundsException") 13 rfl]
      intro q
      simp only [jq_astoreW4 (M := M_L_takes G) 15 dL_takes_13 rfl, jq_iconst (M := M_L_takes G) 1 16 dL_takes_15 (by decide) rfl, jq_iret (M := M_L_takes G) .int dL_takes_16 rfl, eq_self, jref_10, jref_11, jref_12, jk_v, jk_n, jcat_nil, jcat_i, jcat_r, jcat_l, jcat_d, jc2_i, jc2_r, jc2_n, jc1_i, jc1_r, jrf_some, jwtq_wI, jwtq_wh, jR_wI, jI_wh, jR_wh, List.cons.injEq, Value.int.injEq, Value.ref.injEq, Value.long.injEq, Value.double.injEq, true_and, and_true, and_self, Nat.reduceAdd, Nat.reduceLeDiff, if_true, if_false, ite_true, ite_false, jc1q_i, jc1q_r, jc1q_l, jwtq_wR, jwtq_wY, jI_wI, Nat.reduceEqDiff, and_false, false_and, not_false_eq_true, not_true_eq_false, jnr_i]
      rfl
    · simp only [jq_aload3 (M := M_L_takes G) 1 dL_takes_0 rfl, jq_iconst (M := M_L_takes G) 0 2 dL_takes_1 (by decide) rfl, jq_aload0 (M := M_L_takes G) 3 dL_takes_2 rfl, jq_iload1 (M := M_L_takes G) 4 dL_takes_3 rfl, jq_iload2 (M := M_L_takes G) 5 dL_takes_4 rfl, jq_virt2 (M := M_L_takes G) I_X6_takes 6 dL_takes_5 rfl rfl rfl rfl, eq_self, jref_10, jref_11, jref_12, jk_v, jk_n, jcat_nil, jcat_i, jcat_r, jcat_l, jcat_d, jc2_i, jc2_r, jc2_n, jc1_i, jc1_r, jrf_some, jwtq_wI, jwtq_wh, jR_wI, jI_wh, jR_wh, List.cons.injEq, Value.int.injEq, Value.ref.injEq, Value.long.injEq, Value.double.injEq, true_and, and_true, and_self, Nat.reduceAdd, Nat.reduceLeDiff, if_true, if_false, ite_true, ite_false, jc1q_i, jc1q_r, jc1q_l, jwtq_wR, jwtq_wY, jI_wI, Nat.reduceEqDiff, and_false, false_and, not_false_eq_true, not_true_eq_false, PX_X6_takes, FX_X6_takes, hR, hP, hx, hw, hv1, jcl_0, jnr_i, jk_h (M := M_L_takes G) (pc := 5) (E := "java/lang/IllegalArgumentException") 17 rfl]
      intro q
      simp only [jq_astoreW4 (M := M_L_takes G) 19 dL_takes_17 rfl, jq_iconst (M := M_L_takes G) 2 20 dL_takes_19 (by decide) rfl, jq_iret (M := M_L_takes G) .int dL_takes_20 rfl, eq_self, jref_10, jref_11, jref_12, jk_v, jk_n, jcat_nil, jcat_i, jcat_r, jcat_l, jcat_d, jc2_i, jc2_r, jc2_n, jc1_i, jc1_r, jrf_some, jwtq_wI, jwtq_wh, jR_wI, jI_wh, jR_wh, List.cons.injEq, Value.int.injEq, Value.ref.injEq, Value.long.injEq, Value.double.injEq, true_and, and_true, and_self, Nat.reduceAdd, Nat.reduceLeDiff, if_true, if_false, ite_true, ite_false, jc1q_i, jc1q_r, jc1q_l, jwtq_wR, jwtq_wY, jI_wI, Nat.reduceEqDiff, and_false, false_and, not_false_eq_true, not_true_eq_false, jnr_i]
      rfl
theorem met_L_takes {l : Launch} (hl : l.stackTraces = false) (D : va_G) (cy : Nat → ClassId) (G : jgG) : jMet l D cy G I_L_takes (S_L_takes G) :=
  jr_metH (M_L_takes G) I_L_takes (S_L_takes G) RL rfl (by decide) rfl rfl rfl (by decide) rfl rfl jmAI jmAL (fun R h1 h2 => List.forall_mem_cons.mpr ⟨⟨⟨jm_668, jm_50, jd_X6_takes, ⟨by rw [h1]; exact Nat.le_of_ble_eq_true rfl, by rw [h2]; exact Nat.le_of_ble_eq_true rfl⟩, Or.inl ⟨rfl, jm_665, jm_666, jm_667, rfl, Nat.le_of_ble_eq_true rfl, _, rfl, rfl⟩⟩, met_X6_takes hl D cy G⟩, fun _ h => nomatch h⟩) (List.forall_mem_cons.mpr ⟨⟨by decide, jw_lIO, jw_cIO⟩, List.forall_mem_cons.mpr ⟨⟨by decide, jw_lIA, jw_cIA⟩, fun _ h => nomatch h⟩⟩) (show ∀ q ∈ ([(0, 10, 13, 20, "java/lang/IndexOutOfBoundsException"), (0, 10, 17, 13, "java/lang/IllegalArgumentException")] : List (Nat × Nat × Nat × Nat × String)), ∀ z ∈ ([(0, 10, 13, 20, "java/lang/IndexOutOfBoundsException"), (0, 10, 17, 13, "java/lang/IllegalArgumentException")] : List (Nat × Nat × Nat × Nat × String)), z.2.2.2.2 = q.2.2.2.2 ∨ (q.2.2.2.2, z.2.2.2.2) ∈ jxnc from by decide +kernel) (fun As σ r h => by obtain ⟨-, rfl⟩ := h; exact kW_v _ _ _) (bd_L_takes G)
def Pp_L_take (G : jgG) (x : Nat) (a : Int32) (b : Int32) (o : Nat) (σ : jgS) : Prop := jo G (jwt σ) x 6 ∧ Pp_X6_take G x a b σ ∧ kWp G o ["java/lang/IndexOutOfBoundsException", "java/lang/IllegalArgumentException"] σ (Ff_X6_take G x a b σ)
def Ff_L_take (G : jgG) (x : Nat) (a : Int32) (b : Int32) (o : Nat) (σ : jgS) : jgR := kW ["java/lang/IndexOutOfBoundsException", "java/lang/IllegalArgumentException"] o (Ff_X6_take G x a b σ)
def P_L_take (G : jgG) (As : List Value) (σ : jgS) : Prop := ∃ x : Nat, ∃ a : Int32, ∃ b : Int32, ∃ o : Nat, As = [.ref x, .int a, .int b, .ref o] ∧ Pp_L_take G x a b o σ
def F_L_take (G : jgG) (As : List Value) (σ : jgS) : jgR := Ff_L_take G (jaR As 0) (jaI As 1) (jaI As 2) (jaR As 3) σ
def S_L_take (G : jgG) : jgSpec := jsp (P_L_take G) (F_L_take G)
theorem PX_L_take {G : jgG} {x : Nat} {a : Int32} {b : Int32} {o : Nat} {σ : jgS} : P_L_take G [.ref x, .int a, .int b, .ref o] σ ↔ Pp_L_take G x a b o σ := by unfold P_L_take; simp [and_assoc]
theorem FX_L_take {G : jgG} {x : Nat} {a : Int32} {b : Int32} {o : Nat} {σ : jgS} : F_L_take G [.ref x, .int a, .int b, .ref o] σ = Ff_L_take G x a b o σ := rfl
def I_L_take : jgI := (4, 99, yL_take, cL_take, 5, (some .int), 4, 8, 134, [(0, 10, 13, 20), (0, 10, 17, 13)])
theorem jd_L_take : I_L_take.2.2.1.cls ≠ "java/lang/invoke/MethodHandle" ∧ I_L_take.2.2.1.cls ≠ "java/lang/invoke/VarHandle" ∧ (parseMethodDescriptor I_L_take.2.2.1.desc).map (fun d => d.parameters.length) = some I_L_take.2.2.2.2.2.2.1 := ⟨by decide +kernel, by decide +kernel, by decide +kernel⟩
def M_L_take (G : jgG) : jgM := (cL_take, [(32, jpC I_X6_take (S_X6_take G))], [], [(0, 10, 13, 20, "java/lang/IndexOutOfBoundsException"), (0, 10, 17, 13, "java/lang/IllegalArgumentException")], (some .int), false)
theorem bd_L_take (G : jgG) : ∀ (As : List Value) (σ : jgS) (r : jgR), S_L_take G As σ r → jhs σ ≤ jhs r.2 ∧ jsl σ ≤ jsl r.2 ∧ (jent As).length ≤ I_L_take.2.2.2.2.1 ∧ Jr G (M_L_take G) 0 (jentry As I_L_take.2.2.2.2.1) [] σ (fun r' => r' = r) := by
  rintro As σ r ⟨⟨x, a, b, o, rfl, hp⟩, rfl⟩
  rw [FX_L_take]
  refine ⟨(kW_le hp.2.2).1, (kW_le hp.2.2).2, by simp [jent, Value.category, I_L_take], ?_⟩
  show Jr G (M_L_take G) 0 [some (.ref x), some (.int a), some (.int b), some (.ref o), none] [] σ (fun r' => r' = Ff_L_take G x a b o σ)
  obtain ⟨hx, hP, ha, hE, hs⟩ := hp
  unfold Ff_L_take
  have hw := kE6_wt hE
  generalize hR : Ff_X6_take G x a b σ = R at *
  obtain ⟨R1, τ⟩ := R
  have ha2 : ja G (jwt τ) o 9 1 := by rw [show jwt τ = jwt σ from hw]; exact ha
  have hv1 : vp_in 0 1 := vp_in_nI (n := 0) (by decide) (by decide)
  rcases hs with ⟨v, hv⟩ | ⟨E, hm, hv⟩
  · have hv : R1 = .inl (some (.int v)) := hv
    subst hv
    simp only [jq_aload3 (M := M_L_take G) 1 dL_take_0 rfl, jq_iconst (M := M_L_take G) 0 2 dL_take_1 (by decide) rfl, jq_aload0 (M := M_L_take G) 3 dL_take_2 rfl, jq_iload1 (M := M_L_take G) 4 dL_take_3 rfl, jq_iload2 (M := M_L_take G) 5 dL_take_4 rfl, jq_virt2 (M := M_L_take G) I_X6_take 6 dL_take_5 rfl rfl rfl rfl, jq_i2l (M := M_L_take G) 9 dL_take_8 rfl, jq_last (M := M_L_take G) 10 dL_take_9 rfl 1 ha2, jq_goto (M := M_L_take G) 21 dL_take_10 (by decide), jq_iconst (M := M_L_take G) 0 22 dL_take_21 (by decide) rfl, jq_iret (M := M_L_take G) .int dL_take_22 rfl, eq_self, jref_10, jref_11, jref_12, jk_v, jk_n, jcat_nil, jcat_i, jcat_r, jcat_l, jcat_d, jc2_i, jc2_r, jc2_n, jc1_i, jc1_r, jrf_some, jwtq_wI, jwtq_wh, jR_wI, jI_wh, jR_wh, List.cons.injEq, Value.int.injEq, Value.ref.injEq, Value.long.injEq, Value.double.injEq, true_and, and_true, and_self, Nat.reduceAdd, Nat.reduceLeDiff, if_true, if_false, ite_true, ite_false, jc1q_i, jc1q_r, jc1q_l, jwtq_wR, jwtq_wY, jI_wI, Nat.reduceEqDiff, and_false, false_and, not_false_eq_true, not_true_eq_false, PX_X6_take, FX_X6_take, hR, hP, hx, hw, hv1, jcl_0, jnr_i]
    rfl
  · have hv : R1 = .inr E := hv
    subst hv
    simp only [List.mem_cons, List.not_mem_nil, or_false] at hm
    rcases hm with rfl | rfl
    · simp only [jq_aload3 (M := M_L_take G) 1 dL_take_0 rfl, jq_iconst (M := M_L_take G) 0 2 dL_take_1 (by decide) rfl, jq_aload0 (M := M_L_take G) 3 dL_take_2 rfl, jq_iload1 (M := M_L_take G) 4 dL_take_3 rfl, jq_iload2 (M := M_L_take G) 5 dL_take_4 rfl, jq_virt2 (M := M_L_take G) I_X6_take 6 dL_take_5 rfl rfl rfl rfl, eq_self, jref_10, jref_11, jref_12, jk_v, jk_n, jcat_nil, jcat_i, jcat_r, jcat_l, jcat_d, jc2_i, jc2_r, jc2_n, jc1_i, jc1_r, jrf_some, jwtq_wI, jwtq_wh, jR_wI, jI_wh, jR_wh, List.cons.injEq, Value.int.injEq, Value.ref.injEq, Value.long.injEq, Value.double.injEq, true_and, and_true, and_self, Nat.reduceAdd, Nat.reduceLeDiff, if_true, if_false, ite_true, ite_false, jc1q_i, jc1q_r, jc1q_l, jwtq_wR, jwtq_wY, jI_wI, Nat.reduceEqDiff, and_false, false_and, not_false_eq_true, not_true_eq_false, PX_X6_take, FX_X6_take, hR, hP, hx, hw, hv1, jcl_0, jnr_i, jk_h (M := M_L_take G) (pc := 5) (E := "java/lang/IndexOutOfBoundsException") 13 rfl]
      intro q
      simp only [jq_astoreW4 (M := M_L_take G) 15 dL_take_13 rfl, jq_iconst (M := M_L_take G) 1 16 dL_take_15 (by decide) rfl, jq_iret (M := M_L_take G) .int dL_take_16 rfl, eq_self, jref_10, jref_11, jref_12, jk_v, jk_n, jcat_nil, jcat_i, jcat_r, jcat_l, jcat_d, jc2_i, jc2_r, jc2_n, jc1_i, jc1_r, jrf_some, jwtq_wI, jwtq_wh, jR_wI, jI_wh, jR_wh, List.cons.injEq, Value.int.injEq, Value.ref.injEq, Value.long.injEq, Value.double.injEq, true_and, and_true, and_self, Nat.reduceAdd, Nat.reduceLeDiff, if_true, if_false, ite_true, ite_false, jc1q_i, jc1q_r, jc1q_l, jwtq_wR, jwtq_wY, jI_wI, Nat.reduceEqDiff, and_false, false_and, not_false_eq_true, not_true_eq_false, jnr_i]
      rfl
    · simp only [jq_aload3 (M := M_L_take G) 1 dL_take_0 rfl, jq_iconst (M := M_L_take G) 0 2 dL_take_1 (by decide) rfl, jq_aload0 (M := M_L_take G) 3 dL_take_2 rfl, jq_iload1 (M := M_L_take G) 4 dL_take_3 rfl, jq_iload2 (M := M_L_take G) 5 dL_take_4 rfl, jq_virt2 (M := M_L_take G) I_X6_take 6 dL_take_5 rfl rfl rfl rfl, eq_self, jref_10, jref_11, jref_12, jk_v, jk_n, jcat_nil, jcat_i, jcat_r, jcat_l, jcat_d, jc2_i, jc2_r, jc2_n, jc1_i, jc1_r, jrf_some, jwtq_wI, jwtq_wh, jR_wI, jI_wh, jR_wh, List.cons.injEq, Value.int.injEq, Value.ref.injEq, Value.long.injEq, Value.double.injEq, true_and, and_true, and_self, Nat.reduceAdd, Nat.reduceLeDiff, if_true, if_false, ite_true, ite_false, jc1q_i, jc1q_r, jc1q_l, jwtq_wR, jwtq_wY, jI_wI, Nat.reduceEqDiff, and_false, false_and, not_false_eq_true, not_true_eq_false, PX_X6_take, FX_X6_take, hR, hP, hx, hw, hv1, jcl_0, jnr_i, jk_h (M := M_L_take G) (pc := 5) (E := "java/lang/IllegalArgumentException") 17 rfl]
      intro q
      simp only [jq_astoreW4 (M := M_L_take G) 19 dL_take_17 rfl, jq_iconst (M := M_L_take G) 2 20 dL_take_19 (by decide) rfl, jq_iret (M := M_L_take G) .int dL_take_20 rfl, eq_self, jref_10, jref_11, jref_12, jk_v, jk_n, jcat_nil, jcat_i, jcat_r, jcat_l, jcat_d, jc2_i, jc2_r, jc2_n, jc1_i, jc1_r, jrf_some, jwtq_wI, jwtq_wh, jR_wI, jI_wh, jR_wh, List.cons.injEq, Value.int.injEq, Value.ref.injEq, Value.long.injEq, Value.double.injEq, true_and, and_true, and_self, Nat.reduceAdd, Nat.reduceLeDiff, if_true, if_false, ite_true, ite_false, jc1q_i, jc1q_r, jc1q_l, jwtq_wR, jwtq_wY, jI_wI, Nat.reduceEqDiff, and_false, false_and, not_false_eq_true, not_true_eq_false, jnr_i]
      rfl
theorem met_L_take {l : Launch} (hl : l.stackTraces = false) (D : va_G) (cy : Nat → ClassId) (G : jgG) : jMet l D cy G I_L_take (S_L_take G) :=
  jr_metH (M_L_take G) I_L_take (S_L_take G) RL rfl (by decide) rfl rfl rfl (by decide) rfl rfl jmAI jmAL (fun R h1 h2 => List.forall_mem_cons.mpr ⟨⟨⟨jm_675, jm_50, jd_X6_take, ⟨by rw [h1]; exact Nat.le_of_ble_eq_true rfl, by rw [h2]; exact Nat.le_of_ble_eq_true rfl⟩, Or.inl ⟨rfl, jm_672, jm_673, jm_674, rfl, Nat.le_of_ble_eq_true rfl, _, rfl, rfl⟩⟩, met_X6_take hl D cy G⟩, fun _ h => nomatch h⟩) (List.forall_mem_cons.mpr ⟨⟨by decide, jw_lIO, jw_cIO⟩, List.forall_mem_cons.mpr ⟨⟨by decide, jw_lIA, jw_cIA⟩, fun _ h => nomatch h⟩⟩) (show ∀ q ∈ ([(0, 10, 13, 20, "java/lang/IndexOutOfBoundsException"), (0, 10, 17, 13, "java/lang/IllegalArgumentException")] : List (Nat × Nat × Nat × Nat × String)), ∀ z ∈ ([(0, 10, 13, 20, "java/lang/IndexOutOfBoundsException"), (0, 10, 17, 13, "java/lang/IllegalArgumentException")] : List (Nat × Nat × Nat × Nat × String)), z.2.2.2.2 = q.2.2.2.2 ∨ (q.2.2.2.2, z.2.2.2.2) ∈ jxnc from by decide +kernel) (fun As σ r h => by obtain ⟨-, rfl⟩ := h; exact kW_v _ _ _) (bd_L_take G)
def Pp_L_done (G : jgG) (x : Nat) (a : Int32) (b : Int32) (o : Nat) (σ : jgS) : Prop := jo G (jwt σ) x 6 ∧ Pp_X6_done G x a b σ ∧ kWp G o ["java/lang/IndexOutOfBoundsException", "java/lang/IllegalStateException"] σ (Ff_X6_done G x a b σ)
def Ff_L_done (G : jgG) (x : Nat) (a : Int32) (b : Int32) (o : Nat) (σ : jgS) : jgR := kW ["java/lang/IndexOutOfBoundsException", "java/lang/IllegalStateException"] o (Ff_X6_done G x a b σ)
def P_L_done (G : jgG) (As : List Value) (σ : jgS) : Prop := ∃ x : Nat, ∃ a : Int32, ∃ b : Int32, ∃ o : Nat, As = [.ref x, .int a, .int b, .ref o] ∧ Pp_L_done G x a b o σ
def F_L_done (G : jgG) (As : List Value) (σ : jgS) : jgR := Ff_L_done G (jaR As 0) (jaI As 1) (jaI As 2) (jaR As 3) σ
def S_L_done (G : jgG) : jgSpec := jsp (P_L_done G) (F_L_done G)
theorem PX_L_done {G : jgG} {x : Nat} {a : Int32} {b : Int32} {o : Nat} {σ : jgS} : P_L_done G [.ref x, .int a, .int b, .ref o] σ ↔ Pp_L_done G x a b o σ := by unfold P_L_done; simp [and_assoc]
theorem FX_L_done {G : jgG} {x : Nat} {a : Int32} {b : Int32} {o : Nat} {σ : jgS} : F_L_done G [.ref x, .int a, .int b, .ref o] σ = Ff_L_done G x a b o σ := rfl
def I_L_done : jgI := (4, 99, yL_done, cL_done, 5, (some .int), 4, 8, 134, [(0, 10, 13, 20), (0, 10, 17, 15)])
theorem jd_L_done : I_L_done.2.2.1.cls ≠ "java/lang/invoke/MethodHandle" ∧ I_L_done.2.2.1.cls ≠ "java/lang/invoke/VarHandle" ∧ (parseMethodDescriptor I_L_done.2.2.1.desc).map (fun d => d.parameters.length) = some I_L_done.2.2.2.2.2.2.1 := ⟨by decide +kernel, by decide +kernel, by decide +kernel⟩
def M_L_done (G : jgG) : jgM := (cL_done, [(35, jpC I_X6_done (S_X6_done G))], [], [(0, 10, 13, 20, "java/lang/IndexOutOfBoundsException"), (0, 10, 17, 15, "java/lang/IllegalStateException")], (some .int), false)
theorem bd_L_done (G : jgG) : ∀ (As : List Value) (σ : jgS) (r : jgR), S_L_done G As σ r → jhs σ ≤ jhs r.2 ∧ jsl σ ≤ jsl r.2 ∧ (jent As).length ≤ I_L_done.2.2.2.2.1 ∧ Jr G (M_L_done G) 0 (jentry As I_L_done.2.2.2.2.1) [] σ (fun r' => r' = r) := by
  rintro As σ r ⟨⟨x, a, b, o, rfl, hp⟩, rfl⟩
  rw [FX_L_done]
  refine ⟨(kW_le hp.2.2).1, (kW_le hp.2.2).2, by simp [jent, Value.category, I_L_done], ?_⟩
  show Jr G (M_L_done G) 0 [some (.ref x), some (.int a), some (.int b), some (.ref o), none] [] σ (fun r' => r' = Ff_L_done G x a b o σ)
  obtain ⟨hx, hP, ha, hE, hs⟩ := hp
  unfold Ff_L_done
  have hw := kE6_wt hE
  generalize hR : Ff_X6_done G x a b σ = R at *
  obtain ⟨R1, τ⟩ := R
  have ha2 : ja G (jwt τ) o 9 1 := by rw [show jwt τ = jwt σ from hw]; exact ha
  have hv1 : vp_in 0 1 := vp_in_nI (n := 0) (by decide) (by decide)
  rcases hs with ⟨v, hv⟩ | ⟨E, hm, hv⟩
  · have hv : R1 = .inl (some (.int v)) := hv
    subst hv
    simp only [jq_aload3 (M := M_L_done G) 1 dL_done_0 rfl, jq_iconst (M := M_L_done G) 0 2 dL_done_1 (by decide) rfl, jq_aload0 (M := M_L_done G) 3 dL_done_2 rfl, jq_iload1 (M := M_L_done G) 4 dL_done_3 rfl, jq_iload2 (M := M_L_done G) 5 dL_done_4 rfl, jq_virt2 (M := M_L_done G) I_X6_done 6 dL_done_5 rfl rfl rfl rfl, jq_i2l (M := M_L_done G) 9 dL_done_8 rfl, jq_last (M := M_L_done G) 10 dL_done_9 rfl 1 ha2, jq_goto (M := M_L_done G) 21 dL_done_10 (by decide), jq_iconst (M := M_L_done G) 0 22 dL_done_21 (by decide) rfl, jq_iret (M := M_L_done G) .int dL_done_22 rfl, eq_self, jref_10, jref_11, jref_12, jk_v, jk_n, jcat_nil, jcat_i, jcat_r, jcat_l, jcat_d, jc2_i, jc2_r, jc2_n, jc1_i, jc1_r, jrf_some, jwtq_wI, jwtq_wh, jR_wI, jI_wh, jR_wh, List.cons.injEq, Value.int.injEq, Value.ref.injEq, Value.long.injEq, Value.double.injEq, true_and, and_true, and_self, Nat.reduceAdd, Nat.reduceLeDiff, if_true, if_false, ite_true, ite_false, jc1q_i, jc1q_r, jc1q_l, jwtq_wR, jwtq_wY, jI_wI, Nat.reduceEqDiff, and_false, false_and, not_false_eq_true, not_true_eq_false, PX_X6_done, FX_X6_done, hR, hP, hx, hw, hv1, jcl_0, jnr_i]
    rfl
  · have hv : R1 = .inr E := hv
    subst hv
    simp only [List.mem_cons, List.not_mem_nil, or_false] at hm
    rcases hm with rfl | rfl
    · simp only [jq_aload3 (M := M_L_done G) 1 dL_done_0 rfl, jq_iconst (M := M_L_done G) 0 2 dL_done_1 (by decide) rfl, jq_aload0 (M := M_L_done G) 3 dL_done_2 rfl, jq_iload1 (M := M_L_done G) 4 dL_done_3 rfl, jq_iload2 (M := M_L_done G) 5 dL_done_4 rfl, jq_virt2 (M := M_L_done G) I_X6_done 6 dL_done_5 rfl rfl rfl rfl, eq_self, jref_10, jref_11, jref_12, jk_v, jk_n, jcat_nil, jcat_i, jcat_r, jcat_l, jcat_d, jc2_i, jc2_r, jc2_n, jc1_i, jc1_r, jrf_some, jwtq_wI, jwtq_wh, jR_wI, jI_wh, jR_wh, List.cons.injEq, Value.int.injEq, Value.ref.injEq, Value.long.injEq, Value.double.injEq, true_and, and_true, and_self, Nat.reduceAdd, Nat.reduceLeDiff, if_true, if_false, ite_true, ite_false, jc1q_i, jc1q_r, jc1q_l, jwtq_wR, jwtq_wY, jI_wI, Nat.reduceEqDiff, and_false, false_and, not_false_eq_true, not_true_eq_false, PX_X6_done, FX_X6_done, hR, hP, hx, hw, hv1, jcl_0, jnr_i, jk_h (M := M_L_done G) (pc := 5) (E := "java/lang/IndexOutOfBoundsException") 13 rfl]
      intro q
      simp only [jq_astoreW4 (M := M_L_done G) 15 dL_done_13 rfl, jq_iconst (M := M_L_done G) 1 16 dL_done_15 (by decide) rfl, jq_iret (M := M_L_done G) .int dL_done_16 rfl, eq_self, jref_10, jref_11, jref_12, jk_v, jk_n, jcat_nil, jcat_i, jcat_r, jcat_l, jcat_d, jc2_i, jc2_r, jc2_n, jc1_i, jc1_r, jrf_some, jwtq_wI, jwtq_wh, jR_wI, jI_wh, jR_wh, List.cons.injEq, Value.int.injEq, Value.ref.injEq, Value.long.injEq, Value.double.injEq, true_and, and_true, and_self, Nat.reduceAdd, Nat.reduceLeDiff, if_true, if_false, ite_true, ite_false, jc1q_i, jc1q_r, jc1q_l, jwtq_wR, jwtq_wY, jI_wI, Nat.reduceEqDiff, and_false, false_and, not_false_eq_true, not_true_eq_false, jnr_i]
      rfl
    · simp only [jq_aload3 (M := M_L_done G) 1 dL_done_0 rfl, jq_iconst (M := M_L_done G) 0 2 dL_done_1 (by decide) rfl, jq_aload0 (M := M_L_done G) 3 dL_done_2 rfl, jq_iload1 (M := M_L_done G) 4 dL_done_3 rfl, jq_iload2 (M := M_L_done G) 5 dL_done_4 rfl, jq_virt2 (M := M_L_done G) I_X6_done 6 dL_done_5 rfl rfl rfl rfl, eq_self, jref_10, jref_11, jref_12, jk_v, jk_n, jcat_nil, jcat_i, jcat_r, jcat_l, jcat_d, jc2_i, jc2_r, jc2_n, jc1_i, jc1_r, jrf_some, jwtq_wI, jwtq_wh, jR_wI, jI_wh, jR_wh, List.cons.injEq, Value.int.injEq, Value.ref.injEq, Value.long.injEq, Value.double.injEq, true_and, and_true, and_self, Nat.reduceAdd, Nat.reduceLeDiff, if_true, if_false, ite_true, ite_false, jc1q_i, jc1q_r, jc1q_l, jwtq_wR, jwtq_wY, jI_wI, Nat.reduceEqDiff, and_false, false_and, not_false_eq_true, not_true_eq_false, PX_X6_done, FX_X6_done, hR, hP, hx, hw, hv1, jcl_0, jnr_i, jk_h (M := M_L_done G) (pc := 5) (E := "java/lang/IllegalStateException") 17 rfl]
      intro q
      simp only [jq_astoreW4 (M := M_L_done G) 19 dL_done_17 rfl, jq_iconst (M := M_L_done G) 2 20 dL_done_19 (by decide) rfl, jq_iret (M := M_L_done G) .int dL_done_20 rfl, eq_self, jref_10, jref_11, jref_12, jk_v, jk_n, jcat_nil, jcat_i, jcat_r, jcat_l, jcat_d, jc2_i, jc2_r, jc2_n, jc1_i, jc1_r, jrf_some, jwtq_wI, jwtq_wh, jR_wI, jI_wh, jR_wh, List.cons.injEq, Value.int.injEq, Value.ref.injEq, Value.long.injEq, Value.double.injEq, true_and, and_true, and_self, Nat.reduceAdd, Nat.reduceLeDiff, if_true, if_false, ite_true, ite_false, jc1q_i, jc1q_r, jc1q_l, jwtq_wR, jwtq_wY, jI_wI, Nat.reduceEqDiff, and_false, false_and, not_false_eq_true, not_true_eq_false, jnr_i]
      rfl
theorem met_L_done {l : Launch} (hl : l.stackTraces = false) (D : va_G) (cy : Nat → ClassId) (G : jgG) : jMet l D cy G I_L_done (S_L_done G) :=
  jr_metH (M_L_done G) I_L_done (S_L_done G) RL rfl (by decide) rfl rfl rfl (by decide) rfl rfl jmAI jmAL (fun R h1 h2 => List.forall_mem_cons.mpr ⟨⟨⟨jm_698, jm_50, jd_X6_done, ⟨by rw [h1]; exact Nat.le_of_ble_eq_true rfl, by rw [h2]; exact Nat.le_of_ble_eq_true rfl⟩, Or.inl ⟨rfl, jm_695, jm_696, jm_697, rfl, Nat.le_of_ble_eq_true rfl, _, rfl, rfl⟩⟩, met_X6_done hl D cy G⟩, fun _ h => nomatch h⟩) (List.forall_mem_cons.mpr ⟨⟨by decide, jw_lIO, jw_cIO⟩, List.forall_mem_cons.mpr ⟨⟨by decide, jw_lIS, jw_cIS⟩, fun _ h => nomatch h⟩⟩) (show ∀ q ∈ ([(0, 10, 13, 20, "java/lang/IndexOutOfBoundsException"), (0, 10, 17, 15, "java/lang/IllegalStateException")] : List (Nat × Nat × Nat × Nat × String)), ∀ z ∈ ([(0, 10, 13, 20, "java/lang/IndexOutOfBoundsException"), (0, 10, 17, 15, "java/lang/IllegalStateException")] : List (Nat × Nat × Nat × Nat × String)), z.2.2.2.2 = q.2.2.2.2 ∨ (q.2.2.2.2, z.2.2.2.2) ∈ jxnc from by decide +kernel) (fun As σ r h => by obtain ⟨-, rfl⟩ := h; exact kW_v _ _ _) (bd_L_done G)
def Pp_L_giveBack (G : jgG) (x : Nat) (a : Int32) (b : Int32) (o : Nat) (σ : jgS) : Prop := jo G (jwt σ) x 6 ∧ Pp_X6_giveBack G x a b σ ∧ kWp G o ["java/lang/IndexOutOfBoundsException", "java/lang/IllegalStateException"] σ (Ff_X6_giveBack G x a b σ)
def Ff_L_giveBack (G : jgG) (x : Nat) (a : Int32) (b : Int32) (o : Nat) (σ : jgS) : jgR := kW ["java/lang/IndexOutOfBoundsException", "java/lang/IllegalStateException"] o (Ff_X6_giveBack G x a b σ)
def P_L_giveBack (G : jgG) (As : List Value) (σ : jgS) : Prop := ∃ x : Nat, ∃ a : Int32, ∃ b : Int32, ∃ o : Nat, As = [.ref x, .int a, .int b, .ref o] ∧ Pp_L_giveBack G x a b o σ
def F_L_giveBack (G : jgG) (As : List Value) (σ : jgS) : jgR := Ff_L_giveBack G (jaR As 0) (jaI As 1) (jaI As 2) (jaR As 3) σ
def S_L_giveBack (G : jgG) : jgSpec := jsp (P_L_giveBack G) (F_L_giveBack G)
theorem PX_L_giveBack {G : jgG} {x : Nat} {a : Int32} {b : Int32} {o : Nat} {σ : jgS} : P_L_giveBack G [.ref x, .int a, .int b, .ref o] σ ↔ Pp_L_giveBack G x a b o σ := by unfold P_L_giveBack; simp [and_assoc]
theorem FX_L_giveBack {G : jgG} {x : Nat} {a : Int32} {b : Int32} {o : Nat} {σ : jgS} : F_L_giveBack G [.ref x, .int a, .int b, .ref o] σ = Ff_L_giveBack G x a b o σ := rfl
def I_L_giveBack : jgI := (4, 99, yL_giveBack, cL_giveBack, 5, (some .int), 4, 8, 134, [(0, 10, 13, 20), (0, 10, 17, 15)])
theorem jd_L_giveBack : I_L_giveBack.2.2.1.cls ≠ "java/lang/invoke/MethodHandle" ∧ I_L_giveBack.2.2.1.cls ≠ "java/lang/invoke/VarHandle" ∧ (parseMethodDescriptor I_L_giveBack.2.2.1.desc).map (fun d => d.parameters.length) = some I_L_giveBack.2.2.2.2.2.2.1 := ⟨by decide +kernel, by decide +kernel, by decide +kernel⟩
def M_L_giveBack (G : jgG) : jgM := (cL_giveBack, [(38, jpC I_X6_giveBack (S_X6_giveBack G))], [], [(0, 10, 13, 20, "java/lang/IndexOutOfBoundsException"), (0, 10, 17, 15, "java/lang/IllegalStateException")], (some .int), false)
theorem bd_L_giveBack (G : jgG) : ∀ (As : List Value) (σ : jgS) (r : jgR), S_L_giveBack G As σ r → jhs σ ≤ jhs r.2 ∧ jsl σ ≤ jsl r.2 ∧ (jent As).length ≤ I_L_giveBack.2.2.2.2.1 ∧ Jr G (M_L_giveBack G) 0 (jentry As I_L_giveBack.2.2.2.2.1) [] σ (fun r' => r' = r) := by
  rintro As σ r ⟨⟨x, a, b, o, rfl, hp⟩, rfl⟩
  rw [FX_L_giveBack]
  refine ⟨(kW_le hp.2.2).1, (kW_le hp.2.2).2, by simp [jent, Value.category, I_L_giveBack], ?_⟩
  show Jr G (M_L_giveBack G) 0 [some (.ref x), some (.int a), some (.int b), some (.ref o), none] [] σ (fun r' => r' = Ff_L_giveBack G x a b o σ)
  obtain ⟨hx, hP, ha, hE, hs⟩ := hp
  unfold Ff_L_giveBack
  have hw := kE6_wt hE
  generalize hR : Ff_X6_giveBack G x a b σ = R at *
  obtain ⟨R1, τ⟩ := R
  have ha2 : ja G (jwt τ) o 9 1 := by rw [show jwt τ = jwt σ from hw]; exact ha
  have hv1 : vp_in 0 1 := vp_in_nI (n := 0) (by decide) (by decide)
  rcases hs with ⟨v, hv⟩ | ⟨E, hm, hv⟩
  · have hv : R1 = .inl (some (.int v)) := hv
    subst hv
    simp only [jq_aload3 (M := M_L_giveBack G) 1 dL_giveBack_0 rfl, jq_iconst (M := M_L_giveBack G) 0 2 dL_giveBack_1 (by decide) rfl, jq_aload0 (M := M_L_giveBack G) 3 dL_giveBack_2 rfl, jq_iload1 (M := M_L_giveBack G) 4 dL_giveBack_3 rfl, jq_iload2 (M := M_L_giveBack G) 5 dL_giveBack_4 rfl, jq_virt2 (M := M_L_giveBack G) I_X6_giveBack 6 dL_giveBack_5 rfl rfl rfl rfl, jq_i2l (M := M_L_giveBack G) 9 dL_giveBack_8 rfl, jq_last (M := M_L_giveBack G) 10 dL_giveBack_9 rfl 1 ha2, jq_goto (M := M_L_giveBack G) 21 dL_giveBack_10 (by decide), jq_iconst (M := M_L_giveBack G) 0 22 dL_giveBack_21 (by decide) rfl, jq_iret (M := M_L_giveBack G) .int dL_giveBack_22 rfl, eq_self, jref_10, jref_11, jref_12, jk_v, jk_n, jcat_nil, jcat_i, jcat_r, jcat_l, jcat_d, jc2_i, jc2_r, jc2_n, jc1_i, jc1_r, jrf_some, jwtq_wI, jwtq_wh, jR_wI, jI_wh, jR_wh, List.cons.injEq, Value.int.injEq, Value.ref.injEq, Value.long.injEq, Value.double.injEq, true_and, and_true, and_self, Nat.reduceAdd, Nat.reduceLeDiff, if_true, if_false, ite_true, ite_false, jc1q_i, jc1q_r, jc1q_l, jwtq_wR, jwtq_wY, jI_wI, Nat.reduceEqDiff, and_false, false_and, not_false_eq_true, not_true_eq_false, PX_X6_giveBack, FX_X6_giveBack, hR, hP, hx, hw, hv1, jcl_0, jnr_i]
    rfl
  · have hv : R1 = .inr E := hv
    subst hv
    simp only [List.mem_cons, List.not_mem_nil, or_false] at hm
    rcases hm with rfl | rfl
    · simp only [jq_aload3 (M := M_L_giveBack G) 1 dL_giveBack_0 rfl, jq_iconst (M := M_L_giveBack G) 0 2 dL_giveBack_1 (by decide) rfl, jq_aload0 (M := M_L_giveBack G) 3 dL_giveBack_2 rfl, jq_iload1 (M := M_L_giveBack G) 4 dL_giveBack_3 rfl, jq_iload2 (M := M_L_giveBack G) 5 dL_giveBack_4 rfl, jq_virt2 (M := M_L_giveBack G) I_X6_giveBack 6 dL_giveBack_5 rfl rfl rfl rfl, eq_self, jref_10, jref_11, jref_12, jk_v, jk_n, jcat_nil, jcat_i, jcat_r, jcat_l, jcat_d, jc2_i, jc2_r, jc2_n, jc1_i, jc1_r, jrf_some, jwtq_wI, jwtq_wh, jR_wI, jI_wh, jR_wh, List.cons.injEq, Value.int.injEq, Value.ref.injEq, Value.long.injEq, Value.double.injEq, true_and, and_true, and_self, Nat.reduceAdd, Nat.reduceLeDiff, if_true, if_false, ite_true, ite_false, jc1q_i, jc1q_r, jc1q_l, jwtq_wR, jwtq_wY, jI_wI, Nat.reduceEqDiff, and_false, false_and, not_false_eq_true, not_true_eq_false, PX_X6_giveBack, FX_X6_giveBack, hR, hP, hx, hw, hv1, jcl_0, jnr_i, jk_h (M := M_L_giveBack G) (pc := 5) (E := "java/lang/IndexOutOfBoundsException") 13 rfl]
      intro q
      simp only [jq_astoreW4 (M := M_L_giveBack G) 15 dL_giveBack_13 rfl, jq_iconst (M := M_L_giveBack G) 1 16 dL_giveBack_15 (by decide) rfl, jq_iret (M := M_L_giveBack G) .int dL_giveBack_16 rfl, eq_self, jref_10, jref_11, jref_12, jk_v, jk_n, jcat_nil, jcat_i, jcat_r, jcat_l, jcat_d, jc2_i, jc2_r, jc2_n, jc1_i, jc1_r, jrf_some, jwtq_wI, jwtq_wh, jR_wI, jI_wh, jR_wh, List.cons.injEq, Value.int.injEq, Value.ref.injEq, Value.long.injEq, Value.double.injEq, true_and, and_true, and_self, Nat.reduceAdd, Nat.reduceLeDiff, if_true, if_false, ite_true, ite_false, jc1q_i, jc1q_r, jc1q_l, jwtq_wR, jwtq_wY, jI_wI, Nat.reduceEqDiff, and_false, false_and, not_false_eq_true, not_true_eq_false, jnr_i]
      rfl
    · simp only [jq_aload3 (M := M_L_giveBack G) 1 dL_giveBack_0 rfl, jq_iconst (M := M_L_giveBack G) 0 2 dL_giveBack_1 (by decide) rfl, jq_aload0 (M := M_L_giveBack G) 3 dL_giveBack_2 rfl, jq_iload1 (M := M_L_giveBack G) 4 dL_giveBack_3 rfl, jq_iload2 (M := M_L_giveBack G) 5 dL_giveBack_4 rfl, jq_virt2 (M := M_L_giveBack G) I_X6_giveBack 6 dL_giveBack_5 rfl rfl rfl rfl, eq_self, jref_10, jref_11, jref_12, jk_v, jk_n, jcat_nil, jcat_i, jcat_r, jcat_l, jcat_d, jc2_i, jc2_r, jc2_n, jc1_i, jc1_r, jrf_some, jwtq_wI, jwtq_wh, jR_wI, jI_wh, jR_wh, List.cons.injEq, Value.int.injEq, Value.ref.injEq, Value.long.injEq, Value.double.injEq, true_and, and_true, and_self, Nat.reduceAdd, Nat.reduceLeDiff, if_true, if_false, ite_true, ite_false, jc1q_i, jc1q_r, jc1q_l, jwtq_wR, jwtq_wY, jI_wI, Nat.reduceEqDiff, and_false, false_and, not_false_eq_true, not_true_eq_false, PX_X6_giveBack, FX_X6_giveBack, hR, hP, hx, hw, hv1, jcl_0, jnr_i, jk_h (M := M_L_giveBack G) (pc := 5) (E := "java/lang/IllegalStateException") 17 rfl]
      intro q
      simp only [jq_astoreW4 (M := M_L_giveBack G) 19 dL_giveBack_17 rfl, jq_iconst (M := M_L_giveBack G) 2 20 dL_giveBack_19 (by decide) rfl, jq_iret (M := M_L_giveBack G) .int dL_giveBack_20 rfl, eq_self, jref_10, jref_11, jref_12, jk_v, jk_n, jcat_nil, jcat_i, jcat_r, jcat_l, jcat_d, jc2_i, jc2_r, jc2_n, jc1_i, jc1_r, jrf_some, jwtq_wI, jwtq_wh, jR_wI, jI_wh, jR_wh, List.cons.injEq, Value.int.injEq, Value.ref.injEq, Value.long.injEq, Value.double.injEq, true_and, and_true, and_self, Nat.reduceAdd, Nat.reduceLeDiff, if_true, if_false, ite_true, ite_false, jc1q_i, jc1q_r, jc1q_l, jwtq_wR, jwtq_wY, jI_wI, Nat.reduceEqDiff, and_false, false_and, not_false_eq_true, not_true_eq_false, jnr_i]
      rfl
theorem met_L_giveBack {l : Launch} (hl : l.stackTraces = false) (D : va_G) (cy : Nat → ClassId) (G : jgG) : jMet l D cy G I_L_giveBack (S_L_giveBack G) :=
  jr_metH (M_L_giveBack G) I_L_giveBack (S_L_giveBack G) RL rfl (by decide) rfl rfl rfl (by decide) rfl rfl jmAI jmAL (fun R h1 h2 => List.forall_mem_cons.mpr ⟨⟨⟨jm_715, jm_50, jd_X6_giveBack, ⟨by rw [h1]; exact Nat.le_of_ble_eq_true rfl, by rw [h2]; exact Nat.le_of_ble_eq_true rfl⟩, Or.inl ⟨rfl, jm_712, jm_713, jm_714, rfl, Nat.le_of_ble_eq_true rfl, _, rfl, rfl⟩⟩, met_X6_giveBack hl D cy G⟩, fun _ h => nomatch h⟩) (List.forall_mem_cons.mpr ⟨⟨by decide, jw_lIO, jw_cIO⟩, List.forall_mem_cons.mpr ⟨⟨by decide, jw_lIS, jw_cIS⟩, fun _ h => nomatch h⟩⟩) (show ∀ q ∈ ([(0, 10, 13, 20, "java/lang/IndexOutOfBoundsException"), (0, 10, 17, 15, "java/lang/IllegalStateException")] : List (Nat × Nat × Nat × Nat × String)), ∀ z ∈ ([(0, 10, 13, 20, "java/lang/IndexOutOfBoundsException"), (0, 10, 17, 15, "java/lang/IllegalStateException")] : List (Nat × Nat × Nat × Nat × String)), z.2.2.2.2 = q.2.2.2.2 ∨ (q.2.2.2.2, z.2.2.2.2) ∈ jxnc from by decide +kernel) (fun As σ r h => by obtain ⟨-, rfl⟩ := h; exact kW_v _ _ _) (bd_L_giveBack G)
def Pp_L_renew (G : jgG) (x : Nat) (a : Int32) (o : Nat) (σ : jgS) : Prop := jo G (jwt σ) x 6 ∧ Pp_X6_renew G x a σ ∧ kWp G o ["java/lang/IndexOutOfBoundsException"] σ (Ff_X6_renew G x a σ)
def Ff_L_renew (G : jgG) (x : Nat) (a : Int32) (o : Nat) (σ : jgS) : jgR := kW ["java/lang/IndexOutOfBoundsException"] o (Ff_X6_renew G x a σ)
def P_L_renew (G : jgG) (As : List Value) (σ : jgS) : Prop := ∃ x : Nat, ∃ a : Int32, ∃ o : Nat, As = [.ref x, .int a, .ref o] ∧ Pp_L_renew G x a o σ
def F_L_renew (G : jgG) (As : List Value) (σ : jgS) : jgR := Ff_L_renew G (jaR As 0) (jaI As 1) (jaR As 2) σ
def S_L_renew (G : jgG) : jgSpec := jsp (P_L_renew G) (F_L_renew G)
theorem PX_L_renew {G : jgG} {x : Nat} {a : Int32} {o : Nat} {σ : jgS} : P_L_renew G [.ref x, .int a, .ref o] σ ↔ Pp_L_renew G x a o σ := by unfold P_L_renew; simp [and_assoc]
theorem FX_L_renew {G : jgG} {x : Nat} {a : Int32} {o : Nat} {σ : jgS} : F_L_renew G [.ref x, .int a, .ref o] σ = Ff_L_renew G x a o σ := rfl
def I_L_renew : jgI := (4, 99, yL_renew, cL_renew, 4, (some .int), 3, 8, 131, [(0, 9, 12, 20)])
theorem jd_L_renew : I_L_renew.2.2.1.cls ≠ "java/lang/invoke/MethodHandle" ∧ I_L_renew.2.2.1.cls ≠ "java/lang/invoke/VarHandle" ∧ (parseMethodDescriptor I_L_renew.2.2.1.desc).map (fun d => d.parameters.length) = some I_L_renew.2.2.2.2.2.2.1 := ⟨by decide +kernel, by decide +kernel, by decide +kernel⟩
def M_L_renew (G : jgG) : jgM := (cL_renew, [(41, jpC I_X6_renew (S_X6_renew G))], [], [(0, 9, 12, 20, "java/lang/IndexOutOfBoundsException")], (some .int), false)
theorem bd_L_renew (G : jgG) : ∀ (As : List Value) (σ : jgS) (r : jgR), S_L_renew G As σ r → jhs σ ≤ jhs r.2 ∧ jsl σ ≤ jsl r.2 ∧ (jent As).length ≤ I_L_renew.2.2.2.2.1 ∧ Jr G (M_L_renew G) 0 (jentry As I_L_renew.2.2.2.2.1) [] σ (fun r' => r' = r) := by
  rintro As σ r ⟨⟨x, a, o, rfl, hp⟩, rfl⟩
  rw [FX_L_renew]
  refine ⟨(kW_le hp.2.2).1, (kW_le hp.2.2).2, by simp [jent, Value.category, I_L_renew], ?_⟩
  show Jr G (M_L_renew G) 0 [some (.ref x), some (.int a), some (.ref o), none] [] σ (fun r' => r' = Ff_L_renew G x a o σ)
  obtain ⟨hx, hP, ha, hE, hs⟩ := hp
  unfold Ff_L_renew
  have hw := kE6_wt hE
  generalize hR : Ff_X6_renew G x a σ = R at *
  obtain ⟨R1, τ⟩ := R
  have ha2 : ja G (jwt τ) o 9 1 := by rw [show jwt τ = jwt σ from hw]; exact ha
  have hv1 : vp_in 0 1 := vp_in_nI (n := 0) (by decide) (by decide)
  rcases hs with ⟨v, hv⟩ | ⟨E, hm, hv⟩
  · have hv : R1 = .inl (some (.int v)) := hv
    subst hv
    simp only [jq_aload2 (M := M_L_renew G) 1 dL_renew_0 rfl, jq_iconst (M := M_L_renew G) 0 2 dL_renew_1 (by decide) rfl, jq_aload0 (M := M_L_renew G) 3 dL_renew_2 rfl, jq_iload1 (M := M_L_renew G) 4 dL_renew_3 rfl, jq_virt1 (M := M_L_renew G) I_X6_renew 6 dL_renew_4 rfl rfl rfl rfl, jq_i2l (M := M_L_renew G) 8 dL_renew_7 rfl, jq_last (M := M_L_renew G) 9 dL_renew_8 rfl 1 ha2, jq_goto (M := M_L_renew G) 15 dL_renew_9 (by decide), jq_iconst (M := M_L_renew G) 0 16 dL_renew_15 (by decide) rfl, jq_iret (M := M_L_renew G) .int dL_renew_16 rfl, eq_self, jref_10, jref_11, jref_12, jk_v, jk_n, jcat_nil, jcat_i, jcat_r, jcat_l, jcat_d, jc2_i, jc2_r, jc2_n, jc1_i, jc1_r, jrf_some, jwtq_wI, jwtq_wh, jR_wI, jI_wh, jR_wh, List.cons.injEq, Value.int.injEq, Value.ref.injEq, Value.long.injEq, Value.double.injEq, true_and, and_true, and_self, Nat.reduceAdd, Nat.reduceLeDiff, if_true, if_false, ite_true, ite_false, jc1q_i, jc1q_r, jc1q_l, jwtq_wR, jwtq_wY, jI_wI, Nat.reduceEqDiff, and_false, false_and, not_false_eq_true, not_true_eq_false, PX_X6_renew, FX_X6_renew, hR, hP, hx, hw, hv1, jcl_0, jnr_i]
    rfl
  · have hv : R1 = .inr E := hv
    subst hv
    simp only [List.mem_cons, List.not_mem_nil, or_false] at hm
    rcases hm with rfl
    · simp only [jq_aload2 (M := M_L_renew G) 1 dL_renew_0 rfl, jq_iconst (M := M_L_renew G) 0 2 dL_renew_1 (by decide) rfl, jq_aload0 (M := M_L_renew G) 3 dL_renew_2 rfl, jq_iload1 (M := M_L_renew G) 4 dL_renew_3 rfl, jq_virt1 (M := M_L_renew G) I_X6_renew 6 dL_renew_4 rfl rfl rfl rfl, eq_self, jref_10, jref_11, jref_12, jk_v, jk_n, jcat_nil, jcat_i, jcat_r, jcat_l, jcat_d, jc2_i, jc2_r, jc2_n, jc1_i, jc1_r, jrf_some, jwtq_wI, jwtq_wh, jR_wI, jI_wh, jR_wh, List.cons.injEq, Value.int.injEq, Value.ref.injEq, Value.long.injEq, Value.double.injEq, true_and, and_true, and_self, Nat.reduceAdd, Nat.reduceLeDiff, if_true, if_false, ite_true, ite_false, jc1q_i, jc1q_r, jc1q_l, jwtq_wR, jwtq_wY, jI_wI, Nat.reduceEqDiff, and_false, false_and, not_false_eq_true, not_true_eq_false, PX_X6_renew, FX_X6_renew, hR, hP, hx, hw, hv1, jcl_0, jnr_i, jk_h (M := M_L_renew G) (pc := 4) (E := "java/lang/IndexOutOfBoundsException") 12 rfl]
      intro q
      simp only [jq_astore3 (M := M_L_renew G) 13 dL_renew_12 rfl, jq_iconst (M := M_L_renew G) 1 14 dL_renew_13 (by decide) rfl, jq_iret (M := M_L_renew G) .int dL_renew_14 rfl, eq_self, jref_10, jref_11, jref_12, jk_v, jk_n, jcat_nil, jcat_i, jcat_r, jcat_l, jcat_d, jc2_i, jc2_r, jc2_n, jc1_i, jc1_r, jrf_some, jwtq_wI, jwtq_wh, jR_wI, jI_wh, jR_wh, List.cons.injEq, Value.int.injEq, Value.ref.injEq, Value.long.injEq, Value.double.injEq, true_and, and_true, and_self, Nat.reduceAdd, Nat.reduceLeDiff, if_true, if_false, ite_true, ite_false, jc1q_i, jc1q_r, jc1q_l, jwtq_wR, jwtq_wY, jI_wI, Nat.reduceEqDiff, and_false, false_and, not_false_eq_true, not_true_eq_false, jnr_i]
      rfl
theorem met_L_renew {l : Launch} (hl : l.stackTraces = false) (D : va_G) (cy : Nat → ClassId) (G : jgG) : jMet l D cy G I_L_renew (S_L_renew G) :=
  jr_metH (M_L_renew G) I_L_renew (S_L_renew G) RL rfl (by decide) rfl rfl rfl (by decide) rfl rfl jmAI jmAL (fun R h1 h2 => List.forall_mem_cons.mpr ⟨⟨⟨jm_722, jm_50, jd_X6_renew, ⟨by rw [h1]; exact Nat.le_of_ble_eq_true rfl, by rw [h2]; exact Nat.le_of_ble_eq_true rfl⟩, Or.inl ⟨rfl, jm_719, jm_720, jm_721, rfl, Nat.le_of_ble_eq_true rfl, _, rfl, rfl⟩⟩, met_X6_renew hl D cy G⟩, fun _ h => nomatch h⟩) (List.forall_mem_cons.mpr ⟨⟨by decide, jw_lIO, jw_cIO⟩, fun _ h => nomatch h⟩) (show ∀ q ∈ ([(0, 9, 12, 20, "java/lang/IndexOutOfBoundsException")] : List (Nat × Nat × Nat × Nat × String)), ∀ z ∈ ([(0, 9, 12, 20, "java/lang/IndexOutOfBoundsException")] : List (Nat × Nat × Nat × Nat × String)), z.2.2.2.2 = q.2.2.2.2 ∨ (q.2.2.2.2, z.2.2.2.2) ∈ jxnc from by decide +kernel) (fun As σ r h => by obtain ⟨-, rfl⟩ := h; exact kW_v _ _ _) (bd_L_renew G)
def Pp_L_pass (G : jgG) (x : Nat) (a : Int32) (o : Nat) (σ : jgS) : Prop := jo G (jwt σ) x 6 ∧ Pp_X6_pass G x a σ ∧ kWp G o ["java/lang/IllegalArgumentException", "java/lang/IllegalStateException"] σ (Ff_X6_pass G x a σ)
def Ff_L_pass (G : jgG) (x : Nat) (a : Int32) (o : Nat) (σ : jgS) : jgR := kW ["java/lang/IllegalArgumentException", "java/lang/IllegalStateException"] o (Ff_X6_pass G x a σ)
def P_L_pass (G : jgG) (As : List Value) (σ : jgS) : Prop := ∃ x : Nat, ∃ a : Int32, ∃ o : Nat, As = [.ref x, .int a, .ref o] ∧ Pp_L_pass G x a o σ
def F_L_pass (G : jgG) (As : List Value) (σ : jgS) : jgR := Ff_L_pass G (jaR As 0) (jaI As 1) (jaR As 2) σ
def S_L_pass (G : jgG) : jgSpec := jsp (P_L_pass G) (F_L_pass G)
theorem PX_L_pass {G : jgG} {x : Nat} {a : Int32} {o : Nat} {σ : jgS} : P_L_pass G [.ref x, .int a, .ref o] σ ↔ Pp_L_pass G x a o σ := by unfold P_L_pass; simp [and_assoc]
theorem FX_L_pass {G : jgG} {x : Nat} {a : Int32} {o : Nat} {σ : jgS} : F_L_pass G [.ref x, .int a, .ref o] σ = Ff_L_pass G x a o σ := rfl
def I_L_pass : jgI := (4, 99, yL_pass, cL_pass, 4, (some .int), 3, 8, 133, [(0, 9, 12, 13), (0, 9, 15, 15)])
theorem jd_L_pass : I_L_pass.2.2.1.cls ≠ "java/lang/invoke/MethodHandle" ∧ I_L_pass.2.2.1.cls ≠ "java/lang/invoke/VarHandle" ∧ (parseMethodDescriptor I_L_pass.2.2.1.desc).map (fun d => d.parameters.length) = some I_L_pass.2.2.2.2.2.2.1 := ⟨by decide +kernel, by decide +kernel, by decide +kernel⟩
def M_L_pass (G : jgG) : jgM := (cL_pass, [(44, jpC I_X6_pass (S_X6_pass G))], [], [(0, 9, 12, 13, "java/lang/IllegalArgumentException"), (0, 9, 15, 15, "java/lang/IllegalStateException")], (some .int), false)
theorem bd_L_pass (G : jgG) : ∀ (As : List Value) (σ : jgS) (r : jgR), S_L_pass G As σ r → jhs σ ≤ jhs r.2 ∧ jsl σ ≤ jsl r.2 ∧ (jent As).length ≤ I_L_pass.2.2.2.2.1 ∧ Jr G (M_L_pass G) 0 (jentry As I_L_pass.2.2.2.2.1) [] σ (fun r' => r' = r) := by
  rintro As σ r ⟨⟨x, a, o, rfl, hp⟩, rfl⟩
  rw [FX_L_pass]
  refine ⟨(kW_le hp.2.2).1, (kW_le hp.2.2).2, by simp [jent, Value.category, I_L_pass], ?_⟩
  show Jr G (M_L_pass G) 0 [some (.ref x), some (.int a), some (.ref o), none] [] σ (fun r' => r' = Ff_L_pass G x a o σ)
  obtain ⟨hx, hP, ha, hE, hs⟩ := hp
  unfold Ff_L_pass
  have hw := kE6_wt hE
  generalize hR : Ff_X6_pass G x a σ = R at *
  obtain ⟨R1, τ⟩ := R
  have ha2 : ja G (jwt τ) o 9 1 := by rw [show jwt τ = jwt σ from hw]; exact ha
  have hv1 : vp_in 0 1 := vp_in_nI (n := 0) (by decide) (by decide)
  rcases hs with ⟨v, hv⟩ | ⟨E, hm, hv⟩
  · have hv : R1 = .inl (some (.int v)) := hv
    subst hv
    simp only [jq_aload2 (M := M_L_pass G) 1 dL_pass_0 rfl, jq_iconst (M := M_L_pass G) 0 2 dL_pass_1 (by decide) rfl, jq_aload0 (M := M_L_pass G) 3 dL_pass_2 rfl, jq_iload1 (M := M_L_pass G) 4 dL_pass_3 rfl, jq_virt1 (M := M_L_pass G) I_X6_pass 6 dL_pass_4 rfl rfl rfl rfl, jq_i2l (M := M_L_pass G) 8 dL_pass_7 rfl, jq_last (M := M_L_pass G) 9 dL_pass_8 rfl 1 ha2, jq_goto (M := M_L_pass G) 18 dL_pass_9 (by decide), jq_iconst (M := M_L_pass G) 0 19 dL_pass_18 (by decide) rfl, jq_iret (M := M_L_pass G) .int dL_pass_19 rfl, eq_self, jref_10, jref_11, jref_12, jk_v, jk_n, jcat_nil, jcat_i, jcat_r, jcat_l, jcat_d, jc2_i, jc2_r, jc2_n, jc1_i, jc1_r, jrf_some, jwtq_wI, jwtq_wh, jR_wI, jI_wh, jR_wh, List.cons.injEq, Value.int.injEq, Value.ref.injEq, Value.long.injEq, Value.double.injEq, true_and, and_true, and_self, Nat.reduceAdd, Nat.reduceLeDiff, if_true, if_false, ite_true, ite_false, jc1q_i, jc1q_r, jc1q_l, jwtq_wR, jwtq_wY, jI_wI, Nat.reduceEqDiff, and_false, false_and, not_false_eq_true, not_true_eq_false, PX_X6_pass, FX_X6_pass, hR, hP, hx, hw, hv1, jcl_0, jnr_i]
    rfl
  · have hv : R1 = .inr E := hv
    subst hv
    simp only [List.mem_cons, List.not_mem_nil, or_false] at hm
    rcases hm with rfl | rfl
    · simp only [jq_aload2 (M := M_L_pass G) 1 dL_pass_0 rfl, jq_iconst (M := M_L_pass G) 0 2 dL_pass_1 (by decide) rfl, jq_aload0 (M := M_L_pass G) 3 dL_pass_2 rfl, jq_iload1 (M := M_L_pass G) 4 dL_pass_3 rfl, jq_virt1 (M := M_L_pass G) I_X6_pass 6 dL_pass_4 rfl rfl rfl rfl, eq_self, jref_10, jref_11, jref_12, jk_v, jk_n, jcat_nil, jcat_i, jcat_r, jcat_l, jcat_d, jc2_i, jc2_r, jc2_n, jc1_i, jc1_r, jrf_some, jwtq_wI, jwtq_wh, jR_wI, jI_wh, jR_wh, List.cons.injEq, Value.int.injEq, Value.ref.injEq, Value.long.injEq, Value.double.injEq, true_and, and_true, and_self, Nat.reduceAdd, Nat.reduceLeDiff, if_true, if_false, ite_true, ite_false, jc1q_i, jc1q_r, jc1q_l, jwtq_wR, jwtq_wY, jI_wI, Nat.reduceEqDiff, and_false, false_and, not_false_eq_true, not_true_eq_false, PX_X6_pass, FX_X6_pass, hR, hP, hx, hw, hv1, jcl_0, jnr_i, jk_h (M := M_L_pass G) (pc := 4) (E := "java/lang/IllegalArgumentException") 12 rfl]
      intro q
      simp only [jq_astore3 (M := M_L_pass G) 13 dL_pass_12 rfl, jq_iconst (M := M_L_pass G) 1 14 dL_pass_13 (by decide) rfl, jq_iret (M := M_L_pass G) .int dL_pass_14 rfl, eq_self, jref_10, jref_11, jref_12, jk_v, jk_n, jcat_nil, jcat_i, jcat_r, jcat_l, jcat_d, jc2_i, jc2_r, jc2_n, jc1_i, jc1_r, jrf_some, jwtq_wI, jwtq_wh, jR_wI, jI_wh, jR_wh, List.cons.injEq, Value.int.injEq, Value.ref.injEq, Value.long.injEq, Value.double.injEq, true_and, and_true, and_self, Nat.reduceAdd, Nat.reduceLeDiff, if_true, if_false, ite_true, ite_false, jc1q_i, jc1q_r, jc1q_l, jwtq_wR, jwtq_wY, jI_wI, Nat.reduceEqDiff, and_false, false_and, not_false_eq_true, not_true_eq_false, jnr_i]
      rfl
    · simp only [jq_aload2 (M := M_L_pass G) 1 dL_pass_0 rfl, jq_iconst (M := M_L_pass G) 0 2 dL_pass_1 (by decide) rfl, jq_aload0 (M := M_L_pass G) 3 dL_pass_2 rfl, jq_iload1 (M := M_L_pass G) 4 dL_pass_3 rfl, jq_virt1 (M := M_L_pass G) I_X6_pass 6 dL_pass_4 rfl rfl rfl rfl, eq_self, jref_10, jref_11, jref_12, jk_v, jk_n, jcat_nil, jcat_i, jcat_r, jcat_l, jcat_d, jc2_i, jc2_r, jc2_n, jc1_i, jc1_r, jrf_some, jwtq_wI, jwtq_wh, jR_wI, jI_wh, jR_wh, List.cons.injEq, Value.int.injEq, Value.ref.injEq, Value.long.injEq, Value.double.injEq, true_and, and_true, and_self, Nat.reduceAdd, Nat.reduceLeDiff, if_true, if_false, ite_true, ite_false, jc1q_i, jc1q_r, jc1q_l, jwtq_wR, jwtq_wY, jI_wI, Nat.reduceEqDiff, and_false, false_and, not_false_eq_true, not_true_eq_false, PX_X6_pass, FX_X6_pass, hR, hP, hx, hw, hv1, jcl_0, jnr_i, jk_h (M := M_L_pass G) (pc := 4) (E := "java/lang/IllegalStateException") 15 rfl]
      intro q
      simp only [jq_astore3 (M := M_L_pass G) 16 dL_pass_15 rfl, jq_iconst (M := M_L_pass G) 2 17 dL_pass_16 (by decide) rfl, jq_iret (M := M_L_pass G) .int dL_pass_17 rfl, eq_self, jref_10, jref_11, jref_12, jk_v, jk_n, jcat_nil, jcat_i, jcat_r, jcat_l, jcat_d, jc2_i, jc2_r, jc2_n, jc1_i, jc1_r, jrf_some, jwtq_wI, jwtq_wh, jR_wI, jI_wh, jR_wh, List.cons.injEq, Value.int.injEq, Value.ref.injEq, Value.long.injEq, Value.double.injEq, true_and, and_true, and_self, Nat.reduceAdd, Nat.reduceLeDiff, if_true, if_false, ite_true, ite_false, jc1q_i, jc1q_r, jc1q_l, jwtq_wR, jwtq_wY, jI_wI, Nat.reduceEqDiff, and_false, false_and, not_false_eq_true, not_true_eq_false, jnr_i]
      rfl
theorem met_L_pass {l : Launch} (hl : l.stackTraces = false) (D : va_G) (cy : Nat → ClassId) (G : jgG) : jMet l D cy G I_L_pass (S_L_pass G) :=
  jr_metH (M_L_pass G) I_L_pass (S_L_pass G) RL rfl (by decide) rfl rfl rfl (by decide) rfl rfl jmAI jmAL (fun R h1 h2 => List.forall_mem_cons.mpr ⟨⟨⟨jm_733, jm_50, jd_X6_pass, ⟨by rw [h1]; exact Nat.le_of_ble_eq_true rfl, by rw [h2]; exact Nat.le_of_ble_eq_true rfl⟩, Or.inl ⟨rfl, jm_730, jm_731, jm_732, rfl, Nat.le_of_ble_eq_true rfl, _, rfl, rfl⟩⟩, met_X6_pass hl D cy G⟩, fun _ h => nomatch h⟩) (List.forall_mem_cons.mpr ⟨⟨by decide, jw_lIA, jw_cIA⟩, List.forall_mem_cons.mpr ⟨⟨by decide, jw_lIS, jw_cIS⟩, fun _ h => nomatch h⟩⟩) (show ∀ q ∈ ([(0, 9, 12, 13, "java/lang/IllegalArgumentException"), (0, 9, 15, 15, "java/lang/IllegalStateException")] : List (Nat × Nat × Nat × Nat × String)), ∀ z ∈ ([(0, 9, 12, 13, "java/lang/IllegalArgumentException"), (0, 9, 15, 15, "java/lang/IllegalStateException")] : List (Nat × Nat × Nat × Nat × String)), z.2.2.2.2 = q.2.2.2.2 ∨ (q.2.2.2.2, z.2.2.2.2) ∈ jxnc from by decide +kernel) (fun As σ r h => by obtain ⟨-, rfl⟩ := h; exact kW_v _ _ _) (bd_L_pass G)
def Pp_L_append (G : jgG) (x : Nat) (a : Int32) (o : Nat) (σ : jgS) : Prop := jo G (jwt σ) x 6 ∧ Pp_X6_append G x a σ ∧ kWp G o ["java/lang/IllegalArgumentException", "java/lang/IllegalStateException"] σ (Ff_X6_append G x a σ)
def Ff_L_append (G : jgG) (x : Nat) (a : Int32) (o : Nat) (σ : jgS) : jgR := kW ["java/lang/IllegalArgumentException", "java/lang/IllegalStateException"] o (Ff_X6_append G x a σ)
def P_L_append (G : jgG) (As : List Value) (σ : jgS) : Prop := ∃ x : Nat, ∃ a : Int32, ∃ o : Nat, As = [.ref x, .int a, .ref o] ∧ Pp_L_append G x a o σ
def F_L_append (G : jgG) (As : List Value) (σ : jgS) : jgR := Ff_L_append G (jaR As 0) (jaI As 1) (jaR As 2) σ
def S_L_append (G : jgG) : jgSpec := jsp (P_L_append G) (F_L_append G)
theorem PX_L_append {G : jgG} {x : Nat} {a : Int32} {o : Nat} {σ : jgS} : P_L_append G [.ref x, .int a, .ref o] σ ↔ Pp_L_append G x a o σ := by unfold P_L_append; simp [and_assoc]
theorem FX_L_append {G : jgG} {x : Nat} {a : Int32} {o : Nat} {σ : jgS} : F_L_append G [.ref x, .int a, .ref o] σ = Ff_L_append G x a o σ := rfl
def I_L_append : jgI := (4, 99, yL_append, cL_append, 4, (some .int), 3, 8, 133, [(0, 9, 12, 13), (0, 9, 15, 15)])
theorem jd_L_append : I_L_append.2.2.1.cls ≠ "java/lang/invoke/MethodHandle" ∧ I_L_append.2.2.1.cls ≠ "java/lang/invoke/VarHandle" ∧ (parseMethodDescriptor I_L_append.2.2.1.desc).map (fun d => d.parameters.length) = some I_L_append.2.2.2.2.2.2.1 := ⟨by decide +kernel, by decide +kernel, by decide +kernel⟩
def M_L_append (G : jgG) : jgM := (cL_append, [(47, jpC I_X6_append (S_X6_append G))], [], [(0, 9, 12, 13, "java/lang/IllegalArgumentException"), (0, 9, 15, 15, "java/lang/IllegalStateException")], (some .int), false)
theorem bd_L_append (G : jgG) : ∀ (As : List Value) (σ : jgS) (r : jgR), S_L_append G As σ r → jhs σ ≤ jhs r.2 ∧ jsl σ ≤ jsl r.2 ∧ (jent As).length ≤ I_L_append.2.2.2.2.1 ∧ Jr G (M_L_append G) 0 (jentry As I_L_append.2.2.2.2.1) [] σ (fun r' => r' = r) := by
  rintro As σ r ⟨⟨x, a, o, rfl, hp⟩, rfl⟩
  rw [FX_L_append]
  refine ⟨(kW_le hp.2.2).1, (kW_le hp.2.2).2, by simp [jent, Value.category, I_L_append], ?_⟩
  show Jr G (M_L_append G) 0 [some (.ref x), some (.int a), some (.ref o), none] [] σ (fun r' => r' = Ff_L_append G x a o σ)
  obtain ⟨hx, hP, ha, hE, hs⟩ := hp
  unfold Ff_L_append
  have hw := kE6_wt hE
  generalize hR : Ff_X6_append G x a σ = R at *
  obtain ⟨R1, τ⟩ := R
  have ha2 : ja G (jwt τ) o 9 1 := by rw [show jwt τ = jwt σ from hw]; exact ha
  have hv1 : vp_in 0 1 := vp_in_nI (n := 0) (by decide) (by decide)
  rcases hs with ⟨v, hv⟩ | ⟨E, hm, hv⟩
  · have hv : R1 = .inl (some (.int v)) := hv
    subst hv
    simp only [jq_aload2 (M := M_L_append G) 1 dL_append_0 rfl, jq_iconst (M := M_L_append G) 0 2 dL_append_1 (by decide) rfl, jq_aload0 (M := M_L_append G) 3 dL_append_2 rfl, jq_iload1 (M := M_L_append G) 4 dL_append_3 rfl, jq_virt1 (M := M_L_append G) I_X6_append 6 dL_append_4 rfl rfl rfl rfl, jq_i2l (M := M_L_append G) 8 dL_append_7 rfl, jq_last (M := M_L_append G) 9 dL_append_8 rfl 1 ha2, jq_goto (M := M_L_append G) 18 dL_append_9 (by decide), jq_iconst (M := M_L_append G) 0 19 dL_append_18 (by decide) rfl, jq_iret (M := M_L_append G) .int dL_append_19 rfl, eq_self, jref_10, jref_11, jref_12, jk_v, jk_n, jcat_nil, jcat_i, jcat_r, jcat_l, jcat_d, jc2_i, jc2_r, jc2_n, jc1_i, jc1_r, jrf_some, jwtq_wI, jwtq_wh, jR_wI, jI_wh, jR_wh, List.cons.injEq, Value.int.injEq, Value.ref.injEq, Value.long.injEq, Value.double.injEq, true_and, and_true, and_self, Nat.reduceAdd, Nat.reduceLeDiff, if_true, if_false, ite_true, ite_false, jc1q_i, jc1q_r, jc1q_l, jwtq_wR, jwtq_wY, jI_wI, Nat.reduceEqDiff, and_false, false_and, not_false_eq_true, not_true_eq_false, PX_X6_append, FX_X6_append, hR, hP, hx, hw, hv1, jcl_0, jnr_i]
    rfl
  · have hv : R1 = .inr E := hv
    subst hv
    simp only [List.mem_cons, List.not_mem_nil, or_false] at hm
    rcases hm with rfl | rfl
    · simp only [jq_aload2 (M := M_L_append G) 1 dL_append_0 rfl, jq_iconst (M := M_L_append G) 0 2 dL_append_1 (by decide) rfl, jq_aload0 (M := M_L_append G) 3 dL_append_2 rfl, jq_iload1 (M := M_L_append G) 4 dL_append_3 rfl, jq_virt1 (M := M_L_append G) I_X6_append 6 dL_append_4 rfl rfl rfl rfl, eq_self, jref_10, jref_11, jref_12, jk_v, jk_n, jcat_nil, jcat_i, jcat_r, jcat_l, jcat_d, jc2_i, jc2_r, jc2_n, jc1_i, jc1_r, jrf_some, jwtq_wI, jwtq_wh, jR_wI, jI_wh, jR_wh, List.cons.injEq, Value.int.injEq, Value.ref.injEq, Value.long.injEq, Value.double.injEq, true_and, and_true, and_self, Nat.reduceAdd, Nat.reduceLeDiff, if_true, if_false, ite_true, ite_false, jc1q_i, jc1q_r, jc1q_l, jwtq_wR, jwtq_wY, jI_wI, Nat.reduceEqDiff, and_false, false_and, not_false_eq_true, not_true_eq_false, PX_X6_append, FX_X6_append, hR, hP, hx, hw, hv1, jcl_0, jnr_i, jk_h (M := M_L_append G) (pc := 4) (E := "java/lang/IllegalArgumentException") 12 rfl]
      intro q
      simp only [jq_astore3 (M := M_L_append G) 13 dL_append_12 rfl, jq_iconst (M := M_L_append G) 1 14 dL_append_13 (by decide) rfl, jq_iret (M := M_L_append G) .int dL_append_14 rfl, eq_self, jref_10, jref_11, jref_12, jk_v, jk_n, jcat_nil, jcat_i, jcat_r, jcat_l, jcat_d, jc2_i, jc2_r, jc2_n, jc1_i, jc1_r, jrf_some, jwtq_wI, jwtq_wh, jR_wI, jI_wh, jR_wh, List.cons.injEq, Value.int.injEq, Value.ref.injEq, Value.long.injEq, Value.double.injEq, true_and, and_true, and_self, Nat.reduceAdd, Nat.reduceLeDiff, if_true, if_false, ite_true, ite_false, jc1q_i, jc1q_r, jc1q_l, jwtq_wR, jwtq_wY, jI_wI, Nat.reduceEqDiff, and_false, false_and, not_false_eq_true, not_true_eq_false, jnr_i]
      rfl
    · simp only [jq_aload2 (M := M_L_append G) 1 dL_append_0 rfl, jq_iconst (M := M_L_append G) 0 2 dL_append_1 (by decide) rfl, jq_aload0 (M := M_L_append G) 3 dL_append_2 rfl, jq_iload1 (M := M_L_append G) 4 dL_append_3 rfl, jq_virt1 (M := M_L_append G) I_X6_append 6 dL_append_4 rfl rfl rfl rfl, eq_self, jref_10, jref_11, jref_12, jk_v, jk_n, jcat_nil, jcat_i, jcat_r, jcat_l, jcat_d, jc2_i, jc2_r, jc2_n, jc1_i, jc1_r, jrf_some, jwtq_wI, jwtq_wh, jR_wI, jI_wh, jR_wh, List.cons.injEq, Value.int.injEq, Value.ref.injEq, Value.long.injEq, Value.double.injEq, true_and, and_true, and_self, Nat.reduceAdd, Nat.reduceLeDiff, if_true, if_false, ite_true, ite_false, jc1q_i, jc1q_r, jc1q_l, jwtq_wR, jwtq_wY, jI_wI, Nat.reduceEqDiff, and_false, false_and, not_false_eq_true, not_true_eq_false, PX_X6_append, FX_X6_append, hR, hP, hx, hw, hv1, jcl_0, jnr_i, jk_h (M := M_L_append G) (pc := 4) (E := "java/lang/IllegalStateException") 15 rfl]
      intro q
      simp only [jq_astore3 (M := M_L_append G) 16 dL_append_15 rfl, jq_iconst (M := M_L_append G) 2 17 dL_append_16 (by decide) rfl, jq_iret (M := M_L_append G) .int dL_append_17 rfl, eq_self, jref_10, jref_11, jref_12, jk_v, jk_n, jcat_nil, jcat_i, jcat_r, jcat_l, jcat_d, jc2_i, jc2_r, jc2_n, jc1_i, jc1_r, jrf_some, jwtq_wI, jwtq_wh, jR_wI, jI_wh, jR_wh, List.cons.injEq, Value.int.injEq, Value.ref.injEq, Value.long.injEq, Value.double.injEq, true_and, and_true, and_self, Nat.reduceAdd, Nat.reduceLeDiff, if_true, if_false, ite_true, ite_false, jc1q_i, jc1q_r, jc1q_l, jwtq_wR, jwtq_wY, jI_wI, Nat.reduceEqDiff, and_false, false_and, not_false_eq_true, not_true_eq_false, jnr_i]
      rfl
theorem met_L_append {l : Launch} (hl : l.stackTraces = false) (D : va_G) (cy : Nat → ClassId) (G : jgG) : jMet l D cy G I_L_append (S_L_append G) :=
  jr_metH (M_L_append G) I_L_append (S_L_append G) RL rfl (by decide) rfl rfl rfl (by decide) rfl rfl jmAI jmAL (fun R h1 h2 => List.forall_mem_cons.mpr ⟨⟨⟨jm_750, jm_50, jd_X6_append, ⟨by rw [h1]; exact Nat.le_of_ble_eq_true rfl, by rw [h2]; exact Nat.le_of_ble_eq_true rfl⟩, Or.inl ⟨rfl, jm_747, jm_748, jm_749, rfl, Nat.le_of_ble_eq_true rfl, _, rfl, rfl⟩⟩, met_X6_append hl D cy G⟩, fun _ h => nomatch h⟩) (List.forall_mem_cons.mpr ⟨⟨by decide, jw_lIA, jw_cIA⟩, List.forall_mem_cons.mpr ⟨⟨by decide, jw_lIS, jw_cIS⟩, fun _ h => nomatch h⟩⟩) (show ∀ q ∈ ([(0, 9, 12, 13, "java/lang/IllegalArgumentException"), (0, 9, 15, 15, "java/lang/IllegalStateException")] : List (Nat × Nat × Nat × Nat × String)), ∀ z ∈ ([(0, 9, 12, 13, "java/lang/IllegalArgumentException"), (0, 9, 15, 15, "java/lang/IllegalStateException")] : List (Nat × Nat × Nat × Nat × String)), z.2.2.2.2 = q.2.2.2.2 ∨ (q.2.2.2.2, z.2.2.2.2) ∈ jxnc from by decide +kernel) (fun As σ r h => by obtain ⟨-, rfl⟩ := h; exact kW_v _ _ _) (bd_L_append G)
def Pp_L_putAll (G : jgG) (x : Nat) (o : Nat) (σ : jgS) : Prop := jo G (jwt σ) x 6 ∧ Pp_X6_putAll G x σ ∧ kWp G o ["java/lang/IllegalArgumentException", "java/lang/IllegalStateException"] σ (Ff_X6_putAll G x σ)
def Ff_L_putAll (G : jgG) (x : Nat) (o : Nat) (σ : jgS) : jgR := kW ["java/lang/IllegalArgumentException", "java/lang/IllegalStateException"] o (Ff_X6_putAll G x σ)
def P_L_putAll (G : jgG) (As : List Value) (σ : jgS) : Prop := ∃ x : Nat, ∃ o : Nat, As = [.ref x, .ref o] ∧ Pp_L_putAll G x o σ
def F_L_putAll (G : jgG) (As : List Value) (σ : jgS) : jgR := Ff_L_putAll G (jaR As 0) (jaR As 1) σ
def S_L_putAll (G : jgG) : jgSpec := jsp (P_L_putAll G) (F_L_putAll G)
theorem PX_L_putAll {G : jgG} {x : Nat} {o : Nat} {σ : jgS} : P_L_putAll G [.ref x, .ref o] σ ↔ Pp_L_putAll G x o σ := by unfold P_L_putAll; simp [and_assoc]
theorem FX_L_putAll {G : jgG} {x : Nat} {o : Nat} {σ : jgS} : F_L_putAll G [.ref x, .ref o] σ = Ff_L_putAll G x o σ := rfl
def I_L_putAll : jgI := (4, 99, yL_putAll, cL_putAll, 3, (some .int), 2, 8, 133, [(0, 8, 11, 13), (0, 8, 14, 15)])
theorem jd_L_putAll : I_L_putAll.2.2.1.cls ≠ "java/lang/invoke/MethodHandle" ∧ I_L_putAll.2.2.1.cls ≠ "java/lang/invoke/VarHandle" ∧ (parseMethodDescriptor I_L_putAll.2.2.1.desc).map (fun d => d.parameters.length) = some I_L_putAll.2.2.2.2.2.2.1 := ⟨by decide +kernel, by decide +kernel, by decide +kernel⟩
def M_L_putAll (G : jgG) : jgM := (cL_putAll, [(50, jpC I_X6_putAll (S_X6_putAll G))], [], [(0, 8, 11, 13, "java/lang/IllegalArgumentException"), (0, 8, 14, 15, "java/lang/IllegalStateException")], (some .int), false)
theorem bd_L_putAll (G : jgG) : ∀ (As : List Value) (σ : jgS) (r : jgR), S_L_putAll G As σ r → jhs σ ≤ jhs r.2 ∧ jsl σ ≤ jsl r.2 ∧ (jent As).length ≤ I_L_putAll.2.2.2.2.1 ∧ Jr G (M_L_putAll G) 0 (jentry As I_L_putAll.2.2.2.2.1) [] σ (fun r' => r' = r) := by
  rintro As σ r ⟨⟨x, o, rfl, hp⟩, rfl⟩
  rw [FX_L_putAll]
  refine ⟨(kW_le hp.2.2).1, (kW_le hp.2.2).2, by simp [jent, Value.category, I_L_putAll], ?_⟩
  show Jr G (M_L_putAll G) 0 [some (.ref x), some (.ref o), none] [] σ (fun r' => r' = Ff_L_putAll G x o σ)
  obtain ⟨hx, hP, ha, hE, hs⟩ := hp
  unfold Ff_L_putAll
  have hw := kE6_wt hE
  generalize hR : Ff_X6_putAll G x σ = R at *
  obtain ⟨R1, τ⟩ := R
  have ha2 : ja G (jwt τ) o 9 1 := by rw [show jwt τ = jwt σ from hw]; exact ha
  have hv1 : vp_in 0 1 := vp_in_nI (n := 0) (by decide) (by decide)
  rcases hs with ⟨v, hv⟩ | ⟨E, hm, hv⟩
  · have hv : R1 = .inl (some (.int v)) := hv
    subst hv
    simp only [jq_aload1 (M := M_L_putAll G) 1 dL_putAll_0 rfl, jq_iconst (M := M_L_putAll G) 0 2 dL_putAll_1 (by decide) rfl, jq_aload0 (M := M_L_putAll G) 3 dL_putAll_2 rfl, jq_virt0 (M := M_L_putAll G) I_X6_putAll 6 dL_putAll_3 rfl rfl rfl rfl, jq_i2l (M := M_L_putAll G) 7 dL_putAll_6 rfl, jq_last (M := M_L_putAll G) 8 dL_putAll_7 rfl 1 ha2, jq_goto (M := M_L_putAll G) 17 dL_putAll_8 (by decide), jq_iconst (M := M_L_putAll G) 0 18 dL_putAll_17 (by decide) rfl, jq_iret (M := M_L_putAll G) .int dL_putAll_18 rfl, eq_self, jref_10, jref_11, jref_12, jk_v, jk_n, jcat_nil, jcat_i, jcat_r, jcat_l, jcat_d, jc2_i, jc2_r, jc2_n, jc1_i, jc1_r, jrf_some, jwtq_wI, jwtq_wh, jR_wI, jI_wh, jR_wh, List.cons.injEq, Value.int.injEq, Value.ref.injEq, Value.long.injEq, Value.double.injEq, true_and, and_true, and_self, Nat.reduceAdd, Nat.reduceLeDiff, if_true, if_false, ite_true, ite_false, jc1q_i, jc1q_r, jc1q_l, jwtq_wR, jwtq_wY, jI_wI, Nat.reduceEqDiff, and_false, false_and, not_false_eq_true, not_true_eq_false, PX_X6_putAll, FX_X6_putAll, hR, hP, hx, hw, hv1, jcl_0, jnr_i]
    rfl
  · have hv : R1 = .inr E := hv
    subst hv
    simp only [List.mem_cons, List.not_mem_nil, or_false] at hm
    rcases hm with rfl | rfl
    · simp only [jq_aload1 (M := M_L_putAll G) 1 dL_putAll_0 rfl, jq_iconst (M := M_L_putAll G) 0 2 dL_putAll_1 (by decide) rfl, jq_aload0 (M := M_L_putAll G) 3 dL_putAll_2 rfl, jq_virt0 (M := M_L_putAll G) I_X6_putAll 6 dL_putAll_3 rfl rfl rfl rfl, eq_self, jref_10, jref_11, jref_12, jk_v, jk_n, jcat_nil, jcat_i, jcat_r, jcat_l, jcat_d, jc2_i, jc2_r, jc2_n, jc1_i, jc1_r, jrf_some, jwtq_wI, jwtq_wh, jR_wI, jI_wh, jR_wh, List.cons.injEq, Value.int.injEq, Value.ref.injEq, Value.long.injEq, Value.double.injEq, true_and, and_true, and_self, Nat.reduceAdd, Nat.reduceLeDiff, if_true, if_false, ite_true, ite_false, jc1q_i, jc1q_r, jc1q_l, jwtq_wR, jwtq_wY, jI_wI, Nat.reduceEqDiff, and_false, false_and, not_false_eq_true, not_true_eq_false, PX_X6_putAll, FX_X6_putAll, hR, hP, hx, hw, hv1, jcl_0, jnr_i, jk_h (M := M_L_putAll G) (pc := 3) (E := "java/lang/IllegalArgumentException") 11 rfl]
      intro q
      simp only [jq_astore2 (M := M_L_putAll G) 12 dL_putAll_11 rfl, jq_iconst (M := M_L_putAll G) 1 13 dL_putAll_12 (by decide) rfl, jq_iret (M := M_L_putAll G) .int dL_putAll_13 rfl, eq_self, jref_10, jref_11, jref_12, jk_v, jk_n, jcat_nil, jcat_i, jcat_r, jcat_l, jcat_d, jc2_i, jc2_r, jc2_n, jc1_i, jc1_r, jrf_some, jwtq_wI, jwtq_wh, jR_wI, jI_wh, jR_wh, List.cons.injEq, Value.int.injEq, Value.ref.injEq, Value.long.injEq, Value.double.injEq, true_and, and_true, and_self, Nat.reduceAdd, Nat.reduceLeDiff, if_true, if_false, ite_true, ite_false, jc1q_i, jc1q_r, jc1q_l, jwtq_wR, jwtq_wY, jI_wI, Nat.reduceEqDiff, and_false, false_and, not_false_eq_true, not_true_eq_false, jnr_i]
      rfl
    · simp only [jq_aload1 (M := M_L_putAll G) 1 dL_putAll_0 rfl, jq_iconst (M := M_L_putAll G) 0 2 dL_putAll_1 (by decide) rfl, jq_aload0 (M := M_L_putAll G) 3 dL_putAll_2 rfl, jq_virt0 (M := M_L_putAll G) I_X6_putAll 6 dL_putAll_3 rfl rfl rfl rfl, eq_self, jref_10, jref_11, jref_12, jk_v, jk_n, jcat_nil, jcat_i, jcat_r, jcat_l, jcat_d, jc2_i, jc2_r, jc2_n, jc1_i, jc1_r, jrf_some, jwtq_wI, jwtq_wh, jR_wI, jI_wh, jR_wh, List.cons.injEq, Value.int.injEq, Value.ref.injEq, Value.long.injEq, Value.double.injEq, true_and, and_true, and_self, Nat.reduceAdd, Nat.reduceLeDiff, if_true, if_false, ite_true, ite_false, jc1q_i, jc1q_r, jc1q_l, jwtq_wR, jwtq_wY, jI_wI, Nat.reduceEqDiff, and_false, false_and, not_false_eq_true, not_true_eq_false, PX_X6_putAll, FX_X6_putAll, hR, hP, hx, hw, hv1, jcl_0, jnr_i, jk_h (M := M_L_putAll G) (pc := 3) (E := "java/lang/IllegalStateException") 14 rfl]
      intro q
      simp only [jq_astore2 (M := M_L_putAll G) 15 dL_putAll_14 rfl, jq_iconst (M := M_L_putAll G) 2 16 dL_putAll_15 (by decide) rfl, jq_iret (M := M_L_putAll G) .int dL_putAll_16 rfl, eq_self, jref_10, jref_11, jref_12, jk_v, jk_n, jcat_nil, jcat_i, jcat_r, jcat_l, jcat_d, jc2_i, jc2_r, jc2_n, jc1_i, jc1_r, jrf_some, jwtq_wI, jwtq_wh, jR_wI, jI_wh, jR_wh, List.cons.injEq, Value.int.injEq, Value.ref.injEq, Value.long.injEq, Value.double.injEq, true_and, and_true, and_self, Nat.reduceAdd, Nat.reduceLeDiff, if_true, if_false, ite_true, ite_false, jc1q_i, jc1q_r, jc1q_l, jwtq_wR, jwtq_wY, jI_wI, Nat.reduceEqDiff, and_false, false_and, not_false_eq_true, not_true_eq_false, jnr_i]
      rfl
theorem met_L_putAll {l : Launch} (hl : l.stackTraces = false) (D : va_G) (cy : Nat → ClassId) (G : jgG) : jMet l D cy G I_L_putAll (S_L_putAll G) :=
  jr_metH (M_L_putAll G) I_L_putAll (S_L_putAll G) RL rfl (by decide) rfl rfl rfl (by decide) rfl rfl jmAI jmAL (fun R h1 h2 => List.forall_mem_cons.mpr ⟨⟨⟨jm_762, jm_50, jd_X6_putAll, ⟨by rw [h1]; exact Nat.le_of_ble_eq_true rfl, by rw [h2]; exact Nat.le_of_ble_eq_true rfl⟩, Or.inl ⟨rfl, jm_759, jm_760, jm_761, rfl, Nat.le_of_ble_eq_true rfl, _, rfl, rfl⟩⟩, met_X6_putAll hl D cy G⟩, fun _ h => nomatch h⟩) (List.forall_mem_cons.mpr ⟨⟨by decide, jw_lIA, jw_cIA⟩, List.forall_mem_cons.mpr ⟨⟨by decide, jw_lIS, jw_cIS⟩, fun _ h => nomatch h⟩⟩) (show ∀ q ∈ ([(0, 8, 11, 13, "java/lang/IllegalArgumentException"), (0, 8, 14, 15, "java/lang/IllegalStateException")] : List (Nat × Nat × Nat × Nat × String)), ∀ z ∈ ([(0, 8, 11, 13, "java/lang/IllegalArgumentException"), (0, 8, 14, 15, "java/lang/IllegalStateException")] : List (Nat × Nat × Nat × Nat × String)), z.2.2.2.2 = q.2.2.2.2 ∨ (q.2.2.2.2, z.2.2.2.2) ∈ jxnc from by decide +kernel) (fun As σ r h => by obtain ⟨-, rfl⟩ := h; exact kW_v _ _ _) (bd_L_putAll G)
def Pp_L_undo (G : jgG) (x : Nat) (o : Nat) (σ : jgS) : Prop := jo G (jwt σ) x 6 ∧ Pp_X6_undo G x σ ∧ kWp G o ["java/lang/IllegalStateException"] σ (Ff_X6_undo G x σ)
def Ff_L_undo (G : jgG) (x : Nat) (o : Nat) (σ : jgS) : jgR := kW ["java/lang/IllegalStateException"] o (Ff_X6_undo G x σ)
def P_L_undo (G : jgG) (As : List Value) (σ : jgS) : Prop := ∃ x : Nat, ∃ o : Nat, As = [.ref x, .ref o] ∧ Pp_L_undo G x o σ
def F_L_undo (G : jgG) (As : List Value) (σ : jgS) : jgR := Ff_L_undo G (jaR As 0) (jaR As 1) σ
def S_L_undo (G : jgG) : jgSpec := jsp (P_L_undo G) (F_L_undo G)
theorem PX_L_undo {G : jgG} {x : Nat} {o : Nat} {σ : jgS} : P_L_undo G [.ref x, .ref o] σ ↔ Pp_L_undo G x o σ := by unfold P_L_undo; simp [and_assoc]
theorem FX_L_undo {G : jgG} {x : Nat} {o : Nat} {σ : jgS} : F_L_undo G [.ref x, .ref o] σ = Ff_L_undo G x o σ := rfl
def I_L_undo : jgI := (4, 99, yL_undo, cL_undo, 3, (some .int), 2, 7, 110, [(0, 8, 11, 15)])
theorem jd_L_undo : I_L_undo.2.2.1.cls ≠ "java/lang/invoke/MethodHandle" ∧ I_L_undo.2.2.1.cls ≠ "java/lang/invoke/VarHandle" ∧ (parseMethodDescriptor I_L_undo.2.2.1.desc).map (fun d => d.parameters.length) = some I_L_undo.2.2.2.2.2.2.1 := ⟨by decide +kernel, by decide +kernel, by decide +kernel⟩
def M_L_undo (G : jgG) : jgM := (cL_undo, [(54, jpC I_X6_undo (S_X6_undo G))], [], [(0, 8, 11, 15, "java/lang/IllegalStateException")], (some .int), false)
theorem bd_L_undo (G : jgG) : ∀ (As : List Value) (σ : jgS) (r : jgR), S_L_undo G As σ r → jhs σ ≤ jhs r.2 ∧ jsl σ ≤ jsl r.2 ∧ (jent As).length ≤ I_L_undo.2.2.2.2.1 ∧ Jr G (M_L_undo G) 0 (jentry As I_L_undo.2.2.2.2.1) [] σ (fun r' => r' = r) := by
  rintro As σ r ⟨⟨x, o, rfl, hp⟩, rfl⟩
  rw [FX_L_undo]
  refine ⟨(kW_le hp.2.2).1, (kW_le hp.2.2).2, by simp [jent, Value.category, I_L_undo], ?_⟩
  show Jr G (M_L_undo G) 0 [some (.ref x), some (.ref o), none] [] σ (fun r' => r' = Ff_L_undo G x o σ)
  obtain ⟨hx, hP, ha, hE, hs⟩ := hp
  unfold Ff_L_undo
  have hw := kE6_wt hE
  generalize hR : Ff_X6_undo G x σ = R at *
  obtain ⟨R1, τ⟩ := R
  have ha2 : ja G (jwt τ) o 9 1 := by rw [show jwt τ = jwt σ from hw]; exact ha
  have hv1 : vp_in 0 1 := vp_in_nI (n := 0) (by decide) (by decide)
  rcases hs with ⟨v, hv⟩ | ⟨E, hm, hv⟩
  · have hv : R1 = .inl (some (.int v)) := hv
    subst hv
    simp only [jq_aload1 (M := M_L_undo G) 1 dL_undo_0 rfl, jq_iconst (M := M_L_undo G) 0 2 dL_undo_1 (by decide) rfl, jq_aload0 (M := M_L_undo G) 3 dL_undo_2 rfl, jq_virt0 (M := M_L_undo G) I_X6_undo 6 dL_undo_3 rfl rfl rfl rfl, jq_i2l (M := M_L_undo G) 7 dL_undo_6 rfl, jq_last (M := M_L_undo G) 8 dL_undo_7 rfl 1 ha2, jq_goto (M := M_L_undo G) 14 dL_undo_8 (by decide), jq_iconst (M := M_L_undo G) 0 15 dL_undo_14 (by decide) rfl, jq_iret (M := M_L_undo G) .int dL_undo_15 rfl, eq_self, jref_10, jref_11, jref_12, jk_v, jk_n, jcat_nil, jcat_i, jcat_r, jcat_l, jcat_d, jc2_i, jc2_r, jc2_n, jc1_i, jc1_r, jrf_some, jwtq_wI, jwtq_wh, jR_wI, jI_wh, jR_wh, List.cons.injEq, Value.int.injEq, Value.ref.injEq, Value.long.injEq, Value.double.injEq, true_and, and_true, and_self, Nat.reduceAdd, Nat.reduceLeDiff, if_true, if_false, ite_true, ite_false, jc1q_i, jc1q_r, jc1q_l, jwtq_wR, jwtq_wY, jI_wI, Nat.reduceEqDiff, and_false, false_and, not_false_eq_true, not_true_eq_false, PX_X6_undo, FX_X6_undo, hR, hP, hx, hw, hv1, jcl_0, jnr_i]
    rfl
  · have hv : R1 = .inr E := hv
    subst hv
    simp only [List.mem_cons, List.not_mem_nil, or_false] at hm
    rcases hm with rfl
    · simp only [jq_aload1 (M := M_L_undo G) 1 dL_undo_0 rfl, jq_iconst (M := M_L_undo G) 0 2 dL_undo_1 (by decide) rfl, jq_aload0 (M := M_L_undo G) 3 dL_undo_2 rfl, jq_virt0 (M := M_L_undo G) I_X6_undo 6 dL_undo_3 rfl rfl rfl rfl, eq_self, jref_10, jref_11, jref_12, jk_v, jk_n, jcat_nil, jcat_i, jcat_r, jcat_l, jcat_d, jc2_i, jc2_r, jc2_n, jc1_i, jc1_r, jrf_some, jwtq_wI, jwtq_wh, jR_wI, jI_wh, jR_wh, List.cons.injEq, Value.int.injEq, Value.ref.injEq, Value.long.injEq, Value.double.injEq, true_and, and_true, and_self, Nat.reduceAdd, Nat.reduceLeDiff, if_true, if_false, ite_true, ite_false, jc1q_i, jc1q_r, jc1q_l, jwtq_wR, jwtq_wY, jI_wI, Nat.reduceEqDiff, and_false, false_and, not_false_eq_true, not_true_eq_false, PX_X6_undo, FX_X6_undo, hR, hP, hx, hw, hv1, jcl_0, jnr_i, jk_h (M := M_L_undo G) (pc := 3) (E := "java/lang/IllegalStateException") 11 rfl]
      intro q
      simp only [jq_astore2 (M := M_L_undo G) 12 dL_undo_11 rfl, jq_iconst (M := M_L_undo G) 1 13 dL_undo_12 (by decide) rfl, jq_iret (M := M_L_undo G) .int dL_undo_13 rfl, eq_self, jref_10, jref_11, jref_12, jk_v, jk_n, jcat_nil, jcat_i, jcat_r, jcat_l, jcat_d, jc2_i, jc2_r, jc2_n, jc1_i, jc1_r, jrf_some, jwtq_wI, jwtq_wh, jR_wI, jI_wh, jR_wh, List.cons.injEq, Value.int.injEq, Value.ref.injEq, Value.long.injEq, Value.double.injEq, true_and, and_true, and_self, Nat.reduceAdd, Nat.reduceLeDiff, if_true, if_false, ite_true, ite_false, jc1q_i, jc1q_r, jc1q_l, jwtq_wR, jwtq_wY, jI_wI, Nat.reduceEqDiff, and_false, false_and, not_false_eq_true, not_true_eq_false, jnr_i]
      rfl
theorem met_L_undo {l : Launch} (hl : l.stackTraces = false) (D : va_G) (cy : Nat → ClassId) (G : jgG) : jMet l D cy G I_L_undo (S_L_undo G) :=
  jr_metH (M_L_undo G) I_L_undo (S_L_undo G) RL rfl (by decide) rfl rfl rfl (by decide) rfl rfl jmAI jmAL (fun R h1 h2 => List.forall_mem_cons.mpr ⟨⟨⟨jm_779, jm_50, jd_X6_undo, ⟨by rw [h1]; exact Nat.le_of_ble_eq_true rfl, by rw [h2]; exact Nat.le_of_ble_eq_true rfl⟩, Or.inl ⟨rfl, jm_776, jm_777, jm_778, rfl, Nat.le_of_ble_eq_true rfl, _, rfl, rfl⟩⟩, met_X6_undo hl D cy G⟩, fun _ h => nomatch h⟩) (List.forall_mem_cons.mpr ⟨⟨by decide, jw_lIS, jw_cIS⟩, fun _ h => nomatch h⟩) (show ∀ q ∈ ([(0, 8, 11, 15, "java/lang/IllegalStateException")] : List (Nat × Nat × Nat × Nat × String)), ∀ z ∈ ([(0, 8, 11, 15, "java/lang/IllegalStateException")] : List (Nat × Nat × Nat × Nat × String)), z.2.2.2.2 = q.2.2.2.2 ∨ (q.2.2.2.2, z.2.2.2.2) ∈ jxnc from by decide +kernel) (fun As σ r h => by obtain ⟨-, rfl⟩ := h; exact kW_v _ _ _) (bd_L_undo G)
def Pp_L_row (G : jgG) (x : Nat) (a : Int32) (b : Int32) (o : Nat) (σ : jgS) : Prop := jo G (jwt σ) x 6 ∧ Pp_X6_row G x a b σ ∧ kWp G o ["java/lang/IndexOutOfBoundsException", "java/lang/IllegalArgumentException"] σ (Ff_X6_row G x a b σ)
def Ff_L_row (G : jgG) (x : Nat) (a : Int32) (b : Int32) (o : Nat) (σ : jgS) : jgR := kW ["java/lang/IndexOutOfBoundsException", "java/lang/IllegalArgumentException"] o (Ff_X6_row G x a b σ)
def P_L_row (G : jgG) (As : List Value) (σ : jgS) : Prop := ∃ x : Nat, ∃ a : Int32, ∃ b : Int32, ∃ o : Nat, As = [.ref x, .int a, .int b, .ref o] ∧ Pp_L_row G x a b o σ
def F_L_row (G : jgG) (As : List Value) (σ : jgS) : jgR := Ff_L_row G (jaR As 0) (jaI As 1) (jaI As 2) (jaR As 3) σ
def S_L_row (G : jgG) : jgSpec := jsp (P_L_row G) (F_L_row G)
theorem PX_L_row {G : jgG} {x : Nat} {a : Int32} {b : Int32} {o : Nat} {σ : jgS} : P_L_row G [.ref x, .int a, .int b, .ref o] σ ↔ Pp_L_row G x a b o σ := by unfold P_L_row; simp [and_assoc]
theorem FX_L_row {G : jgG} {x : Nat} {a : Int32} {b : Int32} {o : Nat} {σ : jgS} : F_L_row G [.ref x, .int a, .int b, .ref o] σ = Ff_L_row G x a b o σ := rfl
def I_L_row : jgI := (4, 99, yL_row, cL_row, 5, (some .int), 4, 8, 135, [(0, 10, 13, 20), (0, 10, 17, 13)])
theorem jd_L_row : I_L_row.2.2.1.cls ≠ "java/lang/invoke/MethodHandle" ∧ I_L_row.2.2.1.cls ≠ "java/lang/invoke/VarHandle" ∧ (parseMethodDescriptor I_L_row.2.2.1.desc).map (fun d => d.parameters.length) = some I_L_row.2.2.2.2.2.2.1 := ⟨by decide +kernel, by decide +kernel, by decide +kernel⟩
def M_L_row (G : jgG) : jgM := (cL_row, [(57, jpC I_X6_row (S_X6_row G))], [], [(0, 10, 13, 20, "java/lang/IndexOutOfBoundsException"), (0, 10, 17, 13, "java/lang/IllegalArgumentException")], (some .int), false)
theorem bd_L_row (G : jgG) : ∀ (As : List Value) (σ : jgS) (r : jgR), S_L_row G As σ r → jhs σ ≤ jhs r.2 ∧ jsl σ ≤ jsl r.2 ∧ (jent As).length ≤ I_L_row.2.2.2.2.1 ∧ Jr G (M_L_row G) 0 (jentry As I_L_row.2.2.2.2.1) [] σ (fun r' => r' = r) := by
  rintro As σ r ⟨⟨x, a, b, o, rfl, hp⟩, rfl⟩
  rw [FX_L_row]
  refine ⟨(kW_le hp.2.2).1, (kW_le hp.2.2).2, by simp [jent, Value.category, I_L_row], ?_⟩
  show Jr G (M_L_row G) 0 [some (.ref x), some (.int a), some (.int b), some (.ref o), none] [] σ (fun r' => r' = Ff_L_row G x a b o σ)
  obtain ⟨hx, hP, ha, hE, hs⟩ := hp
  unfold Ff_L_row
  have hw := kE6_wt hE
  generalize hR : Ff_X6_row G x a b σ = R at *
  obtain ⟨R1, τ⟩ := R
  have ha2 : ja G (jwt τ) o 9 1 := by rw [show jwt τ = jwt σ from hw]; exact ha
  have hv1 : vp_in 0 1 := vp_in_nI (n := 0) (by decide) (by decide)
  rcases hs with ⟨v, hv⟩ | ⟨E, hm, hv⟩
  · have hv : R1 = .inl (some (.int v)) := hv
    subst hv
    simp only [jq_aload3 (M := M_L_row G) 1 dL_row_0 rfl, jq_iconst (M := M_L_row G) 0 2 dL_row_1 (by decide) rfl, jq_aload0 (M := M_L_row G) 3 dL_row_2 rfl, jq_iload1 (M := M_L_row G) 4 dL_row_3 rfl, jq_iload2 (M := M_L_row G) 5 dL_row_4 rfl, jq_virt2 (M := M_L_row G) I_X6_row 6 dL_row_5 rfl rfl rfl rfl, jq_i2l (M := M_L_row G) 9 dL_row_8 rfl, jq_last (M := M_L_row G) 10 dL_row_9 rfl 1 ha2, jq_goto (M := M_L_row G) 21 dL_row_10 (by decide), jq_iconst (M := M_L_row G) 0 22 dL_row_21 (by decide) rfl, jq_iret (M := M_L_row G) .int dL_row_22 rfl, eq_self, jref_10, jref_11, jref_12, jk_v, jk_n, jcat_nil, jcat_i, jcat_r, jcat_l, jcat_d, jc2_i, jc2_r, jc2_n, jc1_i, jc1_r, jrf_some, jwtq_wI, jwtq_wh, jR_wI, jI_wh, jR_wh, List.cons.injEq, Value.int.injEq, Value.ref.injEq, Value.long.injEq, Value.double.injEq, true_and, and_true, and_self, Nat.reduceAdd, Nat.reduceLeDiff, if_true, if_false, ite_true, ite_false, jc1q_i, jc1q_r, jc1q_l, jwtq_wR, jwtq_wY, jI_wI, Nat.reduceEqDiff, and_false, false_and, not_false_eq_true, not_true_eq_false, PX_X6_row, FX_X6_row, hR, hP, hx, hw, hv1, jcl_0, jnr_i]
    rfl
  · have hv : R1 = .inr E := hv
    subst hv
    simp only [List.mem_cons, List.not_mem_nil, or_false] at hm
    rcases hm with rfl | rfl
    · simp only [jq_aload3 (M := M_L_row G) 1 dL_row_0 rfl, jq_iconst (M := M_L_row G) 0 2 dL_row_1 (by decide) rfl, jq_aload0 (M := M_L_row G) 3 dL_row_2 rfl, jq_iload1 (M := M_L_row G) 4 dL_row_3 rfl, jq_iload2 (M := M_L_row G) 5 dL_row_4 rfl, jq_virt2 (M := M_L_row G) I_X6_row 6 dL_row_5 rfl rfl rfl rfl, eq_self, jref_10, jref_11, jref_12, jk_v, jk_n, jcat_nil, jcat_i, jcat_r, jcat_l, jcat_d, jc2_i, jc2_r, jc2_n, jc1_i, jc1_r, jrf_some, jwtq_wI, jwtq_wh, jR_wI, jI_wh, jR_wh, List.cons.injEq, Value.int.injEq, Value.ref.injEq, Value.long.injEq, Value.double.injEq, true_and, and_true, and_self, Nat.reduceAdd, Nat.reduceLeDiff, if_true, if_false, ite_true, ite_false, jc1q_i, jc1q_r, jc1q_l, jwtq_wR, jwtq_wY, jI_wI, Nat.reduceEqDiff, and_false, false_and, not_false_eq_true, not_true_eq_false, PX_X6_row, FX_X6_row, hR, hP, hx, hw, hv1, jcl_0, jnr_i, jk_h (M := M_L_row G) (pc := 5) (E := "java/lang/IndexOutOfBoundsException") 13 rfl]
      intro q
      simp only [jq_astoreW4 (M := M_L_row G) 15 dL_row_13 rfl, jq_iconst (M := M_L_row G) 1 16 dL_row_15 (by decide) rfl, jq_iret (M := M_L_row G) .int dL_row_16 rfl, eq_self, jref_10, jref_11, jref_12, jk_v, jk_n, jcat_nil, jcat_i, jcat_r, jcat_l, jcat_d, jc2_i, jc2_r, jc2_n, jc1_i, jc1_r, jrf_some, jwtq_wI, jwtq_wh, jR_wI, jI_wh, jR_wh, List.cons.injEq, Value.int.injEq, Value.ref.injEq, Value.long.injEq, Value.double.injEq, true_and, and_true, and_self, Nat.reduceAdd, Nat.reduceLeDiff, if_true, if_false, ite_true, ite_false, jc1q_i, jc1q_r, jc1q_l, jwtq_wR, jwtq_wY, jI_wI, Nat.reduceEqDiff, and_false, false_and, not_false_eq_true, not_true_eq_false, jnr_i]
      rfl
    · simp only [jq_aload3 (M := M_L_row G) 1 dL_row_0 rfl, jq_iconst (M := M_L_row G) 0 2 dL_row_1 (by decide) rfl, jq_aload0 (M := M_L_row G) 3 dL_row_2 rfl, jq_iload1 (M := M_L_row G) 4 dL_row_3 rfl, jq_iload2 (M := M_L_row G) 5 dL_row_4 rfl, jq_virt2 (M := M_L_row G) I_X6_row 6 dL_row_5 rfl rfl rfl rfl, eq_self, jref_10, jref_11, jref_12, jk_v, jk_n, jcat_nil, jcat_i, jcat_r, jcat_l, jcat_d, jc2_i, jc2_r, jc2_n, jc1_i, jc1_r, jrf_some, jwtq_wI, jwtq_wh, jR_wI, jI_wh, jR_wh, List.cons.injEq, Value.int.injEq, Value.ref.injEq, Value.long.injEq, Value.double.injEq, true_and, and_true, and_self, Nat.reduceAdd, Nat.reduceLeDiff, if_true, if_false, ite_true, ite_false, jc1q_i, jc1q_r, jc1q_l, jwtq_wR, jwtq_wY, jI_wI, Nat.reduceEqDiff, and_false, false_and, not_false_eq_true, not_true_eq_false, PX_X6_row, FX_X6_row, hR, hP, hx, hw, hv1, jcl_0, jnr_i, jk_h (M := M_L_row G) (pc := 5) (E := "java/lang/IllegalArgumentException") 17 rfl]
      intro q
      simp only [jq_astoreW4 (M := M_L_row G) 19 dL_row_17 rfl, jq_iconst (M := M_L_row G) 2 20 dL_row_19 (by decide) rfl, jq_iret (M := M_L_row G) .int dL_row_20 rfl, eq_self, jref_10, jref_11, jref_12, jk_v, jk_n, jcat_nil, jcat_i, jcat_r, jcat_l, jcat_d, jc2_i, jc2_r, jc2_n, jc1_i, jc1_r, jrf_some, jwtq_wI, jwtq_wh, jR_wI, jI_wh, jR_wh, List.cons.injEq, Value.int.injEq, Value.ref.injEq, Value.long.injEq, Value.double.injEq, true_and, and_true, and_self, Nat.reduceAdd, Nat.reduceLeDiff, if_true, if_false, ite_true, ite_false, jc1q_i, jc1q_r, jc1q_l, jwtq_wR, jwtq_wY, jI_wI, Nat.reduceEqDiff, and_false, false_and, not_false_eq_true, not_true_eq_false, jnr_i]
      rfl
theorem met_L_row {l : Launch} (hl : l.stackTraces = false) (D : va_G) (cy : Nat → ClassId) (G : jgG) : jMet l D cy G I_L_row (S_L_row G) :=
  jr_metH (M_L_row G) I_L_row (S_L_row G) RL rfl (by decide) rfl rfl rfl (by decide) rfl rfl jmAI jmAL (fun R h1 h2 => List.forall_mem_cons.mpr ⟨⟨⟨jm_500, jm_50, jd_X6_row, ⟨by rw [h1]; exact Nat.le_of_ble_eq_true rfl, by rw [h2]; exact Nat.le_of_ble_eq_true rfl⟩, Or.inl ⟨rfl, jm_788, jm_498, jm_499, rfl, Nat.le_of_ble_eq_true rfl, _, rfl, rfl⟩⟩, met_X6_row hl D cy G⟩, fun _ h => nomatch h⟩) (List.forall_mem_cons.mpr ⟨⟨by decide, jw_lIO, jw_cIO⟩, List.forall_mem_cons.mpr ⟨⟨by decide, jw_lIA, jw_cIA⟩, fun _ h => nomatch h⟩⟩) (show ∀ q ∈ ([(0, 10, 13, 20, "java/lang/IndexOutOfBoundsException"), (0, 10, 17, 13, "java/lang/IllegalArgumentException")] : List (Nat × Nat × Nat × Nat × String)), ∀ z ∈ ([(0, 10, 13, 20, "java/lang/IndexOutOfBoundsException"), (0, 10, 17, 13, "java/lang/IllegalArgumentException")] : List (Nat × Nat × Nat × Nat × String)), z.2.2.2.2 = q.2.2.2.2 ∨ (q.2.2.2.2, z.2.2.2.2) ∈ jxnc from by decide +kernel) (fun As σ r h => by obtain ⟨-, rfl⟩ := h; exact kW_v _ _ _) (bd_L_row G)
def Pp_L_reader (G : jgG) (x : Nat) (a : Int32) (b : Int32) (o : Nat) (σ : jgS) : Prop := jo G (jwt σ) x 6 ∧ Pp_X6_reader G x a b σ ∧ kWp G o ["java/lang/IndexOutOfBoundsException", "java/lang/IllegalArgumentException"] σ (Ff_X6_reader G x a b σ)
def Ff_L_reader (G : jgG) (x : Nat) (a : Int32) (b : Int32) (o : Nat) (σ : jgS) : jgR := kW ["java/lang/IndexOutOfBoundsException", "java/lang/IllegalArgumentException"] o (Ff_X6_reader G x a b σ)
def P_L_reader (G : jgG) (As : List Value) (σ : jgS) : Prop := ∃ x : Nat, ∃ a : Int32, ∃ b : Int32, ∃ o : Nat, As = [.ref x, .int a, .int b, .ref o] ∧ Pp_L_reader G x a b o σ
def F_L_reader (G : jgG) (As : List Value) (σ : jgS) : jgR := Ff_L_reader G (jaR As 0) (jaI As 1) (jaI As 2) (jaR As 3) σ
def S_L_reader (G : jgG) : jgSpec := jsp (P_L_reader G) (F_L_reader G)
theorem PX_L_reader {G : jgG} {x : Nat} {a : Int32} {b : Int32} {o : Nat} {σ : jgS} : P_L_reader G [.ref x, .int a, .int b, .ref o] σ ↔ Pp_L_reader G x a b o σ := by unfold P_L_reader; simp [and_assoc]
theorem FX_L_reader {G : jgG} {x : Nat} {a : Int32} {b : Int32} {o : Nat} {σ : jgS} : F_L_reader G [.ref x, .int a, .int b, .ref o] σ = Ff_L_reader G x a b o σ := rfl
def I_L_reader : jgI := (4, 99, yL_reader, cL_reader, 5, (some .int), 4, 8, 135, [(0, 10, 13, 20), (0, 10, 17, 13)])
theorem jd_L_reader : I_L_reader.2.2.1.cls ≠ "java/lang/invoke/MethodHandle" ∧ I_L_reader.2.2.1.cls ≠ "java/lang/invoke/VarHandle" ∧ (parseMethodDescriptor I_L_reader.2.2.1.desc).map (fun d => d.parameters.length) = some I_L_reader.2.2.2.2.2.2.1 := ⟨by decide +kernel, by decide +kernel, by decide +kernel⟩
def M_L_reader (G : jgG) : jgM := (cL_reader, [(60, jpC I_X6_reader (S_X6_reader G))], [], [(0, 10, 13, 20, "java/lang/IndexOutOfBoundsException"), (0, 10, 17, 13, "java/lang/IllegalArgumentException")], (some .int), false)
theorem bd_L_reader (G : jgG) : ∀ (As : List Value) (σ : jgS) (r : jgR), S_L_reader G As σ r → jhs σ ≤ jhs r.2 ∧ jsl σ ≤ jsl r.2 ∧ (jent As).length ≤ I_L_reader.2.2.2.2.1 ∧ Jr G (M_L_reader G) 0 (jentry As I_L_reader.2.2.2.2.1) [] σ (fun r' => r' = r) := by
  rintro As σ r ⟨⟨x, a, b, o, rfl, hp⟩, rfl⟩
  rw [FX_L_reader]
  refine ⟨(kW_le hp.2.2).1, (kW_le hp.2.2).2, by simp [jent, Value.category, I_L_reader], ?_⟩
  show Jr G (M_L_reader G) 0 [some (.ref x), some (.int a), some (.int b), some (.ref o), none] [] σ (fun r' => r' = Ff_L_reader G x a b o σ)
  obtain ⟨hx, hP, ha, hE, hs⟩ := hp
  unfold Ff_L_reader
  have hw := kE6_wt hE
  generalize hR : Ff_X6_reader G x a b σ = R at *
  obtain ⟨R1, τ⟩ := R
  have ha2 : ja G (jwt τ) o 9 1 := by rw [show jwt τ = jwt σ from hw]; exact ha
  have hv1 : vp_in 0 1 := vp_in_nI (n := 0) (by decide) (by decide)
  rcases hs with ⟨v, hv⟩ | ⟨E, hm, hv⟩
  · have hv : R1 = .inl (some (.int v)) := hv
    subst hv
    simp only [jq_aload3 (M := M_L_reader G) 1 dL_reader_0 rfl, jq_iconst (M := M_L_reader G) 0 2 dL_reader_1 (by decide) rfl, jq_aload0 (M := M_L_reader G) 3 dL_reader_2 rfl, jq_iload1 (M := M_L_reader G) 4 dL_reader_3 rfl, jq_iload2 (M := M_L_reader G) 5 dL_reader_4 rfl, jq_virt2 (M := M_L_reader G) I_X6_reader 6 dL_reader_5 rfl rfl rfl rfl, jq_i2l (M := M_L_reader G) 9 dL_reader_8 rfl, jq_last (M := M_L_reader G) 10 dL_reader_9 rfl 1 ha2, jq_goto (M := M_L_reader G) 21 dL_reader_10 (by decide), jq_iconst (M := M_L_reader G) 0 22 dL_reader_21 (by decide) rfl, jq_iret (M := M_L_reader G) .int dL_reader_22 rfl, eq_self, jref_10, jref_11, jref_12, jk_v, jk_n, jcat_nil, jcat_i, jcat_r, jcat_l, jcat_d, jc2_i, jc2_r, jc2_n, jc1_i, jc1_r, jrf_some, jwtq_wI, jwtq_wh, jR_wI, jI_wh, jR_wh, List.cons.injEq, Value.int.injEq, Value.ref.injEq, Value.long.injEq, Value.double.injEq, true_and, and_true, and_self, Nat.reduceAdd, Nat.reduceLeDiff, if_true, if_false, ite_true, ite_false, jc1q_i, jc1q_r, jc1q_l, jwtq_wR, jwtq_wY, jI_wI, Nat.reduceEqDiff, and_false, false_and, not_false_eq_true, not_true_eq_false, PX_X6_reader, FX_X6_reader, hR, hP, hx, hw, hv1, jcl_0, jnr_i]
    rfl
  · have hv : R1 = .inr E := hv
    subst hv
    simp only [List.mem_cons, List.not_mem_nil, or_false] at hm
    rcases hm with rfl | rfl
    · simp only [jq_aload3 (M := M_L_reader G) 1 dL_reader_0 rfl, jq_iconst (M := M_L_reader G) 0 2 dL_reader_1 (by decide) rfl, jq_aload0 (M := M_L_reader G) 3 dL_reader_2 rfl, jq_iload1 (M := M_L_reader G) 4 dL_reader_3 rfl, jq_iload2 (M := M_L_reader G) 5 dL_reader_4 rfl, jq_virt2 (M := M_L_reader G) I_X6_reader 6 dL_reader_5 rfl rfl rfl rfl, eq_self, jref_10, jref_11, jref_12, jk_v, jk_n, jcat_nil, jcat_i, jcat_r, jcat_l, jcat_d, jc2_i, jc2_r, jc2_n, jc1_i, jc1_r, jrf_some, jwtq_wI, jwtq_wh, jR_wI, jI_wh, jR_wh, List.cons.injEq, Value.int.injEq, Value.ref.injEq, Value.long.injEq, Value.double.injEq, true_and, and_true, and_self, Nat.reduceAdd, Nat.reduceLeDiff, if_true, if_false, ite_true, ite_false, jc1q_i, jc1q_r, jc1q_l, jwtq_wR, jwtq_wY, jI_wI, Nat.reduceEqDiff, and_false, false_and, not_false_eq_true, not_true_eq_false, PX_X6_reader, FX_X6_reader, hR, hP, hx, hw, hv1, jcl_0, jnr_i, jk_h (M := M_L_reader G) (pc := 5) (E := "java/lang/IndexOutOfBoundsException") 13 rfl]
      intro q
      simp only [jq_astoreW4 (M := M_L_reader G) 15 dL_reader_13 rfl, jq_iconst (M := M_L_reader G) 1 16 dL_reader_15 (by decide) rfl, jq_iret (M := M_L_reader G) .int dL_reader_16 rfl, eq_self, jref_10, jref_11, jref_12, jk_v, jk_n, jcat_nil, jcat_i, jcat_r, jcat_l, jcat_d, jc2_i, jc2_r, jc2_n, jc1_i, jc1_r, jrf_some, jwtq_wI, jwtq_wh, jR_wI, jI_wh, jR_wh, List.cons.injEq, Value.int.injEq, Value.ref.injEq, Value.long.injEq, Value.double.injEq, true_and, and_true, and_self, Nat.reduceAdd, Nat.reduceLeDiff, if_true, if_false, ite_true, ite_false, jc1q_i, jc1q_r, jc1q_l, jwtq_wR, jwtq_wY, jI_wI, Nat.reduceEqDiff, and_false, false_and, not_false_eq_true, not_true_eq_false, jnr_i]
      rfl
    · simp only [jq_aload3 (M := M_L_reader G) 1 dL_reader_0 rfl, jq_iconst (M := M_L_reader G) 0 2 dL_reader_1 (by decide) rfl, jq_aload0 (M := M_L_reader G) 3 dL_reader_2 rfl, jq_iload1 (M := M_L_reader G) 4 dL_reader_3 rfl, jq_iload2 (M := M_L_reader G) 5 dL_reader_4 rfl, jq_virt2 (M := M_L_reader G) I_X6_reader 6 dL_reader_5 rfl rfl rfl rfl, eq_self, jref_10, jref_11, jref_12, jk_v, jk_n, jcat_nil, jcat_i, jcat_r, jcat_l, jcat_d, jc2_i, jc2_r, jc2_n, jc1_i, jc1_r, jrf_some, jwtq_wI, jwtq_wh, jR_wI, jI_wh, jR_wh, List.cons.injEq, Value.int.injEq, Value.ref.injEq, Value.long.injEq, Value.double.injEq, true_and, and_true, and_self, Nat.reduceAdd, Nat.reduceLeDiff, if_true, if_false, ite_true, ite_false, jc1q_i, jc1q_r, jc1q_l, jwtq_wR, jwtq_wY, jI_wI, Nat.reduceEqDiff, and_false, false_and, not_false_eq_true, not_true_eq_false, PX_X6_reader, FX_X6_reader, hR, hP, hx, hw, hv1, jcl_0, jnr_i, jk_h (M := M_L_reader G) (pc := 5) (E := "java/lang/IllegalArgumentException") 17 rfl]
      intro q
      simp only [jq_astoreW4 (M := M_L_reader G) 19 dL_reader_17 rfl, jq_iconst (M := M_L_reader G) 2 20 dL_reader_19 (by decide) rfl, jq_iret (M := M_L_reader G) .int dL_reader_20 rfl, eq_self, jref_10, jref_11, jref_12, jk_v, jk_n, jcat_nil, jcat_i, jcat_r, jcat_l, jcat_d, jc2_i, jc2_r, jc2_n, jc1_i, jc1_r, jrf_some, jwtq_wI, jwtq_wh, jR_wI, jI_wh, jR_wh, List.cons.injEq, Value.int.injEq, Value.ref.injEq, Value.long.injEq, Value.double.injEq, true_and, and_true, and_self, Nat.reduceAdd, Nat.reduceLeDiff, if_true, if_false, ite_true, ite_false, jc1q_i, jc1q_r, jc1q_l, jwtq_wR, jwtq_wY, jI_wI, Nat.reduceEqDiff, and_false, false_and, not_false_eq_true, not_true_eq_false, jnr_i]
      rfl
theorem met_L_reader {l : Launch} (hl : l.stackTraces = false) (D : va_G) (cy : Nat → ClassId) (G : jgG) : jMet l D cy G I_L_reader (S_L_reader G) :=
  jr_metH (M_L_reader G) I_L_reader (S_L_reader G) RL rfl (by decide) rfl rfl rfl (by decide) rfl rfl jmAI jmAL (fun R h1 h2 => List.forall_mem_cons.mpr ⟨⟨⟨jm_538, jm_50, jd_X6_reader, ⟨by rw [h1]; exact Nat.le_of_ble_eq_true rfl, by rw [h2]; exact Nat.le_of_ble_eq_true rfl⟩, Or.inl ⟨rfl, jm_792, jm_536, jm_537, rfl, Nat.le_of_ble_eq_true rfl, _, rfl, rfl⟩⟩, met_X6_reader hl D cy G⟩, fun _ h => nomatch h⟩) (List.forall_mem_cons.mpr ⟨⟨by decide, jw_lIO, jw_cIO⟩, List.forall_mem_cons.mpr ⟨⟨by decide, jw_lIA, jw_cIA⟩, fun _ h => nomatch h⟩⟩) (show ∀ q ∈ ([(0, 10, 13, 20, "java/lang/IndexOutOfBoundsException"), (0, 10, 17, 13, "java/lang/IllegalArgumentException")] : List (Nat × Nat × Nat × Nat × String)), ∀ z ∈ ([(0, 10, 13, 20, "java/lang/IndexOutOfBoundsException"), (0, 10, 17, 13, "java/lang/IllegalArgumentException")] : List (Nat × Nat × Nat × Nat × String)), z.2.2.2.2 = q.2.2.2.2 ∨ (q.2.2.2.2, z.2.2.2.2) ∈ jxnc from by decide +kernel) (fun As σ r h => by obtain ⟨-, rfl⟩ := h; exact kW_v _ _ _) (bd_L_reader G)
def Pp_L_group (G : jgG) (x : Nat) (a : Int32) (b : Int32) (c : Int32) (o : Nat) (σ : jgS) : Prop := jo G (jwt σ) x 6 ∧ Pp_X6_group G x a b c σ ∧ kWp G o ["java/lang/IllegalArgumentException"] σ (Ff_X6_group G x a b c σ)
def Ff_L_group (G : jgG) (x : Nat) (a : Int32) (b : Int32) (c : Int32) (o : Nat) (σ : jgS) : jgR := kW ["java/lang/IllegalArgumentException"] o (Ff_X6_group G x a b c σ)
def P_L_group (G : jgG) (As : List Value) (σ : jgS) : Prop := ∃ x : Nat, ∃ a : Int32, ∃ b : Int32, ∃ c : Int32, ∃ o : Nat, As = [.ref x, .int a, .int b, .int c, .ref o] ∧ Pp_L_group G x a b c o σ
def F_L_group (G : jgG) (As : List Value) (σ : jgS) : jgR := Ff_L_group G (jaR As 0) (jaI As 1) (jaI As 2) (jaI As 3) (jaR As 4) σ
def S_L_group (G : jgG) : jgSpec := jsp (P_L_group G) (F_L_group G)
theorem PX_L_group {G : jgG} {x : Nat} {a : Int32} {b : Int32} {c : Int32} {o : Nat} {σ : jgS} : P_L_group G [.ref x, .int a, .int b, .int c, .ref o] σ ↔ Pp_L_group G x a b c o σ := by unfold P_L_group; simp [and_assoc]
theorem FX_L_group {G : jgG} {x : Nat} {a : Int32} {b : Int32} {c : Int32} {o : Nat} {σ : jgS} : F_L_group G [.ref x, .int a, .int b, .int c, .ref o] σ = Ff_L_group G x a b c o σ := rfl
def I_L_group : jgI := (4, 99, yL_group, cL_group, 6, (some .int), 5, 8, 135, [(0, 12, 15, 13)])
theorem jd_L_group : I_L_group.2.2.1.cls ≠ "java/lang/invoke/MethodHandle" ∧ I_L_group.2.2.1.cls ≠ "java/lang/invoke/VarHandle" ∧ (parseMethodDescriptor I_L_group.2.2.1.desc).map (fun d => d.parameters.length) = some I_L_group.2.2.2.2.2.2.1 := ⟨by decide +kernel, by decide +kernel, by decide +kernel⟩
def M_L_group (G : jgG) : jgM := (cL_group, [(63, jpC I_X6_group (S_X6_group G))], [], [(0, 12, 15, 13, "java/lang/IllegalArgumentException")], (some .int), false)
theorem bd_L_group (G : jgG) : ∀ (As : List Value) (σ : jgS) (r : jgR), S_L_group G As σ r → jhs σ ≤ jhs r.2 ∧ jsl σ ≤ jsl r.2 ∧ (jent As).length ≤ I_L_group.2.2.2.2.1 ∧ Jr G (M_L_group G) 0 (jentry As I_L_group.2.2.2.2.1) [] σ (fun r' => r' = r) := by
  rintro As σ r ⟨⟨x, a, b, c, o, rfl, hp⟩, rfl⟩
  rw [FX_L_group]
  refine ⟨(kW_le hp.2.2).1, (kW_le hp.2.2).2, by simp [jent, Value.category, I_L_group], ?_⟩
  show Jr G (M_L_group G) 0 [some (.ref x), some (.int a), some (.int b), some (.int c), some (.ref o), none] [] σ (fun r' => r' = Ff_L_group G x a b c o σ)
  obtain ⟨hx, hP, ha, hE, hs⟩ := hp
  unfold Ff_L_group
  have hw := kE6_wt hE
  generalize hR : Ff_X6_group G x a b c σ = R at *
  obtain ⟨R1, τ⟩ := R
  have ha2 : ja G (jwt τ) o 9 1 := by rw [show jwt τ = jwt σ from hw]; exact ha
  have hv1 : vp_in 0 1 := vp_in_nI (n := 0) (by decide) (by decide)
  rcases hs with ⟨v, hv⟩ | ⟨E, hm, hv⟩
  · have hv : R1 = .inl (some (.int v)) := hv
    subst hv
    simp only [jq_aloadW4 (M := M_L_group G) 2 dL_group_0 rfl, jq_iconst (M := M_L_group G) 0 3 dL_group_2 (by decide) rfl, jq_aload0 (M := M_L_group G) 4 dL_group_3 rfl, jq_iload1 (M := M_L_group G) 5 dL_group_4 rfl, jq_iload2 (M := M_L_group G) 6 dL_group_5 rfl, jq_iload3 (M := M_L_group G) 7 dL_group_6 rfl, jq_virt3 (M := M_L_group G) I_X6_group 6 dL_group_7 rfl rfl rfl rfl, jq_i2l (M := M_L_group G) 11 dL_group_10 rfl, jq_last (M := M_L_group G) 12 dL_group_11 rfl 1 ha2, jq_goto (M := M_L_group G) 19 dL_group_12 (by decide), jq_iconst (M := M_L_group G) 0 20 dL_group_19 (by decide) rfl, jq_iret (M := M_L_group G) .int dL_group_20 rfl, eq_self, jref_10, jref_11, jref_12, jk_v, jk_n, jcat_nil, jcat_i, jcat_r, jcat_l, jcat_d, jc2_i, jc2_r, jc2_n, jc1_i, jc1_r, jrf_some, jwtq_wI, jwtq_wh, jR_wI, jI_wh, jR_wh, List.cons.injEq, Value.int.injEq, Value.ref.injEq, Value.long.injEq, Value.double.injEq, true_and, and_true, and_self, Nat.reduceAdd, Nat.reduceLeDiff, if_true, if_false, ite_true, ite_false, jc1q_i, jc1q_r, jc1q_l, jwtq_wR, jwtq_wY, jI_wI, Nat.reduceEqDiff, and_false, false_and, not_false_eq_true, not_true_eq_false, PX_X6_group, FX_X6_group, hR, hP, hx, hw, hv1, jcl_0, jnr_i]
    rfl
  · have hv : R1 = .inr E := hv
    subst hv
    simp only [List.mem_cons, List.not_mem_nil, or_false] at hm
    rcases hm with rfl
    · simp only [jq_aloadW4 (M := M_L_group G) 2 dL_group_0 rfl, jq_iconst (M := M_L_group G) 0 3 dL_group_2 (by decide) rfl, jq_aload0 (M := M_L_group G) 4 dL_group_3 rfl, jq_iload1 (M := M_L_group G) 5 dL_group_4 rfl, jq_iload2 (M := M_L_group G) 6 dL_group_5 rfl, jq_iload3 (M := M_L_group G) 7 dL_group_6 rfl, jq_virt3 (M := M_L_group G) I_X6_group 6 dL_group_7 rfl rfl rfl rfl, eq_self, jref_10, jref_11, jref_12, jk_v, jk_n, jcat_nil, jcat_i, jcat_r, jcat_l, jcat_d, jc2_i, jc2_r, jc2_n, jc1_i, jc1_r, jrf_some, jwtq_wI, jwtq_wh, jR_wI, jI_wh, jR_wh, List.cons.injEq, Value.int.injEq, Value.ref.injEq, Value.long.injEq, Value.double.injEq, true_and, and_true, and_self, Nat.reduceAdd, Nat.reduceLeDiff, if_true, if_false, ite_true, ite_false, jc1q_i, jc1q_r, jc1q_l, jwtq_wR, jwtq_wY, jI_wI, Nat.reduceEqDiff, and_false, false_and, not_false_eq_true, not_true_eq_false, PX_X6_group, FX_X6_group, hR, hP, hx, hw, hv1, jcl_0, jnr_i, jk_h (M := M_L_group G) (pc := 7) (E := "java/lang/IllegalArgumentException") 15 rfl]
      intro q
      simp only [jq_astoreW5 (M := M_L_group G) 17 dL_group_15 rfl, jq_iconst (M := M_L_group G) 1 18 dL_group_17 (by decide) rfl, jq_iret (M := M_L_group G) .int dL_group_18 rfl, eq_self, jref_10, jref_11, jref_12, jk_v, jk_n, jcat_nil, jcat_i, jcat_r, jcat_l, jcat_d, jc2_i, jc2_r, jc2_n, jc1_i, jc1_r, jrf_some, jwtq_wI, jwtq_wh, jR_wI, jI_wh, jR_wh, List.cons.injEq, Value.int.injEq, Value.ref.injEq, Value.long.injEq, Value.double.injEq, true_and, and_true, and_self, Nat.reduceAdd, Nat.reduceLeDiff, if_true, if_false, ite_true, ite_false, jc1q_i, jc1q_r, jc1q_l, jwtq_wR, jwtq_wY, jI_wI, Nat.reduceEqDiff, and_false, false_and, not_false_eq_true, not_true_eq_false, jnr_i]
      rfl
theorem met_L_group {l : Launch} (hl : l.stackTraces = false) (D : va_G) (cy : Nat → ClassId) (G : jgG) : jMet l D cy G I_L_group (S_L_group G) :=
  jr_metH (M_L_group G) I_L_group (S_L_group G) RL rfl (by decide) rfl rfl rfl (by decide) rfl rfl jmAI jmAL (fun R h1 h2 => List.forall_mem_cons.mpr ⟨⟨⟨jm_559, jm_50, jd_X6_group, ⟨by rw [h1]; exact Nat.le_of_ble_eq_true rfl, by rw [h2]; exact Nat.le_of_ble_eq_true rfl⟩, Or.inl ⟨rfl, jm_796, jm_557, jm_558, rfl, Nat.le_of_ble_eq_true rfl, _, rfl, rfl⟩⟩, met_X6_group hl D cy G⟩, fun _ h => nomatch h⟩) (List.forall_mem_cons.mpr ⟨⟨by decide, jw_lIA, jw_cIA⟩, fun _ h => nomatch h⟩) (show ∀ q ∈ ([(0, 12, 15, 13, "java/lang/IllegalArgumentException")] : List (Nat × Nat × Nat × Nat × String)), ∀ z ∈ ([(0, 12, 15, 13, "java/lang/IllegalArgumentException")] : List (Nat × Nat × Nat × Nat × String)), z.2.2.2.2 = q.2.2.2.2 ∨ (q.2.2.2.2, z.2.2.2.2) ∈ jxnc from by decide +kernel) (fun As σ r h => by obtain ⟨-, rfl⟩ := h; exact kW_v _ _ _) (bd_L_group G)
def Pp_L_count (G : jgG) (x : Nat) (a : Int32) (o : Nat) (σ : jgS) : Prop := jo G (jwt σ) x 6 ∧ Pp_X6_count G x a σ ∧ kWp G o ["java/lang/IllegalArgumentException"] σ (Ff_X6_count G x a σ)
def Ff_L_count (G : jgG) (x : Nat) (a : Int32) (o : Nat) (σ : jgS) : jgR := kW ["java/lang/IllegalArgumentException"] o (Ff_X6_count G x a σ)
def P_L_count (G : jgG) (As : List Value) (σ : jgS) : Prop := ∃ x : Nat, ∃ a : Int32, ∃ o : Nat, As = [.ref x, .int a, .ref o] ∧ Pp_L_count G x a o σ
def F_L_count (G : jgG) (As : List Value) (σ : jgS) : jgR := Ff_L_count G (jaR As 0) (jaI As 1) (jaR As 2) σ
def S_L_count (G : jgG) : jgSpec := jsp (P_L_count G) (F_L_count G)
theorem PX_L_count {G : jgG} {x : Nat} {a : Int32} {o : Nat} {σ : jgS} : P_L_count G [.ref x, .int a, .ref o] σ ↔ Pp_L_count G x a o σ := by unfold P_L_count; simp [and_assoc]
theorem FX_L_count {G : jgG} {x : Nat} {a : Int32} {o : Nat} {σ : jgS} : F_L_count G [.ref x, .int a, .ref o] σ = Ff_L_count G x a o σ := rfl
def I_L_count : jgI := (4, 99, yL_count, cL_count, 4, (some .int), 3, 8, 133, [(0, 9, 12, 13)])
theorem jd_L_count : I_L_count.2.2.1.cls ≠ "java/lang/invoke/MethodHandle" ∧ I_L_count.2.2.1.cls ≠ "java/lang/invoke/VarHandle" ∧ (parseMethodDescriptor I_L_count.2.2.1.desc).map (fun d => d.parameters.length) = some I_L_count.2.2.2.2.2.2.1 := ⟨by decide +kernel, by decide +kernel, by decide +kernel⟩
def M_L_count (G : jgG) : jgM := (cL_count, [(67, jpC I_X6_count (S_X6_count G))], [], [(0, 9, 12, 13, "java/lang/IllegalArgumentException")], (some .int), false)
theorem bd_L_count (G : jgG) : ∀ (As : List Value) (σ : jgS) (r : jgR), S_L_count G As σ r → jhs σ ≤ jhs r.2 ∧ jsl σ ≤ jsl r.2 ∧ (jent As).length ≤ I_L_count.2.2.2.2.1 ∧ Jr G (M_L_count G) 0 (jentry As I_L_count.2.2.2.2.1) [] σ (fun r' => r' = r) := by
  rintro As σ r ⟨⟨x, a, o, rfl, hp⟩, rfl⟩
  rw [FX_L_count]
  refine ⟨(kW_le hp.2.2).1, (kW_le hp.2.2).2, by simp [jent, Value.category, I_L_count], ?_⟩
  show Jr G (M_L_count G) 0 [some (.ref x), some (.int a), some (.ref o), none] [] σ (fun r' => r' = Ff_L_count G x a o σ)
  obtain ⟨hx, hP, ha, hE, hs⟩ := hp
  unfold Ff_L_count
  have hw := kE6_wt hE
  generalize hR : Ff_X6_count G x a σ = R at *
  obtain ⟨R1, τ⟩ := R
  have ha2 : ja G (jwt τ) o 9 1 := by rw [show jwt τ = jwt σ from hw]; exact ha
  have hv1 : vp_in 0 1 := vp_in_nI (n := 0) (by decide) (by decide)
  rcases hs with ⟨v, hv⟩ | ⟨E, hm, hv⟩
  · have hv : R1 = .inl (some (.int v)) := hv
    subst hv
    simp only [jq_aload2 (M := M_L_count G) 1 dL_count_0 rfl, jq_iconst (M := M_L_count G) 0 2 dL_count_1 (by decide) rfl, jq_aload0 (M := M_L_count G) 3 dL_count_2 rfl, jq_iload1 (M := M_L_count G) 4 dL_count_3 rfl, jq_virt1 (M := M_L_count G) I_X6_count 6 dL_count_4 rfl rfl rfl rfl, jq_i2l (M := M_L_count G) 8 dL_count_7 rfl, jq_last (M := M_L_count G) 9 dL_count_8 rfl 1 ha2, jq_goto (M := M_L_count G) 15 dL_count_9 (by decide), jq_iconst (M := M_L_count G) 0 16 dL_count_15 (by decide) rfl, jq_iret (M := M_L_count G) .int dL_count_16 rfl, eq_self, jref_10, jref_11, jref_12, jk_v, jk_n, jcat_nil, jcat_i, jcat_r, jcat_l, jcat_d, jc2_i, jc2_r, jc2_n, jc1_i, jc1_r, jrf_some, jwtq_wI, jwtq_wh, jR_wI, jI_wh, jR_wh, List.cons.injEq, Value.int.injEq, Value.ref.injEq, Value.long.injEq, Value.double.injEq, true_and, and_true, and_self, Nat.reduceAdd, Nat.reduceLeDiff, if_true, if_false, ite_true, ite_false, jc1q_i, jc1q_r, jc1q_l, jwtq_wR, jwtq_wY, jI_wI, Nat.reduceEqDiff, and_false, false_and, not_false_eq_true, not_true_eq_false, PX_X6_count, FX_X6_count, hR, hP, hx, hw, hv1, jcl_0, jnr_i]
    rfl
  · have hv : R1 = .inr E := hv
    subst hv
    simp only [List.mem_cons, List.not_mem_nil, or_false] at hm
    rcases hm with rfl
    · simp only [jq_aload2 (M := M_L_count G) 1 dL_count_0 rfl, jq_iconst (M := M_L_count G) 0 2 dL_count_1 (by decide) rfl, jq_aload0 (M := M_L_count G) 3 dL_count_2 rfl, jq_iload1 (M := M_L_count G) 4 dL_count_3 rfl, jq_virt1 (M := M_L_count G) I_X6_count 6 dL_count_4 rfl rfl rfl rfl, eq_self, jref_10, jref_11, jref_12, jk_v, jk_n, jcat_nil, jcat_i, jcat_r, jcat_l, jcat_d, jc2_i, jc2_r, jc2_n, jc1_i, jc1_r, jrf_some, jwtq_wI, jwtq_wh, jR_wI, jI_wh, jR_wh, List.cons.injEq, Value.int.injEq, Value.ref.injEq, Value.long.injEq, Value.double.injEq, true_and, and_true, and_self, Nat.reduceAdd, Nat.reduceLeDiff, if_true, if_false, ite_true, ite_false, jc1q_i, jc1q_r, jc1q_l, jwtq_wR, jwtq_wY, jI_wI, Nat.reduceEqDiff, and_false, false_and, not_false_eq_true, not_true_eq_false, PX_X6_count, FX_X6_count, hR, hP, hx, hw, hv1, jcl_0, jnr_i, jk_h (M := M_L_count G) (pc := 4) (E := "java/lang/IllegalArgumentException") 12 rfl]
      intro q
      simp only [jq_astore3 (M := M_L_count G) 13 dL_count_12 rfl, jq_iconst (M := M_L_count G) 1 14 dL_count_13 (by decide) rfl, jq_iret (M := M_L_count G) .int dL_count_14 rfl, eq_self, jref_10, jref_11, jref_12, jk_v, jk_n, jcat_nil, jcat_i, jcat_r, jcat_l, jcat_d, jc2_i, jc2_r, jc2_n, jc1_i, jc1_r, jrf_some, jwtq_wI, jwtq_wh, jR_wI, jI_wh, jR_wh, List.cons.injEq, Value.int.injEq, Value.ref.injEq, Value.long.injEq, Value.double.injEq, true_and, and_true, and_self, Nat.reduceAdd, Nat.reduceLeDiff, if_true, if_false, ite_true, ite_false, jc1q_i, jc1q_r, jc1q_l, jwtq_wR, jwtq_wY, jI_wI, Nat.reduceEqDiff, and_false, false_and, not_false_eq_true, not_true_eq_false, jnr_i]
      rfl
theorem met_L_count {l : Launch} (hl : l.stackTraces = false) (D : va_G) (cy : Nat → ClassId) (G : jgG) : jMet l D cy G I_L_count (S_L_count G) :=
  jr_metH (M_L_count G) I_L_count (S_L_count G) RL rfl (by decide) rfl rfl rfl (by decide) rfl rfl jmAI jmAL (fun R h1 h2 => List.forall_mem_cons.mpr ⟨⟨⟨jm_397, jm_50, jd_X6_count, ⟨by rw [h1]; exact Nat.le_of_ble_eq_true rfl, by rw [h2]; exact Nat.le_of_ble_eq_true rfl⟩, Or.inl ⟨rfl, jm_800, jm_395, jm_396, rfl, Nat.le_of_ble_eq_true rfl, _, rfl, rfl⟩⟩, met_X6_count hl D cy G⟩, fun _ h => nomatch h⟩) (List.forall_mem_cons.mpr ⟨⟨by decide, jw_lIA, jw_cIA⟩, fun _ h => nomatch h⟩) (show ∀ q ∈ ([(0, 9, 12, 13, "java/lang/IllegalArgumentException")] : List (Nat × Nat × Nat × Nat × String)), ∀ z ∈ ([(0, 9, 12, 13, "java/lang/IllegalArgumentException")] : List (Nat × Nat × Nat × Nat × String)), z.2.2.2.2 = q.2.2.2.2 ∨ (q.2.2.2.2, z.2.2.2.2) ∈ jxnc from by decide +kernel) (fun As σ r h => by obtain ⟨-, rfl⟩ := h; exact kW_v _ _ _) (bd_L_count G)
def Pp_L_setting (G : jgG) (x : Nat) (a : Int32) (o : Nat) (σ : jgS) : Prop := jo G (jwt σ) x 6 ∧ Pp_X6_setting G x a σ ∧ kWp G o ["java/lang/IndexOutOfBoundsException"] σ (Ff_X6_setting G x a σ)
def Ff_L_setting (G : jgG) (x : Nat) (a : Int32) (o : Nat) (σ : jgS) : jgR := kW ["java/lang/IndexOutOfBoundsException"] o (Ff_X6_setting G x a σ)
def P_L_setting (G : jgG) (As : List Value) (σ : jgS) : Prop := ∃ x : Nat, ∃ a : Int32, ∃ o : Nat, As = [.ref x, .int a, .ref o] ∧ Pp_L_setting G x a o σ
def F_L_setting (G : jgG) (As : List Value) (σ : jgS) : jgR := Ff_L_setting G (jaR As 0) (jaI As 1) (jaR As 2) σ
def S_L_setting (G : jgG) : jgSpec := jsp (P_L_setting G) (F_L_setting G)
theorem PX_L_setting {G : jgG} {x : Nat} {a : Int32} {o : Nat} {σ : jgS} : P_L_setting G [.ref x, .int a, .ref o] σ ↔ Pp_L_setting G x a o σ := by unfold P_L_setting; simp [and_assoc]
theorem FX_L_setting {G : jgG} {x : Nat} {a : Int32} {o : Nat} {σ : jgS} : F_L_setting G [.ref x, .int a, .ref o] σ = Ff_L_setting G x a o σ := rfl
def I_L_setting : jgI := (4, 99, yL_setting, cL_setting, 4, (some .int), 3, 8, 131, [(0, 9, 12, 20)])
theorem jd_L_setting : I_L_setting.2.2.1.cls ≠ "java/lang/invoke/MethodHandle" ∧ I_L_setting.2.2.1.cls ≠ "java/lang/invoke/VarHandle" ∧ (parseMethodDescriptor I_L_setting.2.2.1.desc).map (fun d => d.parameters.length) = some I_L_setting.2.2.2.2.2.2.1 := ⟨by decide +kernel, by decide +kernel, by decide +kernel⟩
def M_L_setting (G : jgG) : jgM := (cL_setting, [(70, jpC I_X6_setting (S_X6_setting G))], [], [(0, 9, 12, 20, "java/lang/IndexOutOfBoundsException")], (some .int), false)
theorem bd_L_setting (G : jgG) : ∀ (As : List Value) (σ : jgS) (r : jgR), S_L_setting G As σ r → jhs σ ≤ jhs r.2 ∧ jsl σ ≤ jsl r.2 ∧ (jent As).length ≤ I_L_setting.2.2.2.2.1 ∧ Jr G (M_L_setting G) 0 (jentry As I_L_setting.2.2.2.2.1) [] σ (fun r' => r' = r) := by
  rintro As σ r ⟨⟨x, a, o, rfl, hp⟩, rfl⟩
  rw [FX_L_setting]
  refine ⟨(kW_le hp.2.2).1, (kW_le hp.2.2).2, by simp [jent, Value.category, I_L_setting], ?_⟩
  show Jr G (M_L_setting G) 0 [some (.ref x), some (.int a), some (.ref o), none] [] σ (fun r' => r' = Ff_L_setting G x a o σ)
  obtain ⟨hx, hP, ha, hE, hs⟩ := hp
  unfold Ff_L_setting
  have hw := kE6_wt hE
  generalize hR : Ff_X6_setting G x a σ = R at *
  obtain ⟨R1, τ⟩ := R
  have ha2 : ja G (jwt τ) o 9 1 := by rw [show jwt τ = jwt σ from hw]; exact ha
  have hv1 : vp_in 0 1 := vp_in_nI (n := 0) (by decide) (by decide)
  rcases hs with ⟨v, hv⟩ | ⟨E, hm, hv⟩
  · have hv : R1 = .inl (some (.int v)) := hv
    subst hv
    simp only [jq_aload2 (M := M_L_setting G) 1 dL_setting_0 rfl, jq_iconst (M := M_L_setting G) 0 2 dL_setting_1 (by decide) rfl, jq_aload0 (M := M_L_setting G) 3 dL_setting_2 rfl, jq_iload1 (M := M_L_setting G) 4 dL_setting_3 rfl, jq_virt1 (M := M_L_setting G) I_X6_setting 6 dL_setting_4 rfl rfl rfl rfl, jq_i2l (M := M_L_setting G) 8 dL_setting_7 rfl, jq_last (M := M_L_setting G) 9 dL_setting_8 rfl 1 ha2, jq_goto (M := M_L_setting G) 15 dL_setting_9 (by decide), jq_iconst (M := M_L_setting G) 0 16 dL_setting_15 (by decide) rfl, jq_iret (M := M_L_setting G) .int dL_setting_16 rfl, eq_self, jref_10, jref_11, jref_12, jk_v, jk_n, jcat_nil, jcat_i, jcat_r, jcat_l, jcat_d, jc2_i, jc2_r, jc2_n, jc1_i, jc1_r, jrf_some, jwtq_wI, jwtq_wh, jR_wI, jI_wh, jR_wh, List.cons.injEq, Value.int.injEq, Value.ref.injEq, Value.long.injEq, Value.double.injEq, true_and, and_true, and_self, Nat.reduceAdd, Nat.reduceLeDiff, if_true, if_false, ite_true, ite_false, jc1q_i, jc1q_r, jc1q_l, jwtq_wR, jwtq_wY, jI_wI, Nat.reduceEqDiff, and_false, false_and, not_false_eq_true, not_true_eq_false, PX_X6_setting, FX_X6_setting, hR, hP, hx, hw, hv1, jcl_0, jnr_i]
    rfl
  · have hv : R1 = .inr E := hv
    subst hv
    simp only [List.mem_cons, List.not_mem_nil, or_false] at hm
    rcases hm with rfl
    · simp only [jq_aload2 (M := M_L_setting G) 1 dL_setting_0 rfl, jq_iconst (M := M_L_setting G) 0 2 dL_setting_1 (by decide) rfl, jq_aload0 (M := M_L_setting G) 3 dL_setting_2 rfl, jq_iload1 (M := M_L_setting G) 4 dL_setting_3 rfl, jq_virt1 (M := M_L_setting G) I_X6_setting 6 dL_setting_4 rfl rfl rfl rfl, eq_self, jref_10, jref_11, jref_12, jk_v, jk_n, jcat_nil, jcat_i, jcat_r, jcat_l, jcat_d, jc2_i, jc2_r, jc2_n, jc1_i, jc1_r, jrf_some, jwtq_wI, jwtq_wh, jR_wI, jI_wh, jR_wh, List.cons.injEq, Value.int.injEq, Value.ref.injEq, Value.long.injEq, Value.double.injEq, true_and, and_true, and_self, Nat.reduceAdd, Nat.reduceLeDiff, if_true, if_false, ite_true, ite_false, jc1q_i, jc1q_r, jc1q_l, jwtq_wR, jwtq_wY, jI_wI, Nat.reduceEqDiff, and_false, false_and, not_false_eq_true, not_true_eq_false, PX_X6_setting, FX_X6_setting, hR, hP, hx, hw, hv1, jcl_0, jnr_i, jk_h (M := M_L_setting G) (pc := 4) (E := "java/lang/IndexOutOfBoundsException") 12 rfl]
      intro q
      simp only [jq_astore3 (M := M_L_setting G) 13 dL_setting_12 rfl, jq_iconst (M := M_L_setting G) 1 14 dL_setting_13 (by decide) rfl, jq_iret (M := M_L_setting G) .int dL_setting_14 rfl, eq_self, jref_10, jref_11, jref_12, jk_v, jk_n, jcat_nil, jcat_i, jcat_r, jcat_l, jcat_d, jc2_i, jc2_r, jc2_n, jc1_i, jc1_r, jrf_some, jwtq_wI, jwtq_wh, jR_wI, jI_wh, jR_wh, List.cons.injEq, Value.int.injEq, Value.ref.injEq, Value.long.injEq, Value.double.injEq, true_and, and_true, and_self, Nat.reduceAdd, Nat.reduceLeDiff, if_true, if_false, ite_true, ite_false, jc1q_i, jc1q_r, jc1q_l, jwtq_wR, jwtq_wY, jI_wI, Nat.reduceEqDiff, and_false, false_and, not_false_eq_true, not_true_eq_false, jnr_i]
      rfl
theorem met_L_setting {l : Launch} (hl : l.stackTraces = false) (D : va_G) (cy : Nat → ClassId) (G : jgG) : jMet l D cy G I_L_setting (S_L_setting G) :=
  jr_metH (M_L_setting G) I_L_setting (S_L_setting G) RL rfl (by decide) rfl rfl rfl (by decide) rfl rfl jmAI jmAL (fun R h1 h2 => List.forall_mem_cons.mpr ⟨⟨⟨jm_807, jm_50, jd_X6_setting, ⟨by rw [h1]; exact Nat.le_of_ble_eq_true rfl, by rw [h2]; exact Nat.le_of_ble_eq_true rfl⟩, Or.inl ⟨rfl, jm_804, jm_805, jm_806, rfl, Nat.le_of_ble_eq_true rfl, _, rfl, rfl⟩⟩, met_X6_setting hl D cy G⟩, fun _ h => nomatch h⟩) (List.forall_mem_cons.mpr ⟨⟨by decide, jw_lIO, jw_cIO⟩, fun _ h => nomatch h⟩) (show ∀ q ∈ ([(0, 9, 12, 20, "java/lang/IndexOutOfBoundsException")] : List (Nat × Nat × Nat × Nat × String)), ∀ z ∈ ([(0, 9, 12, 20, "java/lang/IndexOutOfBoundsException")] : List (Nat × Nat × Nat × Nat × String)), z.2.2.2.2 = q.2.2.2.2 ∨ (q.2.2.2.2, z.2.2.2.2) ∈ jxnc from by decide +kernel) (fun As σ r h => by obtain ⟨-, rfl⟩ := h; exact kW_v _ _ _) (bd_L_setting G)
def Pp_L_ifTaken (G : jgG) (x : Nat) (a : Int32) (b : Int32) (c : Int32) (o : Nat) (σ : jgS) : Prop := jo G (jwt σ) x 6 ∧ Pp_X6_ifTaken G x a b c σ ∧ kWp G o ["java/lang/IndexOutOfBoundsException", "java/lang/IllegalArgumentException"] σ (Ff_X6_ifTaken G x a b c σ)
def Ff_L_ifTaken (G : jgG) (x : Nat) (a : Int32) (b : Int32) (c : Int32) (o : Nat) (σ : jgS) : jgR := kW ["java/lang/IndexOutOfBoundsException", "java/lang/IllegalArgumentException"] o (Ff_X6_ifTaken G x a b c σ)
def P_L_ifTaken (G : jgG) (As : List Value) (σ : jgS) : Prop := ∃ x : Nat, ∃ a : Int32, ∃ b : Int32, ∃ c : Int32, ∃ o : Nat, As = [.ref x, .int a, .int b, .int c, .ref o] ∧ Pp_L_ifTaken G x a b c o σ
def F_L_ifTaken (G : jgG) (As : List Value) (σ : jgS) : jgR := Ff_L_ifTaken G (jaR As 0) (jaI As 1) (jaI As 2) (jaI As 3) (jaR As 4) σ
def S_L_ifTaken (G : jgG) : jgSpec := jsp (P_L_ifTaken G) (F_L_ifTaken G)
theorem PX_L_ifTaken {G : jgG} {x : Nat} {a : Int32} {b : Int32} {c : Int32} {o : Nat} {σ : jgS} : P_L_ifTaken G [.ref x, .int a, .int b, .int c, .ref o] σ ↔ Pp_L_ifTaken G x a b c o σ := by unfold P_L_ifTaken; simp [and_assoc]
theorem FX_L_ifTaken {G : jgG} {x : Nat} {a : Int32} {b : Int32} {c : Int32} {o : Nat} {σ : jgS} : F_L_ifTaken G [.ref x, .int a, .int b, .int c, .ref o] σ = Ff_L_ifTaken G x a b c o σ := rfl
def I_L_ifTaken : jgI := (4, 99, yL_ifTaken, cL_ifTaken, 6, (some .int), 5, 8, 135, [(0, 12, 15, 20), (0, 12, 19, 13)])
theorem jd_L_ifTaken : I_L_ifTaken.2.2.1.cls ≠ "java/lang/invoke/MethodHandle" ∧ I_L_ifTaken.2.2.1.cls ≠ "java/lang/invoke/VarHandle" ∧ (parseMethodDescriptor I_L_ifTaken.2.2.1.desc).map (fun d => d.parameters.length) = some I_L_ifTaken.2.2.2.2.2.2.1 := ⟨by decide +kernel, by decide +kernel, by decide +kernel⟩
def M_L_ifTaken (G : jgG) : jgM := (cL_ifTaken, [(73, jpC I_X6_ifTaken (S_X6_ifTaken G))], [], [(0, 12, 15, 20, "java/lang/IndexOutOfBoundsException"), (0, 12, 19, 13, "java/lang/IllegalArgumentException")], (some .int), false)
theorem bd_L_ifTaken (G : jgG) : ∀ (As : List Value) (σ : jgS) (r : jgR), S_L_ifTaken G As σ r → jhs σ ≤ jhs r.2 ∧ jsl σ ≤ jsl r.2 ∧ (jent As).length ≤ I_L_ifTaken.2.2.2.2.1 ∧ Jr G (M_L_ifTaken G) 0 (jentry As I_L_ifTaken.2.2.2.2.1) [] σ (fun r' => r' = r) := by
  rintro As σ r ⟨⟨x, a, b, c, o, rfl, hp⟩, rfl⟩
  rw [FX_L_ifTaken]
  refine ⟨(kW_le hp.2.2).1, (kW_le hp.2.2).2, by simp [jent, Value.category, I_L_ifTaken], ?_⟩
  show Jr G (M_L_ifTaken G) 0 [some (.ref x), some (.int a), some (.int b), some (.int c), some (.ref o), none] [] σ (fun r' => r' = Ff_L_ifTaken G x a b c o σ)
  obtain ⟨hx, hP, ha, hE, hs⟩ := hp
  unfold Ff_L_ifTaken
  have hw := kE6_wt hE
  generalize hR : Ff_X6_ifTaken G x a b c σ = R at *
  obtain ⟨R1, τ⟩ := R
  have ha2 : ja G (jwt τ) o 9 1 := by rw [show jwt τ = jwt σ from hw]; exact ha
  have hv1 : vp_in 0 1 := vp_in_nI (n := 0) (by decide) (by decide)
  rcases hs with ⟨v, hv⟩ | ⟨E, hm, hv⟩
  · have hv : R1 = .inl (some (.int v)) := hv
    subst hv
    simp only [jq_aloadW4 (M := M_L_ifTaken G) 2 dL_ifTaken_0 rfl, jq_iconst (M := M_L_ifTaken G) 0 3 dL_ifTaken_2 (by decide) rfl, jq_aload0 (M := M_L_ifTaken G) 4 dL_ifTaken_3 rfl, jq_iload1 (M := M_L_ifTaken G) 5 dL_ifTaken_4 rfl, jq_iload2 (M := M_L_ifTaken G) 6 dL_ifTaken_5 rfl, jq_iload3 (M := M_L_ifTaken G) 7 dL_ifTaken_6 rfl, jq_virt3 (M := M_L_ifTaken G) I_X6_ifTaken 6 dL_ifTaken_7 rfl rfl rfl rfl, jq_i2l (M := M_L_ifTaken G) 11 dL_ifTaken_10 rfl, jq_last (M := M_L_ifTaken G) 12 dL_ifTaken_11 rfl 1 ha2, jq_goto (M := M_L_ifTaken G) 23 dL_ifTaken_12 (by decide), jq_iconst (M := M_L_ifTaken G) 0 24 dL_ifTaken_23 (by decide) rfl, jq_iret (M := M_L_ifTaken G) .int dL_ifTaken_24 rfl, eq_self, jref_10, jref_11, jref_12, jk_v, jk_n, jcat_nil, jcat_i, jcat_r, jcat_l, jcat_d, jc2_i, jc2_r, jc2_n, jc1_i, jc1_r, jrf_some, jwtq_wI, jwtq_wh, jR_wI, jI_wh, jR_wh, List.cons.injEq, Value.int.injEq, Value.ref.injEq, Value.long.injEq, Value.double.injEq, true_and, and_true, and_self, Nat.reduceAdd, Nat.reduceLeDiff, if_true, if_false, ite_true, ite_false, jc1q_i, jc1q_r, jc1q_l, jwtq_wR, jwtq_wY, jI_wI, Nat.reduceEqDiff, and_false, false_and, not_false_eq_true, not_true_eq_false, PX_X6_ifTaken, FX_X6_ifTaken, hR, hP, hx, hw, hv1, jcl_0, jnr_i]
    rfl
  · have hv : R1 = .inr E := hv
    subst hv
    simp only [List.mem_cons, List.not_mem_nil, or_false] at hm
    rcases hm with rfl | rfl
    · simp only [jq_aloadW4 (M := M_L_ifTaken G) 2 dL_ifTaken_0 rfl, jq_iconst (M := M_L_ifTaken G) 0 3 dL_ifTaken_2 (by decide) rfl, jq_aload0 (M := M_L_ifTaken G) 4 dL_ifTaken_3 rfl, jq_iload1 (M := M_L_ifTaken G) 5 dL_ifTaken_4 rfl, jq_iload2 (M := M_L_ifTaken G) 6 dL_ifTaken_5 rfl, jq_iload3 (M := M_L_ifTaken G) 7 dL_ifTaken_6 rfl, jq_virt3 (M := M_L_ifTaken G) I_X6_ifTaken 6 dL_ifTaken_7 rfl rfl rfl rfl, eq_self, jref_10, jref_11, jref_12, jk_v, jk_n, jcat_nil, jcat_i, jcat_r, jcat_l, jcat_d, jc2_i, jc2_r, jc2_n, jc1_i, jc1_r, jrf_some, jwtq_wI, jwtq_wh, jR_wI, jI_wh, jR_wh, List.cons.injEq, Value.int.injEq, Value.ref.injEq, Value.long.injEq, Value.double.injEq, true_and, and_true, and_self, Nat.reduceAdd, Nat.reduceLeDiff, if_true, if_false, ite_true, ite_false, jc1q_i, jc1q_r, jc1q_l, jwtq_wR, jwtq_wY, jI_wI, Nat.reduceEqDiff, and_false, false_and, not_false_eq_true, not_true_eq_false, PX_X6_ifTaken, FX_X6_ifTaken, hR, hP, hx, hw, hv1, jcl_0, jnr_i, jk_h (M := M_L_ifTaken G) (pc := 7) (E := "java/lang/IndexOutOfBoundsException") 15 rfl]
      intro q
      simp only [jq_astoreW5 (M := M_L_ifTaken G) 17 dL_ifTaken_15 rfl, jq_iconst (M := M_L_ifTaken G) 1 18 dL_ifTaken_17 (by decide) rfl, jq_iret (M := M_L_ifTaken G) .int dL_ifTaken_18 rfl, eq_self, jref_10, jref_11, jref_12, jk_v, jk_n, jcat_nil, jcat_i, jcat_r, jcat_l, jcat_d, jc2_i, jc2_r, jc2_n, jc1_i, jc1_r, jrf_some, jwtq_wI, jwtq_wh, jR_wI, jI_wh, jR_wh, List.cons.injEq, Value.int.injEq, Value.ref.injEq, Value.long.injEq, Value.double.injEq, true_and, and_true, and_self, Nat.reduceAdd, Nat.reduceLeDiff, if_true, if_false, ite_true, ite_false, jc1q_i, jc1q_r, jc1q_l, jwtq_wR, jwtq_wY, jI_wI, Nat.reduceEqDiff, and_false, false_and, not_false_eq_true, not_true_eq_false, jnr_i]
      rfl
    · simp only [jq_aloadW4 (M := M_L_ifTaken G) 2 dL_ifTaken_0 rfl, jq_iconst (M := M_L_ifTaken G) 0 3 dL_ifTaken_2 (by decide) rfl, jq_aload0 (M := M_L_ifTaken G) 4 dL_ifTaken_3 rfl, jq_iload1 (M := M_L_ifTaken G) 5 dL_ifTaken_4 rfl, jq_iload2 (M := M_L_ifTaken G) 6 dL_ifTaken_5 rfl, jq_iload3 (M := M_L_ifTaken G) 7 dL_ifTaken_6 rfl, jq_virt3 (M := M_L_ifTaken G) I_X6_ifTaken 6 dL_ifTaken_7 rfl rfl rfl rfl, eq_self, jref_10, jref_11, jref_12, jk_v, jk_n, jcat_nil, jcat_i, jcat_r, jcat_l, jcat_d, jc2_i, jc2_r, jc2_n, jc1_i, jc1_r, jrf_some, jwtq_wI, jwtq_wh, jR_wI, jI_wh, jR_wh, List.cons.injEq, Value.int.injEq, Value.ref.injEq, Value.long.injEq, Value.double.injEq, true_and, and_true, and_self, Nat.reduceAdd, Nat.reduceLeDiff, if_true, if_false, ite_true, ite_false, jc1q_i, jc1q_r, jc1q_l, jwtq_wR, jwtq_wY, jI_wI, Nat.reduceEqDiff, and_false, false_and, not_false_eq_true, not_true_eq_false, PX_X6_ifTaken, FX_X6_ifTaken, hR, hP, hx, hw, hv1, jcl_0, jnr_i, jk_h (M := M_L_ifTaken G) (pc := 7) (E := "java/lang/IllegalArgumentException") 19 rfl]
      intro q
      simp only [jq_astoreW5 (M := M_L_ifTaken G) 21 dL_ifTaken_19 rfl, jq_iconst (M := M_L_ifTaken G) 2 22 dL_ifTaken_21 (by decide) rfl, jq_iret (M := M_L_ifTaken G) .int dL_ifTaken_22 rfl, eq_self, jref_10, jref_11, jref_12, jk_v, jk_n, jcat_nil, jcat_i, jcat_r, jcat_l, jcat_d, jc2_i, jc2_r, jc2_n, jc1_i, jc1_r, jrf_some, jwtq_wI, jwtq_wh, jR_wI, jI_wh, jR_wh, List.cons.injEq, Value.int.injEq, Value.ref.injEq, Value.long.injEq, Value.double.injEq, true_and, and_true, and_self, Nat.reduceAdd, Nat.reduceLeDiff, if_true, if_false, ite_true, ite_false, jc1q_i, jc1q_r, jc1q_l, jwtq_wR, jwtq_wY, jI_wI, Nat.reduceEqDiff, and_false, false_and, not_false_eq_true, not_true_eq_false, jnr_i]
      rfl
theorem met_L_ifTaken {l : Launch} (hl : l.stackTraces = false) (D : va_G) (cy : Nat → ClassId) (G : jgG) : jMet l D cy G I_L_ifTaken (S_L_ifTaken G) :=
  jr_metH (M_L_ifTaken G) I_L_ifTaken (S_L_ifTaken G) RL rfl (by decide) rfl rfl rfl (by decide) rfl rfl jmAI jmAL (fun R h1 h2 => List.forall_mem_cons.mpr ⟨⟨⟨jm_551, jm_50, jd_X6_ifTaken, ⟨by rw [h1]; exact Nat.le_of_ble_eq_true rfl, by rw [h2]; exact Nat.le_of_ble_eq_true rfl⟩, Or.inl ⟨rfl, jm_811, jm_549, jm_550, rfl, Nat.le_of_ble_eq_true rfl, _, rfl, rfl⟩⟩, met_X6_ifTaken hl D cy G⟩, fun _ h => nomatch h⟩) (List.forall_mem_cons.mpr ⟨⟨by decide, jw_lIO, jw_cIO⟩, List.forall_mem_cons.mpr ⟨⟨by decide, jw_lIA, jw_cIA⟩, fun _ h => nomatch h⟩⟩) (show ∀ q ∈ ([(0, 12, 15, 20, "java/lang/IndexOutOfBoundsException"), (0, 12, 19, 13, "java/lang/IllegalArgumentException")] : List (Nat × Nat × Nat × Nat × String)), ∀ z ∈ ([(0, 12, 15, 20, "java/lang/IndexOutOfBoundsException"), (0, 12, 19, 13, "java/lang/IllegalArgumentException")] : List (Nat × Nat × Nat × Nat × String)), z.2.2.2.2 = q.2.2.2.2 ∨ (q.2.2.2.2, z.2.2.2.2) ∈ jxnc from by decide +kernel) (fun As σ r h => by obtain ⟨-, rfl⟩ := h; exact kW_v _ _ _) (bd_L_ifTaken G)
def Pp_L_ifPassed (G : jgG) (x : Nat) (a : Int32) (b : Int32) (o : Nat) (σ : jgS) : Prop := jo G (jwt σ) x 6 ∧ Pp_X6_ifPassed G x a b σ ∧ kWp G o ["java/lang/IllegalArgumentException"] σ (Ff_X6_ifPassed G x a b σ)
def Ff_L_ifPassed (G : jgG) (x : Nat) (a : Int32) (b : Int32) (o : Nat) (σ : jgS) : jgR := kW ["java/lang/IllegalArgumentException"] o (Ff_X6_ifPassed G x a b σ)
def P_L_ifPassed (G : jgG) (As : List Value) (σ : jgS) : Prop := ∃ x : Nat, ∃ a : Int32, ∃ b : Int32, ∃ o : Nat, As = [.ref x, .int a, .int b, .ref o] ∧ Pp_L_ifPassed G x a b o σ
def F_L_ifPassed (G : jgG) (As : List Value) (σ : jgS) : jgR := Ff_L_ifPassed G (jaR As 0) (jaI As 1) (jaI As 2) (jaR As 3) σ
def S_L_ifPassed (G : jgG) : jgSpec := jsp (P_L_ifPassed G) (F_L_ifPassed G)
theorem PX_L_ifPassed {G : jgG} {x : Nat} {a : Int32} {b : Int32} {o : Nat} {σ : jgS} : P_L_ifPassed G [.ref x, .int a, .int b, .ref o] σ ↔ Pp_L_ifPassed G x a b o σ := by unfold P_L_ifPassed; simp [and_assoc]
theorem FX_L_ifPassed {G : jgG} {x : Nat} {a : Int32} {b : Int32} {o : Nat} {σ : jgS} : F_L_ifPassed G [.ref x, .int a, .int b, .ref o] σ = Ff_L_ifPassed G x a b o σ := rfl
def I_L_ifPassed : jgI := (4, 99, yL_ifPassed, cL_ifPassed, 5, (some .int), 4, 8, 135, [(0, 10, 13, 13)])
theorem jd_L_ifPassed : I_L_ifPassed.2.2.1.cls ≠ "java/lang/invoke/MethodHandle" ∧ I_L_ifPassed.2.2.1.cls ≠ "java/lang/invoke/VarHandle" ∧ (parseMethodDescriptor I_L_ifPassed.2.2.1.desc).map (fun d => d.parameters.length) = some I_L_ifPassed.2.2.2.2.2.2.1 := ⟨by decide +kernel, by decide +kernel, by decide +kernel⟩
def M_L_ifPassed (G : jgG) : jgM := (cL_ifPassed, [(76, jpC I_X6_ifPassed (S_X6_ifPassed G))], [], [(0, 10, 13, 13, "java/lang/IllegalArgumentException")], (some .int), false)
theorem bd_L_ifPassed (G : jgG) : ∀ (As : List Value) (σ : jgS) (r : jgR), S_L_ifPassed G As σ r → jhs σ ≤ jhs r.2 ∧ jsl σ ≤ jsl r.2 ∧ (jent As).length ≤ I_L_ifPassed.2.2.2.2.1 ∧ Jr G (M_L_ifPassed G) 0 (jentry As I_L_ifPassed.2.2.2.2.1) [] σ (fun r' => r' = r) := by
  rintro As σ r ⟨⟨x, a, b, o, rfl, hp⟩, rfl⟩
  rw [FX_L_ifPassed]
  refine ⟨(kW_le hp.2.2).1, (kW_le hp.2.2).2, by simp [jent, Value.category, I_L_ifPassed], ?_⟩
  show Jr G (M_L_ifPassed G) 0 [some (.ref x), some (.int a), some (.int b), some (.ref o), none] [] σ (fun r' => r' = Ff_L_ifPassed G x a b o σ)
  obtain ⟨hx, hP, ha, hE, hs⟩ := hp
  unfold Ff_L_ifPassed
  have hw := kE6_wt hE
  generalize hR : Ff_X6_ifPassed G x a b σ = R at *
  obtain ⟨R1, τ⟩ := R
  have ha2 : ja G (jwt τ) o 9 1 := by rw [show jwt τ = jwt σ from hw]; exact ha
  have hv1 : vp_in 0 1 := vp_in_nI (n := 0) (by decide) (by decide)
  rcases hs with ⟨v, hv⟩ | ⟨E, hm, hv⟩
  · have hv : R1 = .inl (some (.int v)) := hv
    subst hv
    simp only [jq_aload3 (M := M_L_ifPassed G) 1 dL_ifPassed_0 rfl, jq_iconst (M := M_L_ifPassed G) 0 2 dL_ifPassed_1 (by decide) rfl, jq_aload0 (M := M_L_ifPassed G) 3 dL_ifPassed_2 rfl, jq_iload1 (M := M_L_ifPassed G) 4 dL_ifPassed_3 rfl, jq_iload2 (M := M_L_ifPassed G) 5 dL_ifPassed_4 rfl, jq_virt2 (M := M_L_ifPassed G) I_X6_ifPassed 6 dL_ifPassed_5 rfl rfl rfl rfl, jq_i2l (M := M_L_ifPassed G) 9 dL_ifPassed_8 rfl, jq_last (M := M_L_ifPassed G) 10 dL_ifPassed_9 rfl 1 ha2, jq_goto (M := M_L_ifPassed G) 17 dL_ifPassed_10 (by decide), jq_iconst (M := M_L_ifPassed G) 0 18 dL_ifPassed_17 (by decide) rfl, jq_iret (M := M_L_ifPassed G) .int dL_ifPassed_18 rfl, eq_self, jref_10, jref_11, jref_12, jk_v, jk_n, jcat_nil, jcat_i, jcat_r, jcat_l, jcat_d, jc2_i, jc2_r, jc2_n, jc1_i, jc1_r, jrf_some, jwtq_wI, jwtq_wh, jR_wI, jI_wh, jR_wh, List.cons.injEq, Value.int.injEq, Value.ref.injEq, Value.long.injEq, Value.double.injEq, true_and, and_true, and_self, Nat.reduceAdd, Nat.reduceLeDiff, if_true, if_false, ite_true, ite_false, jc1q_i, jc1q_r, jc1q_l, jwtq_wR, jwtq_wY, jI_wI, Nat.reduceEqDiff, and_false, false_and, not_false_eq_true, not_true_eq_false, PX_X6_ifPassed, FX_X6_ifPassed, hR, hP, hx, hw, hv1, jcl_0, jnr_i]
    rfl
  · have hv : R1 = .inr E := hv
    subst hv
    simp only [List.mem_cons, List.not_mem_nil, or_false] at hm
    rcases hm with rfl
    · simp only [jq_aload3 (M := M_L_ifPassed G) 1 dL_ifPassed_0 rfl, jq_iconst (M := M_L_ifPassed G) 0 2 dL_ifPassed_1 (by decide) rfl, jq_aload0 (M := M_L_ifPassed G) 3 dL_ifPassed_2 rfl, jq_iload1 (M := M_L_ifPassed G) 4 dL_ifPassed_3 rfl, jq_iload2 (M := M_L_ifPassed G) 5 dL_ifPassed_4 rfl, jq_virt2 (M := M_L_ifPassed G) I_X6_ifPassed 6 dL_ifPassed_5 rfl rfl rfl rfl, eq_self, jref_10, jref_11, jref_12, jk_v, jk_n, jcat_nil, jcat_i, jcat_r, jcat_l, jcat_d, jc2_i, jc2_r, jc2_n, jc1_i, jc1_r, jrf_some, jwtq_wI, jwtq_wh, jR_wI, jI_wh, jR_wh, List.cons.injEq, Value.int.injEq, Value.ref.injEq, Value.long.injEq, Value.double.injEq, true_and, and_true, and_self, Nat.reduceAdd, Nat.reduceLeDiff, if_true, if_false, ite_true, ite_false, jc1q_i, jc1q_r, jc1q_l, jwtq_wR, jwtq_wY, jI_wI, Nat.reduceEqDiff, and_false, false_and, not_false_eq_true, not_true_eq_false, PX_X6_ifPassed, FX_X6_ifPassed, hR, hP, hx, hw, hv1, jcl_0, jnr_i, jk_h (M := M_L_ifPassed G) (pc := 5) (E := "java/lang/IllegalArgumentException") 13 rfl]
      intro q
      simp only [jq_astoreW4 (M := M_L_ifPassed G) 15 dL_ifPassed_13 rfl, jq_iconst (M := M_L_ifPassed G) 1 16 dL_ifPassed_15 (by decide) rfl, jq_iret (M := M_L_ifPassed G) .int dL_ifPassed_16 rfl, eq_self, jref_10, jref_11, jref_12, jk_v, jk_n, jcat_nil, jcat_i, jcat_r, jcat_l, jcat_d, jc2_i, jc2_r, jc2_n, jc1_i, jc1_r, jrf_some, jwtq_wI, jwtq_wh, jR_wI, jI_wh, jR_wh, List.cons.injEq, Value.int.injEq, Value.ref.injEq, Value.long.injEq, Value.double.injEq, true_and, and_true, and_self, Nat.reduceAdd, Nat.reduceLeDiff, if_true, if_false, ite_true, ite_false, jc1q_i, jc1q_r, jc1q_l, jwtq_wR, jwtq_wY, jI_wI, Nat.reduceEqDiff, and_false, false_and, not_false_eq_true, not_true_eq_false, jnr_i]
      rfl
theorem met_L_ifPassed {l : Launch} (hl : l.stackTraces = false) (D : va_G) (cy : Nat → ClassId) (G : jgG) : jMet l D cy G I_L_ifPassed (S_L_ifPassed G) :=
  jr_metH (M_L_ifPassed G) I_L_ifPassed (S_L_ifPassed G) RL rfl (by decide) rfl rfl rfl (by decide) rfl rfl jmAI jmAL (fun R h1 h2 => List.forall_mem_cons.mpr ⟨⟨⟨jm_567, jm_50, jd_X6_ifPassed, ⟨by rw [h1]; exact Nat.le_of_ble_eq_true rfl, by rw [h2]; exact Nat.le_of_ble_eq_true rfl⟩, Or.inl ⟨rfl, jm_815, jm_565, jm_566, rfl, Nat.le_of_ble_eq_true rfl, _, rfl, rfl⟩⟩, met_X6_ifPassed hl D cy G⟩, fun _ h => nomatch h⟩) (List.forall_mem_cons.mpr ⟨⟨by decide, jw_lIA, jw_cIA⟩, fun _ h => nomatch h⟩) (show ∀ q ∈ ([(0, 10, 13, 13, "java/lang/IllegalArgumentException")] : List (Nat × Nat × Nat × Nat × String)), ∀ z ∈ ([(0, 10, 13, 13, "java/lang/IllegalArgumentException")] : List (Nat × Nat × Nat × Nat × String)), z.2.2.2.2 = q.2.2.2.2 ∨ (q.2.2.2.2, z.2.2.2.2) ∈ jxnc from by decide +kernel) (fun As σ r h => by obtain ⟨-, rfl⟩ := h; exact kW_v _ _ _) (bd_L_ifPassed G)
