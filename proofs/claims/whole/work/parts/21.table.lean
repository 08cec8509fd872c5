/-! SkipRows$Table: looks -/
/-- how many of the first n have p -/
def jct (p : Nat → Prop) [DecidablePred p] : Nat → Nat
  | 0 => 0
  | n + 1 => jct p n + (if p n then 1 else 0)
theorem jct_le (p : Nat → Prop) [DecidablePred p] : ∀ n, jct p n ≤ n
  | 0 => Nat.le_refl 0
  | n + 1 => by
    have := jct_le p n
    show jct p n + (if p n then 1 else 0) ≤ n + 1
    split <;> omega
theorem jct_y {p : Nat → Prop} [DecidablePred p] {n : Nat} (h : p n) : jct p (n + 1) = jct p n + 1 := by simp [jct, h]
theorem jct_n {p : Nat → Prop} [DecidablePred p] {n : Nat} (h : ¬ p n) : jct p (n + 1) = jct p n := by simp [jct, h]
/-- a table lies at h: its rows, its readers, its settings -/
def jTab (G : jgG) (ρ : Nat → Nat → Option Nat) (w h : Nat) : Prop := jo G w h 5 ∧ (ρ h 0 = some (h + 1) ∧ ρ h 1 = some (h + 2) ∧ ρ h 2 = some (h + 3)) ∧ ((jl G w (h + 1) ∧ G.2.2.2.1 (h + 1) = (10, 24)) ∧ (jl G w (h + 2) ∧ G.2.2.2.1 (h + 2) = (11, 4)) ∧ (jl G w (h + 3) ∧ G.2.2.2.1 (h + 3) = (8, 4))) ∧ (∀ i, i < 24 → ρ (h + 1) i = some (h + 4 + i) ∧ jo G w (h + 4 + i) 4) ∧ (∀ r, r < 4 → ρ (h + 2) r = some (h + 28 + r) ∧ jo G w (h + 28 + r) 3)
/-- how many rows it has -/
def jn (σ : jgS) (h : Nat) : Nat := (σ.1 h 3).toNatClampNeg
def jT (G : jgG) (σ : jgS) (h : Nat) : Prop := jTab G σ.2.1 (jwt σ) h ∧ σ.1 h 3 = nI (jn σ h) ∧ jn σ h ≤ 24
def Pp_X5_holdsOf (G : jgG) (h : Nat) (r : Int32) (σ : jgS) : Prop := jT G σ h
def Ff_X5_holdsOf (G : jgG) (h : Nat) (r : Int32) (σ : jgS) : jgR := (.inl (some (.int (nI (jct (fun i => σ.1 (h + 4 + i) 4 = 1 ∧ σ.1 (h + 4 + i) 5 = r) (jn σ h))))), σ)
def P_X5_holdsOf (G : jgG) (As : List Value) (σ : jgS) : Prop := ∃ h : Nat, ∃ r : Int32, As = [.ref h, .int r] ∧ Pp_X5_holdsOf G h r σ
def F_X5_holdsOf (G : jgG) (As : List Value) (σ : jgS) : jgR := Ff_X5_holdsOf G (jaR As 0) (jaI As 1) σ
def S_X5_holdsOf (G : jgG) : jgSpec := jsp (P_X5_holdsOf G) (F_X5_holdsOf G)
theorem PX_X5_holdsOf {G : jgG} {h : Nat} {r : Int32} {σ : jgS} : P_X5_holdsOf G [.ref h, .int r] σ ↔ Pp_X5_holdsOf G h r σ := by unfold P_X5_holdsOf; simp [and_assoc]
theorem FX_X5_holdsOf {G : jgG} {h : Nat} {r : Int32} {σ : jgS} : F_X5_holdsOf G [.ref h, .int r] σ = Ff_X5_holdsOf G h r σ := rfl
def I_X5_holdsOf : jgI := (0, 5, yX5_holdsOf, cX5_holdsOf, 4, (some .int), 1, 1, 21, [])
theorem jd_X5_holdsOf : I_X5_holdsOf.2.2.1.cls ≠ "java/lang/invoke/MethodHandle" ∧ I_X5_holdsOf.2.2.1.cls ≠ "java/lang/invoke/VarHandle" ∧ (parseMethodDescriptor I_X5_holdsOf.2.2.1.desc).map (fun d => d.parameters.length) = some I_X5_holdsOf.2.2.2.2.2.2.1 := ⟨by decide +kernel, by decide +kernel, by decide +kernel⟩
def M_X5_holdsOf (G : jgG) : jgM := (cX5_holdsOf, [(11, jpF 5 0), (29, jpF 5 3), (86, jpC I_X4_isHeldBy (S_X4_isHeldBy G))], [], [], (some .int), false)
theorem lp_X5_holdsOf {G : jgG} {h : Nat} {r : Int32} {σ : jgS} {Φ : jgR → Prop} (hp : jT G σ h) (hΦ : Φ (Ff_X5_holdsOf G h r σ)) : ∀ k i, i + k = jn σ h → Jr G (M_X5_holdsOf G) 4 [some (.ref h), some (.int r), some (.int (nI (jct (fun i => σ.1 (h + 4 + i) 4 = 1 ∧ σ.1 (h + 4 + i) 5 = r) i))), some (.int (nI i))] [] σ Φ := by
  obtain ⟨⟨t0, ⟨t1, t2, t3⟩, ⟨⟨a1, k1⟩, ⟨a2, k2⟩, ⟨a3, k3⟩⟩, tr, td⟩, hn, hn24⟩ := hp
  intro k
  induction k with
  | zero =>
    intro i hi
    obtain rfl : i = jn σ h := by omega
    rw [jq_iload3 5 dX5_holdsOf_4 rfl]
    simp only [jq_iconst (M := M_X5_holdsOf G) 0 1 dX5_holdsOf_0 (by decide) rfl, jq_istore2 (M := M_X5_holdsOf G) 2 dX5_holdsOf_1 rfl, jq_iconst (M := M_X5_holdsOf G) 0 3 dX5_holdsOf_2 (by decide) rfl, jq_istore3 (M := M_X5_holdsOf G) 4 dX5_holdsOf_3 rfl, jq_aload0 (M := M_X5_holdsOf G) 6 dX5_holdsOf_5 rfl, jq_getI (M := M_X5_holdsOf G) 5 3 9 dX5_holdsOf_6 rfl rfl rfl, jq_icmp_ge (M := M_X5_holdsOf G) 34 12 dX5_holdsOf_9 (by decide) rfl, jq_aload0 (M := M_X5_holdsOf G) 13 dX5_holdsOf_12 rfl, jq_getR (M := M_X5_holdsOf G) 5 0 16 dX5_holdsOf_13 rfl rfl rfl, jq_iload3 (M := M_X5_holdsOf G) 17 dX5_holdsOf_16 rfl, jq_aald (M := M_X5_holdsOf G) 18 dX5_holdsOf_17 rfl, jq_iload1 (M := M_X5_holdsOf G) 19 dX5_holdsOf_18 rfl, jq_virt1 (M := M_X5_holdsOf G) I_X4_isHeldBy 4 dX5_holdsOf_19 rfl rfl rfl rfl, jq_if_eq (M := M_X5_holdsOf G) 28 25 dX5_holdsOf_22 (by decide) rfl, jq_iinc2 (M := M_X5_holdsOf G) 1 28 dX5_holdsOf_25 (by decide) rfl, jq_iinc3 (M := M_X5_holdsOf G) 1 31 dX5_holdsOf_28 (by decide) rfl, jq_goto (M := M_X5_holdsOf G) 4 dX5_holdsOf_31 (by decide), jq_iload2 (M := M_X5_holdsOf G) 35 dX5_holdsOf_34 rfl, jq_iret (M := M_X5_holdsOf G) .int dX5_holdsOf_35 rfl, eq_self, jref_10, jref_11, jref_12, jk_v, jk_n, jcat_nil, jcat_i, jcat_r, jcat_l, jcat_d, jc2_i, jc2_r, jc2_n, jc1_i, jc1_r, jrf_some, jwt_wI, jwt_wh, jR_wI, jI_wh, jR_wh, List.cons.injEq, Value.int.injEq, Value.ref.injEq, Value.long.injEq, Value.double.injEq, true_and, and_true, and_self, Nat.reduceAdd, Nat.reduceLeDiff, if_true, if_false, ite_true, ite_false, t0, hn, Int32.le_refl, jnr_i]
    exact hΦ
  | succ k ih =>
    intro i hi
    have hlt : i < jn σ h := by omega
    have hc : ¬ nI (jn σ h) ≤ nI i := nI_ge hlt (by omega)
    have hv : vp_in (nI i) 24 := vp_in_nI (by omega) (by decide)
    have hcl : (nI i).toNatClampNeg = i := nI_clamp (by omega)
    have ih := ih (i + 1) (by omega)
    rw [← nI_1 i] at ih
    rw [jq_iload3 5 dX5_holdsOf_4 rfl]
    by_cases hq : σ.1 (h + 4 + i) 4 = 1 ∧ σ.1 (h + 4 + i) 5 = r
    · rw [jct_y hq, ← nI_1] at ih
      simp only [jq_iconst (M := M_X5_holdsOf G) 0 1 dX5_holdsOf_0 (by decide) rfl, jq_istore2 (M := M_X5_holdsOf G) 2 dX5_holdsOf_1 rfl, jq_iconst (M := M_X5_holdsOf G) 0 3 dX5_holdsOf_2 (by decide) rfl, jq_istore3 (M := M_X5_holdsOf G) 4 dX5_holdsOf_3 rfl, jq_aload0 (M := M_X5_holdsOf G) 6 dX5_holdsOf_5 rfl, jq_getI (M := M_X5_holdsOf G) 5 3 9 dX5_holdsOf_6 rfl rfl rfl, jq_icmp_ge (M := M_X5_holdsOf G) 34 12 dX5_holdsOf_9 (by decide) rfl, jq_aload0 (M := M_X5_holdsOf G) 13 dX5_holdsOf_12 rfl, jq_getR (M := M_X5_holdsOf G) 5 0 16 dX5_holdsOf_13 rfl rfl rfl, jq_iload3 (M := M_X5_holdsOf G) 17 dX5_holdsOf_16 rfl, jq_aald (M := M_X5_holdsOf G) 18 dX5_holdsOf_17 rfl, jq_iload1 (M := M_X5_holdsOf G) 19 dX5_holdsOf_18 rfl, jq_virt1 (M := M_X5_holdsOf G) I_X4_isHeldBy 4 dX5_holdsOf_19 rfl rfl rfl rfl, jq_if_eq (M := M_X5_holdsOf G) 28 25 dX5_holdsOf_22 (by decide) rfl, jq_iinc2 (M := M_X5_holdsOf G) 1 28 dX5_holdsOf_25 (by decide) rfl, jq_iinc3 (M := M_X5_holdsOf G) 1 31 dX5_holdsOf_28 (by decide) rfl, jq_goto (M := M_X5_holdsOf G) 4 dX5_holdsOf_31 (by decide), jq_iload2 (M := M_X5_holdsOf G) 35 dX5_holdsOf_34 rfl, jq_iret (M := M_X5_holdsOf G) .int dX5_holdsOf_35 rfl, eq_self, jref_10, jref_11, jref_12, jk_v, jk_n, jcat_nil, jcat_i, jcat_r, jcat_l, jcat_d, jc2_i, jc2_r, jc2_n, jc1_i, jc1_r, jrf_some, jwt_wI, jwt_wh, jR_wI, jI_wh, jR_wh, List.cons.injEq, Value.int.injEq, Value.ref.injEq, Value.long.injEq, Value.double.injEq, true_and, and_true, and_self, Nat.reduceAdd, Nat.reduceLeDiff, if_true, if_false, ite_true, ite_false, t0, t1, a1, k1, tr i (by omega), hn, hc, hv, hcl, PX_X4_isHeldBy, FX_X4_isHeldBy, Pp_X4_isHeldBy, Ff_X4_isHeldBy, jb_0, hq, not_true_eq_false, not_false_eq_true]
      exact ih
    · rw [jct_n hq] at ih
      simp only [jq_iconst (M := M_X5_holdsOf G) 0 1 dX5_holdsOf_0 (by decide) rfl, jq_istore2 (M := M_X5_holdsOf G) 2 dX5_holdsOf_1 rfl, jq_iconst (M := M_X5_holdsOf G) 0 3 dX5_holdsOf_2 (by decide) rfl, jq_istore3 (M := M_X5_holdsOf G) 4 dX5_holdsOf_3 rfl, jq_aload0 (M := M_X5_holdsOf G) 6 dX5_holdsOf_5 rfl, jq_getI (M := M_X5_holdsOf G) 5 3 9 dX5_holdsOf_6 rfl rfl rfl, jq_icmp_ge (M := M_X5_holdsOf G) 34 12 dX5_holdsOf_9 (by decide) rfl, jq_aload0 (M := M_X5_holdsOf G) 13 dX5_holdsOf_12 rfl, jq_getR (M := M_X5_holdsOf G) 5 0 16 dX5_holdsOf_13 rfl rfl rfl, jq_iload3 (M := M_X5_holdsOf G) 17 dX5_holdsOf_16 rfl, jq_aald (M := M_X5_holdsOf G) 18 dX5_holdsOf_17 rfl, jq_iload1 (M := M_X5_holdsOf G) 19 dX5_holdsOf_18 rfl, jq_virt1 (M := M_X5_holdsOf G) I_X4_isHeldBy 4 dX5_holdsOf_19 rfl rfl rfl rfl, jq_if_eq (M := M_X5_holdsOf G) 28 25 dX5_holdsOf_22 (by decide) rfl, jq_iinc2 (M := M_X5_holdsOf G) 1 28 dX5_holdsOf_25 (by decide) rfl, jq_iinc3 (M := M_X5_holdsOf G) 1 31 dX5_holdsOf_28 (by decide) rfl, jq_goto (M := M_X5_holdsOf G) 4 dX5_holdsOf_31 (by decide), jq_iload2 (M := M_X5_holdsOf G) 35 dX5_holdsOf_34 rfl, jq_iret (M := M_X5_holdsOf G) .int dX5_holdsOf_35 rfl, eq_self, jref_10, jref_11, jref_12, jk_v, jk_n, jcat_nil, jcat_i, jcat_r, jcat_l, jcat_d, jc2_i, jc2_r, jc2_n, jc1_i, jc1_r, jrf_some, jwt_wI, jwt_wh, jR_wI, jI_wh, jR_wh, List.cons.injEq, Value.int.injEq, Value.ref.injEq, Value.long.injEq, Value.double.injEq, true_and, and_true, and_self, Nat.reduceAdd, Nat.reduceLeDiff, if_true, if_false, ite_true, ite_false, t0, t1, a1, k1, tr i (by omega), hn, hc, hv, hcl, PX_X4_isHeldBy, FX_X4_isHeldBy, Pp_X4_isHeldBy, Ff_X4_isHeldBy, jb_0, hq, not_true_eq_false, not_false_eq_true]
      exact ih
theorem bd_X5_holdsOf (G : jgG) : ∀ (As : List Value) (σ : jgS) (r : jgR), S_X5_holdsOf G As σ r → jhs σ ≤ jhs r.2 ∧ jsl σ ≤ jsl r.2 ∧ (jent As).length ≤ I_X5_holdsOf.2.2.2.2.1 ∧ Jr G (M_X5_holdsOf G) 0 (jentry As I_X5_holdsOf.2.2.2.2.1) [] σ (fun r' => r' = r) := by
  rintro As σ r ⟨⟨h, r, rfl, hp⟩, rfl⟩
  rw [FX_X5_holdsOf]
  refine ⟨(by first | exact Nat.le_refl _ | (show _ ≤ _; simp only [F_X5_holdsOf, Ff_X5_holdsOf]; (repeat' split) <;> first | exact Nat.le_refl _ | exact Nat.le_succ _ | exact Nat.le_add_right _ _)), (by first | exact Nat.le_refl _ | (show _ ≤ _; simp only [F_X5_holdsOf, Ff_X5_holdsOf]; (repeat' split) <;> first | exact Nat.le_refl _ | exact Nat.le_succ _ | exact Nat.le_add_right _ _)), by simp [jent, Value.category, I_X5_holdsOf], ?_⟩
  show Jr G (M_X5_holdsOf G) 0 [some (.ref h), some (.int r), none, none] [] σ (fun r' => r' = Ff_X5_holdsOf G h r σ)
  simp only [jq_iconst (M := M_X5_holdsOf G) 0 1 dX5_holdsOf_0 (by decide) rfl, jq_istore2 (M := M_X5_holdsOf G) 2 dX5_holdsOf_1 rfl, jq_iconst (M := M_X5_holdsOf G) 0 3 dX5_holdsOf_2 (by decide) rfl, jq_istore3 (M := M_X5_holdsOf G) 4 dX5_holdsOf_3 rfl, eq_self, jref_10, jref_11, jref_12, jk_v, jk_n, jcat_nil, jcat_i, jcat_r, jcat_l, jcat_d, jc2_i, jc2_r, jc2_n, jc1_i, jc1_r, jrf_some, jwt_wI, jwt_wh, jR_wI, jI_wh, jR_wh, List.cons.injEq, Value.int.injEq, Value.ref.injEq, Value.long.injEq, Value.double.injEq, true_and, and_true, and_self, Nat.reduceAdd, Nat.reduceLeDiff, if_true, if_false, ite_true, ite_false]
  exact lp_X5_holdsOf hp rfl (jn σ h) 0 (by omega)
theorem met_X5_holdsOf {l : Launch} (hl : l.stackTraces = false) (D : va_G) (cy : Nat → ClassId) (G : jgG) : jMet l D cy G I_X5_holdsOf (S_X5_holdsOf G) :=
  jr_met hl (M_X5_holdsOf G) I_X5_holdsOf (S_X5_holdsOf G) RX5 rfl (by decide) rfl rfl rfl rfl (fun h => (by cases h)) jmAI jmAL (fun R h1 h2 => List.forall_mem_cons.mpr ⟨jpokF (r := (RX5, TX5, 8)) rfl jcls5 (by decide) (by decide) jm_158 (fun h => (by cases h)), List.forall_mem_cons.mpr ⟨jpokF (r := (RX5, TX5, 8)) rfl jcls5 (by decide) (by decide) jm_166 (fun h => (by cases h)), List.forall_mem_cons.mpr ⟨⟨⟨jm_353, jm_52, jd_X4_isHeldBy, ⟨by rw [h1]; exact Nat.le_of_ble_eq_true rfl, by rw [h2]; exact Nat.le_of_ble_eq_true rfl⟩, Or.inl ⟨rfl, jm_350, jm_351, jm_352, rfl, Nat.le_of_ble_eq_true rfl, _, rfl, rfl⟩⟩, met_X4_isHeldBy hl D cy G⟩, fun _ h => nomatch h⟩⟩⟩) (fun h => absurd rfl h) (fun _ h => nomatch h) (bd_X5_holdsOf G)
