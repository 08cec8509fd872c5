/-! SkipRows$Table: writes, the rest -/
def Pp_X5_lapse (G : jgG) (h : Nat) (a : Nat) (σ : jgS) : Prop := jT G σ h ∧ (∃ j, j < 24 ∧ a = h + 4 + j) ∧ vp_in (σ.1 a 5) 4
def Ff_X5_lapse (G : jgG) (h : Nat) (a : Nat) (σ : jgS) : jgR := (.inl none, jwI (jwI (jwI (jwI (jwI σ (h + 28 + (σ.1 a 5).toNatClampNeg) 3 (σ.1 (h + 28 + (σ.1 a 5).toNatClampNeg) 3 + 1)) a 7 (σ.1 a 7 + 1)) a 4 (if σ.1 a 7 + 1 < σ.1 (h + 3) 1 then 0 else 3)) a 5 (-1)) a 6 (-1))
def P_X5_lapse (G : jgG) (As : List Value) (σ : jgS) : Prop := ∃ h : Nat, ∃ a : Nat, As = [.ref h, .ref a] ∧ Pp_X5_lapse G h a σ
def F_X5_lapse (G : jgG) (As : List Value) (σ : jgS) : jgR := Ff_X5_lapse G (jaR As 0) (jaR As 1) σ
def S_X5_lapse (G : jgG) : jgSpec := jsp (P_X5_lapse G) (F_X5_lapse G)
theorem PX_X5_lapse {G : jgG} {h : Nat} {a : Nat} {σ : jgS} : P_X5_lapse G [.ref h, .ref a] σ ↔ Pp_X5_lapse G h a σ := by unfold P_X5_lapse; simp [and_assoc]
theorem FX_X5_lapse {G : jgG} {h : Nat} {a : Nat} {σ : jgS} : F_X5_lapse G [.ref h, .ref a] σ = Ff_X5_lapse G h a σ := rfl
def I_X5_lapse : jgI := (0, 5, yX5_lapse, cX5_lapse, 2, none, 1, 1, 21, [])
theorem jd_X5_lapse : I_X5_lapse.2.2.1.cls ≠ "java/lang/invoke/MethodHandle" ∧ I_X5_lapse.2.2.1.cls ≠ "java/lang/invoke/VarHandle" ∧ (parseMethodDescriptor I_X5_lapse.2.2.1.desc).map (fun d => d.parameters.length) = some I_X5_lapse.2.2.2.2.2.2.1 := ⟨by decide +kernel, by decide +kernel, by decide +kernel⟩
def M_X5_lapse (G : jgG) : jgM := (cX5_lapse, [(19, jpF 5 1), (23, jpF 5 2), (98, jpF 4 5), (101, jpF 3 3), (104, jpF 4 7), (107, jpC I_X4_endHold (S_X4_endHold G))], [], [], none, false)
theorem bd_X5_lapse (G : jgG) : ∀ (As : List Value) (σ : jgS) (r : jgR), S_X5_lapse G As σ r → jhs σ ≤ jhs r.2 ∧ jsl σ ≤ jsl r.2 ∧ (jent As).length ≤ I_X5_lapse.2.2.2.2.1 ∧ Jr G (M_X5_lapse G) 0 (jentry As I_X5_lapse.2.2.2.2.1) [] σ (fun r' => r' = r) := by
  rintro As σ r ⟨⟨h, a, rfl, hp⟩, rfl⟩
  rw [FX_X5_lapse]
  refine ⟨(by first | exact Nat.le_refl _ | (show _ ≤ _; simp only [F_X5_lapse, Ff_X5_lapse]; (repeat' split) <;> first | exact Nat.le_refl _ | exact Nat.le_succ _ | exact Nat.le_add_right _ _)), (by first | exact Nat.le_refl _ | (show _ ≤ _; simp only [F_X5_lapse, Ff_X5_lapse]; (repeat' split) <;> first | exact Nat.le_refl _ | exact Nat.le_succ _ | exact Nat.le_add_right _ _)), by simp [jent, Value.category, I_X5_lapse], ?_⟩
  show Jr G (M_X5_lapse G) 0 [some (.ref h), some (.ref a)] [] σ (fun r' => r' = Ff_X5_lapse G h a σ)
  obtain ⟨hp, ⟨j, hj, rfl⟩, hv⟩ := hp
  obtain ⟨⟨t0, ⟨t1, t2, t3⟩, ⟨⟨a1, k1⟩, ⟨a2, k2⟩, ⟨a3, k3⟩⟩, tr, td⟩, hn, hn24⟩ := hp
  obtain ⟨r, hr, e⟩ := vp_in_of hv (by decide)
  have e0 : ¬ nI r < 0 := nI_pos (by omega)
  have e4 : ¬ (4 : Int32) ≤ nI r := nI_ge (b := 4) hr (by decide)
  have ec : (nI r).toNatClampNeg = r := nI_clamp (by omega)
  have ev : vp_in (nI r) 4 := vp_in_nI hr (by decide)
  have hs1 : vp_in 1 4 := vp_in_nI (n := 1) (by decide) (by decide)
  have hs1c : (1 : Int32).toNatClampNeg = 1 := by decide
  by_cases hb : σ.1 (h + 4 + j) 7 + 1 < σ.1 (h + 3) 1
  · simp only [jq_aload1 (M := M_X5_lapse G) 1 dX5_lapse_0 rfl, jq_getI (M := M_X5_lapse G) 4 5 4 dX5_lapse_1 rfl rfl rfl, jq_if_lt (M := M_X5_lapse G) 33 7 dX5_lapse_4 (by decide) rfl, jq_aload1 (M := M_X5_lapse G) 8 dX5_lapse_7 rfl, jq_getI (M := M_X5_lapse G) 4 5 11 dX5_lapse_8 rfl rfl rfl, jq_iconst (M := M_X5_lapse G) 4 12 dX5_lapse_11 (by decide) rfl, jq_icmp_ge (M := M_X5_lapse G) 33 15 dX5_lapse_12 (by decide) rfl, jq_aload0 (M := M_X5_lapse G) 16 dX5_lapse_15 rfl, jq_getR (M := M_X5_lapse G) 5 1 19 dX5_lapse_16 rfl rfl rfl, jq_aload1 (M := M_X5_lapse G) 20 dX5_lapse_19 rfl, jq_getI (M := M_X5_lapse G) 4 5 23 dX5_lapse_20 rfl rfl rfl, jq_aald (M := M_X5_lapse G) 24 dX5_lapse_23 rfl, jq_dupR (M := M_X5_lapse G) 25 dX5_lapse_24 rfl, jq_dupI (M := M_X5_lapse G) 25 dX5_lapse_24 rfl, jq_getI (M := M_X5_lapse G) 3 3 28 dX5_lapse_25 rfl rfl rfl, jq_iconst (M := M_X5_lapse G) 1 29 dX5_lapse_28 (by decide) rfl, jq_iadd (M := M_X5_lapse G) 30 dX5_lapse_29 rfl, jq_putI (M := M_X5_lapse G) 3 3 33 dX5_lapse_30 rfl rfl rfl, jq_aload1 (M := M_X5_lapse G) 34 dX5_lapse_33 rfl, jq_dupR (M := M_X5_lapse G) 35 dX5_lapse_34 rfl, jq_dupI (M := M_X5_lapse G) 35 dX5_lapse_34 rfl, jq_getI (M := M_X5_lapse G) 4 7 38 dX5_lapse_35 rfl rfl rfl, jq_iconst (M := M_X5_lapse G) 1 39 dX5_lapse_38 (by decide) rfl, jq_iadd (M := M_X5_lapse G) 40 dX5_lapse_39 rfl, jq_putI (M := M_X5_lapse G) 4 7 43 dX5_lapse_40 rfl rfl rfl, jq_aload1 (M := M_X5_lapse G) 44 dX5_lapse_43 rfl, jq_aload1 (M := M_X5_lapse G) 45 dX5_lapse_44 rfl, jq_getI (M := M_X5_lapse G) 4 7 48 dX5_lapse_45 rfl rfl rfl, jq_aload0 (M := M_X5_lapse G) 49 dX5_lapse_48 rfl, jq_getR (M := M_X5_lapse G) 5 2 52 dX5_lapse_49 rfl rfl rfl, jq_iconst (M := M_X5_lapse G) 1 53 dX5_lapse_52 (by decide) rfl, jq_iald (M := M_X5_lapse G) 54 dX5_lapse_53 rfl, jq_icmp_lt (M := M_X5_lapse G) 61 57 dX5_lapse_54 (by decide) rfl, jq_iconst (M := M_X5_lapse G) 3 58 dX5_lapse_57 (by decide) rfl, jq_goto (M := M_X5_lapse G) 62 dX5_lapse_58 (by decide), jq_iconst (M := M_X5_lapse G) 0 62 dX5_lapse_61 (by decide) rfl, jq_virt1 (M := M_X5_lapse G) I_X4_endHold 4 dX5_lapse_62 rfl rfl rfl rfl, jq_ret (M := M_X5_lapse G) dX5_lapse_65 rfl, eq_self, jref_10, jref_11, jref_12, jk_v, jk_n, jcat_nil, jcat_i, jcat_r, jcat_l, jcat_d, jc2_i, jc2_r, jc2_n, jc1_i, jc1_r, jrf_some, jwtq_wI, jwtq_wh, jR_wI, jI_wh, jR_wh, List.cons.injEq, Value.int.injEq, Value.ref.injEq, Value.long.injEq, Value.double.injEq, true_and, and_true, and_self, Nat.reduceAdd, Nat.reduceLeDiff, if_true, if_false, ite_true, ite_false, jc1q_i, jc1q_r, jc1q_l, jwtq_wR, jwtq_wY, jI_wI, Nat.reduceEqDiff, and_false, false_and, t0, t1, t2, t3, a1, k1, a2, k2, a3, k3, hn, (tr j hj).2, td r hr, e, e0, e4, ec, ev, hs1, hs1c, hb, PX_X4_endHold, FX_X4_endHold, Pp_X4_endHold, Ff_X4_endHold, Ff_X5_lapse]
  · simp only [jq_aload1 (M := M_X5_lapse G) 1 dX5_lapse_0 rfl, jq_getI (M := M_X5_lapse G) 4 5 4 dX5_lapse_1 rfl rfl rfl, jq_if_lt (M := M_X5_lapse G) 33 7 dX5_lapse_4 (by decide) rfl, jq_aload1 (M := M_X5_lapse G) 8 dX5_lapse_7 rfl, jq_getI (M := M_X5_lapse G) 4 5 11 dX5_lapse_8 rfl rfl rfl, jq_iconst (M := M_X5_lapse G) 4 12 dX5_lapse_11 (by decide) rfl, jq_icmp_ge (M := M_X5_lapse G) 33 15 dX5_lapse_12 (by decide) rfl, jq_aload0 (M := M_X5_lapse G) 16 dX5_lapse_15 rfl, jq_getR (M := M_X5_lapse G) 5 1 19 dX5_lapse_16 rfl rfl rfl, jq_aload1 (M := M_X5_lapse G) 20 dX5_lapse_19 rfl, jq_getI (M := M_X5_lapse G) 4 5 23 dX5_lapse_20 rfl rfl rfl, jq_aald (M := M_X5_lapse G) 24 dX5_lapse_23 rfl, jq_dupR (M := M_X5_lapse G) 25 dX5_lapse_24 rfl, jq_dupI (M := M_X5_lapse G) 25 dX5_lapse_24 rfl, jq_getI (M := M_X5_lapse G) 3 3 28 dX5_lapse_25 rfl rfl rfl, jq_iconst (M := M_X5_lapse G) 1 29 dX5_lapse_28 (by decide) rfl, jq_iadd (M := M_X5_lapse G) 30 dX5_lapse_29 rfl, jq_putI (M := M_X5_lapse G) 3 3 33 dX5_lapse_30 rfl rfl rfl, jq_aload1 (M := M_X5_lapse G) 34 dX5_lapse_33 rfl, jq_dupR (M := M_X5_lapse G) 35 dX5_lapse_34 rfl, jq_dupI (M := M_X5_lapse G) 35 dX5_lapse_34 rfl, jq_getI (M := M_X5_lapse G) 4 7 38 dX5_lapse_35 rfl rfl rfl, jq_iconst (M := M_X5_lapse G) 1 39 dX5_lapse_38 (by decide) rfl, jq_iadd (M := M_X5_lapse G) 40 dX5_lapse_39 rfl, jq_putI (M := M_X5_lapse G) 4 7 43 dX5_lapse_40 rfl rfl rfl, jq_aload1 (M := M_X5_lapse G) 44 dX5_lapse_43 rfl, jq_aload1 (M := M_X5_lapse G) 45 dX5_lapse_44 rfl, jq_getI (M := M_X5_lapse G) 4 7 48 dX5_lapse_45 rfl rfl rfl, jq_aload0 (M := M_X5_lapse G) 49 dX5_lapse_48 rfl, jq_getR (M := M_X5_lapse G) 5 2 52 dX5_lapse_49 rfl rfl rfl, jq_iconst (M := M_X5_lapse G) 1 53 dX5_lapse_52 (by decide) rfl, jq_iald (M := M_X5_lapse G) 54 dX5_lapse_53 rfl, jq_icmp_lt (M := M_X5_lapse G) 61 57 dX5_lapse_54 (by decide) rfl, jq_iconst (M := M_X5_lapse G) 3 58 dX5_lapse_57 (by decide) rfl, jq_goto (M := M_X5_lapse G) 62 dX5_lapse_58 (by decide), jq_iconst (M := M_X5_lapse G) 0 62 dX5_lapse_61 (by decide) rfl, jq_virt1 (M := M_X5_lapse G) I_X4_endHold 4 dX5_lapse_62 rfl rfl rfl rfl, jq_ret (M := M_X5_lapse G) dX5_lapse_65 rfl, eq_self, jref_10, jref_11, jref_12, jk_v, jk_n, jcat_nil, jcat_i, jcat_r, jcat_l, jcat_d, jc2_i, jc2_r, jc2_n, jc1_i, jc1_r, jrf_some, jwtq_wI, jwtq_wh, jR_wI, jI_wh, jR_wh, List.cons.injEq, Value.int.injEq, Value.ref.injEq, Value.long.injEq, Value.double.injEq, true_and, and_true, and_self, Nat.reduceAdd, Nat.reduceLeDiff, if_true, if_false, ite_true, ite_false, jc1q_i, jc1q_r, jc1q_l, jwtq_wR, jwtq_wY, jI_wI, Nat.reduceEqDiff, and_false, false_and, t0, t1, t2, t3, a1, k1, a2, k2, a3, k3, hn, (tr j hj).2, td r hr, e, e0, e4, ec, ev, hs1, hs1c, hb, PX_X4_endHold, FX_X4_endHold, Pp_X4_endHold, Ff_X4_endHold, Ff_X5_lapse]
theorem met_X5_lapse {l : Launch} (hl : l.stackTraces = false) (D : va_G) (cy : Nat → ClassId) (G : jgG) : jMet l D cy G I_X5_lapse (S_X5_lapse G) :=
  jr_met hl (M_X5_lapse G) I_X5_lapse (S_X5_lapse G) RX5 rfl (by decide) rfl rfl rfl rfl (fun h => (by cases h)) jmAI (fun R h1 h2 => List.forall_mem_cons.mpr ⟨jpokF (r := (RX5, TX5, 8)) rfl jcls5 (by decide) (by decide) jm_120 (fun h => (by cases h)), List.forall_mem_cons.mpr ⟨jpokF (r := (RX5, TX5, 8)) rfl jcls5 (by decide) (by decide) jm_122 (fun h => (by cases h)), List.forall_mem_cons.mpr ⟨jpokF (r := (RX4, TX4, 9)) rfl jcls4 (by decide) (by decide) jm_63 (fun h => (by cases h)), List.forall_mem_cons.mpr ⟨jpokF (r := (RX3, TX3, 4)) rfl jcls3 (by decide) (by decide) jm_106 (fun h => (by cases h)), List.forall_mem_cons.mpr ⟨jpokF (r := (RX4, TX4, 9)) rfl jcls4 (by decide) (by decide) jm_70 (fun h => (by cases h)), List.forall_mem_cons.mpr ⟨⟨⟨jm_471, jm_12, jd_X4_endHold, ⟨by rw [h1]; exact Nat.le_of_ble_eq_true rfl, by rw [h2]; exact Nat.le_of_ble_eq_true rfl⟩, Or.inl ⟨rfl, jm_468, jm_469, jm_470, rfl, Nat.le_of_ble_eq_true rfl, _, rfl, rfl⟩⟩, met_X4_endHold hl D cy G⟩, fun _ h => nomatch h⟩⟩⟩⟩⟩⟩) (fun h => absurd rfl h) (fun _ h => nomatch h) (bd_X5_lapse G)
/-- lapsed counts of the readers -/
def jRd (σ : jgS) (h : Nat) (c : Nat → Nat) : jgS := (fun a k => if h + 28 ≤ a ∧ a < h + 32 ∧ k = 3 then σ.1 a 3 + nI (c (a - (h + 28))) else σ.1 a k, σ.2)
theorem jRd_out {σ : jgS} {h : Nat} {c : Nat → Nat} {a k : Nat} (hn : ¬ (h + 28 ≤ a ∧ a < h + 32 ∧ k = 3)) : (jRd σ h c).1 a k = σ.1 a k := if_neg hn
theorem jRd_in {σ : jgS} {h : Nat} {c : Nat → Nat} {r : Nat} (hr : r < 4) : (jRd σ h c).1 (h + 28 + r) 3 = σ.1 (h + 28 + r) 3 + nI (c r) := by
  unfold jRd
  dsimp only
  rw [if_pos (by omega), show h + 28 + r - (h + 28) = r by omega]
/-- the rows' fields behind moveTime -/
def jvM (σ : jgS) (h : Nat) (x : Int32) (i k : Nat) : Int32 := if (σ.1 (h + 4 + i) 4 = 1 ∧ σ.1 (h + 4 + i) 6 ≤ x) then (if k = 4 then (if σ.1 (h + 4 + i) 7 + 1 < σ.1 (h + 3) 1 then 0 else 3) else if k = 5 then -1 else if k = 6 then -1 else if k = 7 then σ.1 (h + 4 + i) 7 + 1 else σ.1 (h + 4 + i) k) else σ.1 (h + 4 + i) k
def jsM (σ : jgS) (h : Nat) (x : Int32) (i : Nat) : jgS := jmp (jRd (jwI σ h 4 x) h (fun r => jct (fun j => (σ.1 (h + 4 + j) 4 = 1 ∧ σ.1 (h + 4 + j) 6 ≤ x) ∧ σ.1 (h + 4 + j) 5 = nI (r)) (i))) h i (jvM σ h x)
theorem jsM_2 (σ : jgS) (h : Nat) (x : Int32) (i : Nat) : (jsM σ h x i).2 = σ.2 := rfl
theorem jsM_wt (σ : jgS) (h : Nat) (x : Int32) (i : Nat) : jwt (jsM σ h x i) = jwt σ := id rfl
theorem jsM_row (σ : jgS) (h : Nat) (x : Int32) (i k : Nat) : i < 24 → (jsM σ h x i).1 (h + 4 + i) k = σ.1 (h + 4 + i) k := by
  intro hi
  unfold jsM
  rw [jmp_at, jRd_out (by omega), jI_wI, if_neg (by omega)]
theorem jsM_h (σ : jgS) (h : Nat) (x : Int32) (i k : Nat) : (jsM σ h x i).1 h k = if k = 4 then x else σ.1 h k := by
  unfold jsM
  rw [jmp_h, jRd_out (by omega), jI_wI]
  simp only [eq_self, true_and]
theorem jsM_3 (σ : jgS) (h : Nat) (x : Int32) (i k : Nat) : (jsM σ h x i).1 (h + 3) k = σ.1 (h + 3) k := by
  unfold jsM
  rw [jmp_3, jRd_out (by omega), jI_wI, if_neg (by omega)]
theorem jsM_T {G : jgG} {σ : jgS} {h : Nat} {x : Int32} {i : Nat} (hT : jT G σ h) : jT G (jsM σ h x i) h := by
  obtain ⟨h1, h2, h3⟩ := hT
  have e : jn (jsM σ h x i) h = jn σ h := by unfold jn; rw [jsM_h, if_neg (by decide)]
  exact ⟨h1, by rw [e, jsM_h, if_neg (by decide)]; exact h2, by rw [e]; exact h3⟩
theorem jsM_0 (σ : jgS) (h : Nat) (x : Int32) : jsM σ h x 0 = jwI σ h 4 x := by
  unfold jsM
  rw [jmp_0]
  refine Prod.ext (funext fun a => funext fun k => ?_) rfl
  by_cases c : h + 28 ≤ a ∧ a < h + 32 ∧ k = 3
  · obtain ⟨c1, c2, rfl⟩ := c
    unfold jRd
    dsimp only
    rw [if_pos ⟨c1, c2, rfl⟩]
    exact Int32.add_zero _
  · rw [jRd_out c]
theorem jsM_n {σ : jgS} {h : Nat} {x : Int32} {i : Nat} (hi : i < 24) (hb : ¬ (σ.1 (h + 4 + i) 4 = 1 ∧ σ.1 (h + 4 + i) 6 ≤ x)) : jsM σ h x i = jsM σ h x (i + 1) := by
  unfold jsM
  rw [show (fun r => jct (fun j => (σ.1 (h + 4 + j) 4 = 1 ∧ σ.1 (h + 4 + j) 6 ≤ x) ∧ σ.1 (h + 4 + j) 5 = nI (r)) (i + 1)) = fun r => jct (fun j => (σ.1 (h + 4 + j) 4 = 1 ∧ σ.1 (h + 4 + j) 6 ≤ x) ∧ σ.1 (h + 4 + j) 5 = nI (r)) (i) from funext fun r => jct_n fun q => hb q.1]
  refine jmp_step rfl (fun a k hn' => rfl) (fun k hk => ?_)
  rw [jmp_at, jRd_out (by omega), jI_wI, if_neg (by omega)]
  simp only [jvM, hb, if_false]
theorem jsM_l {G : jgG} {σ : jgS} {h : Nat} {x : Int32} {i : Nat} (hi : i < 24) (hb : (σ.1 (h + 4 + i) 4 = 1 ∧ σ.1 (h + 4 + i) 6 ≤ x)) (hv : vp_in (σ.1 (h + 4 + i) 5) 4) : Ff_X5_lapse G h (h + 4 + i) (jsM σ h x i) = (.inl none, jsM σ h x (i + 1)) := by
  obtain ⟨r, hr, e⟩ := vp_in_of hv (by decide)
  have ec : (nI r).toNatClampNeg = r := nI_clamp (by omega)
  unfold Ff_X5_lapse
  rw [jsM_row _ _ _ _ _ hi, jsM_row _ _ _ _ _ hi, jsM_3, e, ec]
  refine congrArg (Prod.mk _) ?_
  show _ = jmp (jRd (jwI σ h 4 x) h (fun r => jct (fun j => (σ.1 (h + 4 + j) 4 = 1 ∧ σ.1 (h + 4 + j) 6 ≤ x) ∧ σ.1 (h + 4 + j) 5 = nI (r)) (i + 1))) h (i + 1) (jvM σ h x)
  have e1 : ∀ r', r' < 4 → jct (fun j => (σ.1 (h + 4 + j) 4 = 1 ∧ σ.1 (h + 4 + j) 6 ≤ x) ∧ σ.1 (h + 4 + j) 5 = nI (r')) (i + 1) = if r' = r then jct (fun j => (σ.1 (h + 4 + j) 4 = 1 ∧ σ.1 (h + 4 + j) 6 ≤ x) ∧ σ.1 (h + 4 + j) 5 = nI (r')) (i) + 1 else jct (fun j => (σ.1 (h + 4 + j) 4 = 1 ∧ σ.1 (h + 4 + j) 6 ≤ x) ∧ σ.1 (h + 4 + j) 5 = nI (r')) (i) := by
    intro r' hr'
    split
    · rename_i q
      subst q
      exact jct_y ⟨hb, e⟩
    · rename_i q
      exact jct_n fun z => q ((nI_eq (by omega) (by omega)).mp (z.2.symm.trans e))
  refine jmp_step rfl (fun a k hn' => ?_) (fun k hk => ?_)
  · rw [jI_wI, if_neg (by omega), jI_wI, if_neg (by omega), jI_wI, if_neg (by omega), jI_wI, if_neg (by omega), jI_wI]
    by_cases c : h + 28 ≤ a ∧ a < h + 32 ∧ k = 3
    · obtain ⟨c1, c2, rfl⟩ := c
      obtain ⟨r', rfl⟩ : ∃ r', a = h + 28 + r' := ⟨a - (h + 28), by omega⟩
      have hr' : r' < 4 := by omega
      rw [jmp_out (by omega), jRd_in hr', e1 r' hr']
      unfold jsM
      rw [jmp_out (by omega), jmp_out (by omega), jRd_in hr, jRd_in hr']
      by_cases q : r' = r
      · subst q
        rw [if_pos ⟨rfl, rfl⟩, if_pos rfl, Int32.add_assoc, nI_1]
      · rw [if_neg (by omega), if_neg q]
    · rw [if_neg (by omega)]
      unfold jsM jmp
      dsimp only
      rw [jRd_out c, jRd_out c]
  · simp only [jI_wI, eq_self, true_and]
    rw [if_neg (c := h + 4 + i = h + 28 + r ∧ k = 3) (by omega), jsM_row _ _ _ _ _ hi]
    simp only [jvM, hb, if_true, and_self]
    by_cases k4 : k = 4
    · subst k4; rfl
    · by_cases k5 : k = 5
      · subst k5; rfl
      · by_cases k6 : k = 6
        · subst k6; rfl
        · by_cases k7 : k = 7
          · subst k7; rfl
          · simp only [k4, k5, k6, k7, if_false]
def Pp_X5_moveTime (G : jgG) (h : Nat) (u : Int32) (σ : jgS) : Prop := jT G σ h ∧ (∀ j, j < jn σ h → σ.1 (h + 4 + j) 4 = 1 → vp_in (σ.1 (h + 4 + j) 5) 4)
def Ff_X5_moveTime (G : jgG) (h : Nat) (u : Int32) (σ : jgS) : jgR := (.inl (some (.int (nI (jct (fun j => (σ.1 (h + 4 + j) 4 = 1 ∧ σ.1 (h + 4 + j) 6 ≤ σ.1 h 4 + u)) (jn σ h))))), jsM σ h (σ.1 h 4 + u) (jn σ h))
def P_X5_moveTime (G : jgG) (As : List Value) (σ : jgS) : Prop := ∃ h : Nat, ∃ u : Int32, As = [.ref h, .int u] ∧ Pp_X5_moveTime G h u σ
def F_X5_moveTime (G : jgG) (As : List Value) (σ : jgS) : jgR := Ff_X5_moveTime G (jaR As 0) (jaI As 1) σ
def S_X5_moveTime (G : jgG) : jgSpec := jsp (P_X5_moveTime G) (F_X5_moveTime G)
theorem PX_X5_moveTime {G : jgG} {h : Nat} {u : Int32} {σ : jgS} : P_X5_moveTime G [.ref h, .int u] σ ↔ Pp_X5_moveTime G h u σ := by unfold P_X5_moveTime; simp [and_assoc]
theorem FX_X5_moveTime {G : jgG} {h : Nat} {u : Int32} {σ : jgS} : F_X5_moveTime G [.ref h, .int u] σ = Ff_X5_moveTime G h u σ := rfl
def I_X5_moveTime : jgI := (0, 5, yX5_moveTime, cX5_moveTime, 4, (some .int), 1, 2, 42, [])
theorem jd_X5_moveTime : I_X5_moveTime.2.2.1.cls ≠ "java/lang/invoke/MethodHandle" ∧ I_X5_moveTime.2.2.1.cls ≠ "java/lang/invoke/VarHandle" ∧ (parseMethodDescriptor I_X5_moveTime.2.2.1.desc).map (fun d => d.parameters.length) = some I_X5_moveTime.2.2.2.2.2.2.1 := ⟨by decide +kernel, by decide +kernel, by decide +kernel⟩
def M_X5_moveTime (G : jgG) : jgM := (cX5_moveTime, [(11, jpF 5 0), (29, jpF 5 3), (40, jpF 5 4), (92, jpC I_X4_lapsesBy (S_X4_lapsesBy G)), (95, jpC I_X5_lapse (S_X5_lapse G))], [], [], (some .int), false)
theorem bd_X5_moveTime (G : jgG) : ∀ (As : List Value) (σ : jgS) (r : jgR), S_X5_moveTime G As σ r → jhs σ ≤ jhs r.2 ∧ jsl σ ≤ jsl r.2 ∧ (jent As).length ≤ I_X5_moveTime.2.2.2.2.1 ∧ Jr G (M_X5_moveTime G) 0 (jentry As I_X5_moveTime.2.2.2.2.1) [] σ (fun r' => r' = r) := by
  rintro As σ r ⟨⟨h, u, rfl, hp⟩, rfl⟩
  rw [FX_X5_moveTime]
  refine ⟨(by first | exact Nat.le_refl _ | (show _ ≤ _; simp only [F_X5_moveTime, Ff_X5_moveTime]; (repeat' split) <;> first | exact Nat.le_refl _ | exact Nat.le_succ _ | exact Nat.le_add_right _ _)), (by first | exact Nat.le_refl _ | (show _ ≤ _; simp only [F_X5_moveTime, Ff_X5_moveTime]; (repeat' split) <;> first | exact Nat.le_refl _ | exact Nat.le_succ _ | exact Nat.le_add_right _ _)), by simp [jent, Value.category, I_X5_moveTime], ?_⟩
  show Jr G (M_X5_moveTime G) 0 [some (.ref h), some (.int u), none, none] [] σ (fun r' => r' = Ff_X5_moveTime G h u σ)
  obtain ⟨hp, hvh⟩ := hp
  have hT : jT G σ h := hp
  obtain ⟨⟨t0, ⟨t1, t2, t3⟩, ⟨⟨a1, k1⟩, ⟨a2, k2⟩, ⟨a3, k3⟩⟩, tr, td⟩, hn, hn24⟩ := hp
  simp only [jq_aload0 (M := M_X5_moveTime G) 1 dX5_moveTime_0 rfl, jq_aload0 (M := M_X5_moveTime G) 2 dX5_moveTime_1 rfl, jq_getI (M := M_X5_moveTime G) 5 4 5 dX5_moveTime_2 rfl rfl rfl, jq_iload1 (M := M_X5_moveTime G) 6 dX5_moveTime_5 rfl, jq_iadd (M := M_X5_moveTime G) 7 dX5_moveTime_6 rfl, jq_putI (M := M_X5_moveTime G) 5 4 10 dX5_moveTime_7 rfl rfl rfl, jq_iconst (M := M_X5_moveTime G) 0 11 dX5_moveTime_10 (by decide) rfl, jq_istore2 (M := M_X5_moveTime G) 12 dX5_moveTime_11 rfl, jq_iconst (M := M_X5_moveTime G) 0 13 dX5_moveTime_12 (by decide) rfl, jq_istore3 (M := M_X5_moveTime G) 14 dX5_moveTime_13 rfl, eq_self, jref_10, jref_11, jref_12, jk_v, jk_n, jcat_nil, jcat_i, jcat_r, jcat_l, jcat_d, jc2_i, jc2_r, jc2_n, jc1_i, jc1_r, jrf_some, jwtq_wI, jwtq_wh, jR_wI, jI_wh, jR_wh, List.cons.injEq, Value.int.injEq, Value.ref.injEq, Value.long.injEq, Value.double.injEq, true_and, and_true, and_self, Nat.reduceAdd, Nat.reduceLeDiff, if_true, if_false, ite_true, ite_false, jc1q_i, jc1q_r, jc1q_l, jwtq_wR, jwtq_wY, jI_wI, Nat.reduceEqDiff, and_false, false_and, t0, t1, t2, t3, a1, k1, a2, k2, a3, k3, hn, jnr_i, jsM_2, jsM_wt, jsM_h]
  refine jst0 (σ' := jsM σ h (σ.1 h 4 + u) 0) (jsM_0 _ _ _) ?_
  refine jloop (P := fun i => Jr G (M_X5_moveTime G) 14 [some (.ref h), some (.int u), some (.int (nI (jct (fun j => (σ.1 (h + 4 + j) 4 = 1 ∧ σ.1 (h + 4 + j) 6 ≤ σ.1 h 4 + u)) i))), some (.int (nI i))] [] (jsM σ h (σ.1 h 4 + u) i) (fun r' => r' = Ff_X5_moveTime G h u σ)) (n := jn σ h) ?_ (fun i hlt ih => ?_)
  · show Jr G (M_X5_moveTime G) 14 _ _ _ _
    rw [jq_iload3 15 dX5_moveTime_14 rfl]
    simp only [jq_aload0 (M := M_X5_moveTime G) 1 dX5_moveTime_0 rfl, jq_aload0 (M := M_X5_moveTime G) 2 dX5_moveTime_1 rfl, jq_getI (M := M_X5_moveTime G) 5 4 5 dX5_moveTime_2 rfl rfl rfl, jq_iload1 (M := M_X5_moveTime G) 6 dX5_moveTime_5 rfl, jq_iadd (M := M_X5_moveTime G) 7 dX5_moveTime_6 rfl, jq_putI (M := M_X5_moveTime G) 5 4 10 dX5_moveTime_7 rfl rfl rfl, jq_iconst (M := M_X5_moveTime G) 0 11 dX5_moveTime_10 (by decide) rfl, jq_istore2 (M := M_X5_moveTime G) 12 dX5_moveTime_11 rfl, jq_iconst (M := M_X5_moveTime G) 0 13 dX5_moveTime_12 (by decide) rfl, jq_istore3 (M := M_X5_moveTime G) 14 dX5_moveTime_13 rfl, jq_aload0 (M := M_X5_moveTime G) 16 dX5_moveTime_15 rfl, jq_getI (M := M_X5_moveTime G) 5 3 19 dX5_moveTime_16 rfl rfl rfl, jq_icmp_ge (M := M_X5_moveTime G) 57 22 dX5_moveTime_19 (by decide) rfl, jq_aload0 (M := M_X5_moveTime G) 23 dX5_moveTime_22 rfl, jq_getR (M := M_X5_moveTime G) 5 0 26 dX5_moveTime_23 rfl rfl rfl, jq_iload3 (M := M_X5_moveTime G) 27 dX5_moveTime_26 rfl, jq_aald (M := M_X5_moveTime G) 28 dX5_moveTime_27 rfl, jq_aload0 (M := M_X5_moveTime G) 29 dX5_moveTime_28 rfl, jq_getI (M := M_X5_moveTime G) 5 4 32 dX5_moveTime_29 rfl rfl rfl, jq_virt1 (M := M_X5_moveTime G) I_X4_lapsesBy 4 dX5_moveTime_32 rfl rfl rfl rfl, jq_if_eq (M := M_X5_moveTime G) 51 38 dX5_moveTime_35 (by decide) rfl, jq_aload0 (M := M_X5_moveTime G) 39 dX5_moveTime_38 rfl, jq_aload0 (M := M_X5_moveTime G) 40 dX5_moveTime_39 rfl, jq_getR (M := M_X5_moveTime G) 5 0 43 dX5_moveTime_40 rfl rfl rfl, jq_iload3 (M := M_X5_moveTime G) 44 dX5_moveTime_43 rfl, jq_aald (M := M_X5_moveTime G) 45 dX5_moveTime_44 rfl, jq_virt1 (M := M_X5_moveTime G) I_X5_lapse 5 dX5_moveTime_45 rfl rfl rfl rfl, jq_iinc2 (M := M_X5_moveTime G) 1 51 dX5_moveTime_48 (by decide) rfl, jq_iinc3 (M := M_X5_moveTime G) 1 54 dX5_moveTime_51 (by decide) rfl, jq_goto (M := M_X5_moveTime G) 14 dX5_moveTime_54 (by decide), jq_iload2 (M := M_X5_moveTime G) 58 dX5_moveTime_57 rfl, jq_iret (M := M_X5_moveTime G) .int dX5_moveTime_58 rfl, eq_self, jref_10, jref_11, jref_12, jk_v, jk_n, jcat_nil, jcat_i, jcat_r, jcat_l, jcat_d, jc2_i, jc2_r, jc2_n, jc1_i, jc1_r, jrf_some, jwtq_wI, jwtq_wh, jR_wI, jI_wh, jR_wh, List.cons.injEq, Value.int.injEq, Value.ref.injEq, Value.long.injEq, Value.double.injEq, true_and, and_true, and_self, Nat.reduceAdd, Nat.reduceLeDiff, if_true, if_false, ite_true, ite_false, jc1q_i, jc1q_r, jc1q_l, jwtq_wR, jwtq_wY, jI_wI, Nat.reduceEqDiff, and_false, false_and, t0, t1, t2, t3, a1, k1, a2, k2, a3, k3, hn, jnr_i, jsM_2, jsM_wt, jsM_h, Int32.le_refl]
    rfl
  · show Jr G (M_X5_moveTime G) 14 _ _ _ _
    rw [jct_s, ← nI_1] at ih
    have hc : ¬ nI (jn σ h) ≤ nI i := nI_ge hlt (by omega)
    have hv : vp_in (nI i) 24 := vp_in_nI (by omega) (by decide)
    have hcl : (nI i).toNatClampNeg = i := nI_clamp (by omega)
    by_cases hb : (σ.1 (h + 4 + i) 4 = 1 ∧ σ.1 (h + 4 + i) 6 ≤ σ.1 h 4 + u)
    · have h9 : ∃ j, j < 24 ∧ h + 4 + i = h + 4 + j := ⟨i, by omega, rfl⟩
      have hv5 := hvh i hlt hb.1
      have hl := jsM_l (G := G) (σ := σ) (h := h) (i := i) (by omega) hb hv5
      simp only [hb, and_self, if_true] at ih
      rw [jq_iload3 15 dX5_moveTime_14 rfl]
      simp only [jq_aload0 (M := M_X5_moveTime G) 1 dX5_moveTime_0 rfl, jq_aload0 (M := M_X5_moveTime G) 2 dX5_moveTime_1 rfl, jq_getI (M := M_X5_moveTime G) 5 4 5 dX5_moveTime_2 rfl rfl rfl, jq_iload1 (M := M_X5_moveTime G) 6 dX5_moveTime_5 rfl, jq_iadd (M := M_X5_moveTime G) 7 dX5_moveTime_6 rfl, jq_putI (M := M_X5_moveTime G) 5 4 10 dX5_moveTime_7 rfl rfl rfl, jq_iconst (M := M_X5_moveTime G) 0 11 dX5_moveTime_10 (by decide) rfl, jq_istore2 (M := M_X5_moveTime G) 12 dX5_moveTime_11 rfl, jq_iconst (M := M_X5_moveTime G) 0 13 dX5_moveTime_12 (by decide) rfl, jq_istore3 (M := M_X5_moveTime G) 14 dX5_moveTime_13 rfl, jq_aload0 (M := M_X5_moveTime G) 16 dX5_moveTime_15 rfl, jq_getI (M := M_X5_moveTime G) 5 3 19 dX5_moveTime_16 rfl rfl rfl, jq_icmp_ge (M := M_X5_moveTime G) 57 22 dX5_moveTime_19 (by decide) rfl, jq_aload0 (M := M_X5_moveTime G) 23 dX5_moveTime_22 rfl, jq_getR (M := M_X5_moveTime G) 5 0 26 dX5_moveTime_23 rfl rfl rfl, jq_iload3 (M := M_X5_moveTime G) 27 dX5_moveTime_26 rfl, jq_aald (M := M_X5_moveTime G) 28 dX5_moveTime_27 rfl, jq_aload0 (M := M_X5_moveTime G) 29 dX5_moveTime_28 rfl, jq_getI (M := M_X5_moveTime G) 5 4 32 dX5_moveTime_29 rfl rfl rfl, jq_virt1 (M := M_X5_moveTime G) I_X4_lapsesBy 4 dX5_moveTime_32 rfl rfl rfl rfl, jq_if_eq (M := M_X5_moveTime G) 51 38 dX5_moveTime_35 (by decide) rfl, jq_aload0 (M := M_X5_moveTime G) 39 dX5_moveTime_38 rfl, jq_aload0 (M := M_X5_moveTime G) 40 dX5_moveTime_39 rfl, jq_getR (M := M_X5_moveTime G) 5 0 43 dX5_moveTime_40 rfl rfl rfl, jq_iload3 (M := M_X5_moveTime G) 44 dX5_moveTime_43 rfl, jq_aald (M := M_X5_moveTime G) 45 dX5_moveTime_44 rfl, jq_virt1 (M := M_X5_moveTime G) I_X5_lapse 5 dX5_moveTime_45 rfl rfl rfl rfl, jq_iinc2 (M := M_X5_moveTime G) 1 51 dX5_moveTime_48 (by decide) rfl, jq_iinc3 (M := M_X5_moveTime G) 1 54 dX5_moveTime_51 (by decide) rfl, jq_goto (M := M_X5_moveTime G) 14 dX5_moveTime_54 (by decide), jq_iload2 (M := M_X5_moveTime G) 58 dX5_moveTime_57 rfl, jq_iret (M := M_X5_moveTime G) .int dX5_moveTime_58 rfl, eq_self, jref_10, jref_11, jref_12, jk_v, jk_n, jcat_nil, jcat_i, jcat_r, jcat_l, jcat_d, jc2_i, jc2_r, jc2_n, jc1_i, jc1_r, jrf_some, jwtq_wI, jwtq_wh, jR_wI, jI_wh, jR_wh, List.cons.injEq, Value.int.injEq, Value.ref.injEq, Value.long.injEq, Value.double.injEq, true_and, and_true, and_self, Nat.reduceAdd, Nat.reduceLeDiff, if_true, if_false, ite_true, ite_false, jc1q_i, jc1q_r, jc1q_l, jwtq_wR, jwtq_wY, jI_wI, Nat.reduceEqDiff, and_false, false_and, t0, t1, t2, t3, a1, k1, a2, k2, a3, k3, hn, jnr_i, jsM_2, jsM_wt, jsM_h, tr i (by omega), hc, hv, hcl, PX_X4_lapsesBy, FX_X4_lapsesBy, Pp_X4_lapsesBy, Ff_X4_lapsesBy, PX_X5_lapse, FX_X5_lapse, Pp_X5_lapse, jb_0, jsM_row _ _ _ _ _ (show i < 24 by omega), jsM_T hT, h9, hv5, hl, hb.1, hb.2, not_true_eq_false]
      exact ih
    · simp only [hb, if_false] at ih
      rw [jq_iload3 15 dX5_moveTime_14 rfl]
      simp only [jq_aload0 (M := M_X5_moveTime G) 1 dX5_moveTime_0 rfl, jq_aload0 (M := M_X5_moveTime G) 2 dX5_moveTime_1 rfl, jq_getI (M := M_X5_moveTime G) 5 4 5 dX5_moveTime_2 rfl rfl rfl, jq_iload1 (M := M_X5_moveTime G) 6 dX5_moveTime_5 rfl, jq_iadd (M := M_X5_moveTime G) 7 dX5_moveTime_6 rfl, jq_putI (M := M_X5_moveTime G) 5 4 10 dX5_moveTime_7 rfl rfl rfl, jq_iconst (M := M_X5_moveTime G) 0 11 dX5_moveTime_10 (by decide) rfl, jq_istore2 (M := M_X5_moveTime G) 12 dX5_moveTime_11 rfl, jq_iconst (M := M_X5_moveTime G) 0 13 dX5_moveTime_12 (by decide) rfl, jq_istore3 (M := M_X5_moveTime G) 14 dX5_moveTime_13 rfl, jq_aload0 (M := M_X5_moveTime G) 16 dX5_moveTime_15 rfl, jq_getI (M := M_X5_moveTime G) 5 3 19 dX5_moveTime_16 rfl rfl rfl, jq_icmp_ge (M := M_X5_moveTime G) 57 22 dX5_moveTime_19 (by decide) rfl, jq_aload0 (M := M_X5_moveTime G) 23 dX5_moveTime_22 rfl, jq_getR (M := M_X5_moveTime G) 5 0 26 dX5_moveTime_23 rfl rfl rfl, jq_iload3 (M := M_X5_moveTime G) 27 dX5_moveTime_26 rfl, jq_aald (M := M_X5_moveTime G) 28 dX5_moveTime_27 rfl, jq_aload0 (M := M_X5_moveTime G) 29 dX5_moveTime_28 rfl, jq_getI (M := M_X5_moveTime G) 5 4 32 dX5_moveTime_29 rfl rfl rfl, jq_virt1 (M := M_X5_moveTime G) I_X4_lapsesBy 4 dX5_moveTime_32 rfl rfl rfl rfl, jq_if_eq (M := M_X5_moveTime G) 51 38 dX5_moveTime_35 (by decide) rfl, jq_aload0 (M := M_X5_moveTime G) 39 dX5_moveTime_38 rfl, jq_aload0 (M := M_X5_moveTime G) 40 dX5_moveTime_39 rfl, jq_getR (M := M_X5_moveTime G) 5 0 43 dX5_moveTime_40 rfl rfl rfl, jq_iload3 (M := M_X5_moveTime G) 44 dX5_moveTime_43 rfl, jq_aald (M := M_X5_moveTime G) 45 dX5_moveTime_44 rfl, jq_virt1 (M := M_X5_moveTime G) I_X5_lapse 5 dX5_moveTime_45 rfl rfl rfl rfl, jq_iinc2 (M := M_X5_moveTime G) 1 51 dX5_moveTime_48 (by decide) rfl, jq_iinc3 (M := M_X5_moveTime G) 1 54 dX5_moveTime_51 (by decide) rfl, jq_goto (M := M_X5_moveTime G) 14 dX5_moveTime_54 (by decide), jq_iload2 (M := M_X5_moveTime G) 58 dX5_moveTime_57 rfl, jq_iret (M := M_X5_moveTime G) .int dX5_moveTime_58 rfl, eq_self, jref_10, jref_11, jref_12, jk_v, jk_n, jcat_nil, jcat_i, jcat_r, jcat_l, jcat_d, jc2_i, jc2_r, jc2_n, jc1_i, jc1_r, jrf_some, jwtq_wI, jwtq_wh, jR_wI, jI_wh, jR_wh, List.cons.injEq, Value.int.injEq, Value.ref.injEq, Value.long.injEq, Value.double.injEq, true_and, and_true, and_self, Nat.reduceAdd, Nat.reduceLeDiff, if_true, if_false, ite_true, ite_false, jc1q_i, jc1q_r, jc1q_l, jwtq_wR, jwtq_wY, jI_wI, Nat.reduceEqDiff, and_false, false_and, t0, t1, t2, t3, a1, k1, a2, k2, a3, k3, hn, jnr_i, jsM_2, jsM_wt, jsM_h, tr i (by omega), hc, hv, hcl, PX_X4_lapsesBy, FX_X4_lapsesBy, Pp_X4_lapsesBy, Ff_X4_lapsesBy, PX_X5_lapse, FX_X5_lapse, Pp_X5_lapse, jb_0, jsM_row _ _ _ _ _ (show i < 24 by omega), jsM_T hT]
      simp only [hb, not_false_eq_true, if_true]
      rw [jsM_n (by omega) hb]
      exact ih
theorem met_X5_moveTime {l : Launch} (hl : l.stackTraces = false) (D : va_G) (cy : Nat → ClassId) (G : jgG) : jMet l D cy G I_X5_moveTime (S_X5_moveTime G) :=
  jr_met hl (M_X5_moveTime G) I_X5_moveTime (S_X5_moveTime G) RX5 rfl (by decide) rfl rfl rfl rfl (fun h => (by cases h)) jmAI (fun R h1 h2 => List.forall_mem_cons.mpr ⟨jpokF (r := (RX5, TX5, 8)) rfl jcls5 (by decide) (by decide) jm_117 (fun h => (by cases h)), List.forall_mem_cons.mpr ⟨jpokF (r := (RX5, TX5, 8)) rfl jcls5 (by decide) (by decide) jm_125 (fun h => (by cases h)), List.forall_mem_cons.mpr ⟨jpokF (r := (RX5, TX5, 8)) rfl jcls5 (by decide) (by decide) jm_128 (fun h => (by cases h)), List.forall_mem_cons.mpr ⟨⟨⟨jm_463, jm_12, jd_X4_lapsesBy, ⟨by rw [h1]; exact Nat.le_of_ble_eq_true rfl, by rw [h2]; exact Nat.le_of_ble_eq_true rfl⟩, Or.inl ⟨rfl, jm_460, jm_461, jm_462, rfl, Nat.le_of_ble_eq_true rfl, _, rfl, rfl⟩⟩, met_X4_lapsesBy hl D cy G⟩, List.forall_mem_cons.mpr ⟨⟨⟨jm_467, jm_11, jd_X5_lapse, ⟨by rw [h1]; exact Nat.le_of_ble_eq_true rfl, by rw [h2]; exact Nat.le_of_ble_eq_true rfl⟩, Or.inl ⟨rfl, jm_464, jm_466, jm_3, rfl, Nat.le_of_ble_eq_true rfl, _, rfl, rfl⟩⟩, met_X5_lapse hl D cy G⟩, fun _ h => nomatch h⟩⟩⟩⟩⟩) (fun h => absurd rfl h) (fun _ h => nomatch h) (bd_X5_moveTime G)
/-- the j-th of the first n that have p -/
def jnth (p : Nat → Prop) [DecidablePred p] : Nat → Nat → Nat
  | 0, _ => 0
  | n + 1, j => if p n ∧ jct p n = j then n else jnth p n j
theorem jnth_at {p : Nat → Prop} [DecidablePred p] {i n : Nat} (hi : i < n) (hp : p i) : jnth p n (jct p i) = i := by
  induction n with
  | zero => omega
  | succ n ih =>
    by_cases e : i = n
    · subst e
      exact if_pos ⟨hp, rfl⟩
    · have h1 : jct p (i + 1) ≤ jct p n := jct_mono p (by omega)
      rw [jct_y hp] at h1
      have h2 : jnth p (n + 1) (jct p i) = jnth p n (jct p i) := if_neg (by omega)
      rw [h2, ih (by omega)]
/-- the rows' fields behind dropDoneRows -/
def jvD (σ : jgS) (h : Nat) (j k : Nat) : Int32 := σ.1 (h + 4 + jnth (fun j => ¬ σ.1 (h + 4 + j) 4 = 2) (jn σ h) j) k
theorem jsD_row {σ : jgS} {h i k : Nat} : (jmp σ h (jct (fun j => ¬ σ.1 (h + 4 + j) 4 = 2) (i)) (jvD σ h)).1 (h + 4 + i) k = σ.1 (h + 4 + i) k := by
  have := jct_le (fun j => ¬ σ.1 (h + 4 + j) 4 = 2) i
  exact jmp_out (by omega)
theorem jsD_s {G : jgG} {σ : jgS} {h i : Nat} (hi : i < jn σ h) (hb : ¬ σ.1 (h + 4 + i) 4 = 2) : Ff_X4_copyFrom G (h + 4 + jct (fun j => ¬ σ.1 (h + 4 + j) 4 = 2) (i)) (h + 4 + i) (jmp σ h (jct (fun j => ¬ σ.1 (h + 4 + j) 4 = 2) (i)) (jvD σ h)) = (.inl none, jmp σ h (jct (fun j => ¬ σ.1 (h + 4 + j) 4 = 2) (i + 1)) (jvD σ h)) := by
  rw [jct_y (p := fun j => ¬ σ.1 (h + 4 + j) 4 = 2) hb]
  refine congrArg (Prod.mk _) (jmp_step rfl (fun a k hn' => if_neg hn') (fun k hk => ?_))
  show (if _ then _ else _) = _
  rw [if_pos ⟨rfl, hk⟩, jsD_row]
  unfold jvD
  rw [jnth_at (p := fun j => ¬ σ.1 (h + 4 + j) 4 = 2) hi hb]
def Pp_X5_dropDoneRows (G : jgG) (h : Nat) (σ : jgS) : Prop := jT G σ h
def Ff_X5_dropDoneRows (G : jgG) (h : Nat) (σ : jgS) : jgR := (.inl (some (.int (nI (jn σ h) - nI (jct (fun j => ¬ σ.1 (h + 4 + j) 4 = 2) (jn σ h))))), jwI (jmp σ h (jct (fun j => ¬ σ.1 (h + 4 + j) 4 = 2) (jn σ h)) (jvD σ h)) h 3 (nI (jct (fun j => ¬ σ.1 (h + 4 + j) 4 = 2) (jn σ h))))
def P_X5_dropDoneRows (G : jgG) (As : List Value) (σ : jgS) : Prop := ∃ h : Nat, As = [.ref h] ∧ Pp_X5_dropDoneRows G h σ
def F_X5_dropDoneRows (G : jgG) (As : List Value) (σ : jgS) : jgR := Ff_X5_dropDoneRows G (jaR As 0) σ
def S_X5_dropDoneRows (G : jgG) : jgSpec := jsp (P_X5_dropDoneRows G) (F_X5_dropDoneRows G)
theorem PX_X5_dropDoneRows {G : jgG} {h : Nat} {σ : jgS} : P_X5_dropDoneRows G [.ref h] σ ↔ Pp_X5_dropDoneRows G h σ := by unfold P_X5_dropDoneRows; simp [and_assoc]
theorem FX_X5_dropDoneRows {G : jgG} {h : Nat} {σ : jgS} : F_X5_dropDoneRows G [.ref h] σ = Ff_X5_dropDoneRows G h σ := rfl
def I_X5_dropDoneRows : jgI := (0, 5, yX5_dropDoneRows, cX5_dropDoneRows, 3, (some .int), 0, 1, 21, [])
theorem jd_X5_dropDoneRows : I_X5_dropDoneRows.2.2.1.cls ≠ "java/lang/invoke/MethodHandle" ∧ I_X5_dropDoneRows.2.2.1.cls ≠ "java/lang/invoke/VarHandle" ∧ (parseMethodDescriptor I_X5_dropDoneRows.2.2.1.desc).map (fun d => d.parameters.length) = some I_X5_dropDoneRows.2.2.2.2.2.2.1 := ⟨by decide +kernel, by decide +kernel, by decide +kernel⟩
def M_X5_dropDoneRows (G : jgG) : jgM := (cX5_dropDoneRows, [(11, jpF 5 0), (29, jpF 5 3), (33, jpC I_X4_copyFrom (S_X4_copyFrom G)), (56, jpF 4 4)], [], [], (some .int), false)
theorem bd_X5_dropDoneRows (G : jgG) : ∀ (As : List Value) (σ : jgS) (r : jgR), S_X5_dropDoneRows G As σ r → jhs σ ≤ jhs r.2 ∧ jsl σ ≤ jsl r.2 ∧ (jent As).length ≤ I_X5_dropDoneRows.2.2.2.2.1 ∧ Jr G (M_X5_dropDoneRows G) 0 (jentry As I_X5_dropDoneRows.2.2.2.2.1) [] σ (fun r' => r' = r) := by
  rintro As σ r ⟨⟨h, rfl, hp⟩, rfl⟩
  rw [FX_X5_dropDoneRows]
  refine ⟨(by first | exact Nat.le_refl _ | (show _ ≤ _; simp only [F_X5_dropDoneRows, Ff_X5_dropDoneRows]; (repeat' split) <;> first | exact Nat.le_refl _ | exact Nat.le_succ _ | exact Nat.le_add_right _ _)), (by first | exact Nat.le_refl _ | (show _ ≤ _; simp only [F_X5_dropDoneRows, Ff_X5_dropDoneRows]; (repeat' split) <;> first | exact Nat.le_refl _ | exact Nat.le_succ _ | exact Nat.le_add_right _ _)), by simp [jent, Value.category, I_X5_dropDoneRows], ?_⟩
  show Jr G (M_X5_dropDoneRows G) 0 [some (.ref h), none, none] [] σ (fun r' => r' = Ff_X5_dropDoneRows G h σ)
  obtain ⟨⟨t0, ⟨t1, t2, t3⟩, ⟨⟨a1, k1⟩, ⟨a2, k2⟩, ⟨a3, k3⟩⟩, tr, td⟩, hn, hn24⟩ := hp
  simp only [jq_iconst (M := M_X5_dropDoneRows G) 0 1 dX5_dropDoneRows_0 (by decide) rfl, jq_istore1 (M := M_X5_dropDoneRows G) 2 dX5_dropDoneRows_1 rfl, jq_iconst (M := M_X5_dropDoneRows G) 0 3 dX5_dropDoneRows_2 (by decide) rfl, jq_istore2 (M := M_X5_dropDoneRows G) 4 dX5_dropDoneRows_3 rfl, eq_self, jref_10, jref_11, jref_12, jk_v, jk_n, jcat_nil, jcat_i, jcat_r, jcat_l, jcat_d, jc2_i, jc2_r, jc2_n, jc1_i, jc1_r, jrf_some, jwtq_wI, jwtq_wh, jR_wI, jI_wh, jR_wh, List.cons.injEq, Value.int.injEq, Value.ref.injEq, Value.long.injEq, Value.double.injEq, true_and, and_true, and_self, Nat.reduceAdd, Nat.reduceLeDiff, if_true, if_false, ite_true, ite_false, jc1q_i, jc1q_r, jc1q_l, jwtq_wR, jwtq_wY, jI_wI, Nat.reduceEqDiff, and_false, false_and, t0, t1, t2, t3, a1, k1, a2, k2, a3, k3, hn, jnr_i, jmp_2, jmp_wt, jmp_h]
  refine jst0 (σ' := jmp σ h (jct (fun j => ¬ σ.1 (h + 4 + j) 4 = 2) (0)) (jvD σ h)) (jmp_0 _ _ _) ?_
  refine jloop (P := fun i => Jr G (M_X5_dropDoneRows G) 4 [some (.ref h), some (.int (nI (jct (fun j => ¬ σ.1 (h + 4 + j) 4 = 2) (i)))), some (.int (nI i))] [] (jmp σ h (jct (fun j => ¬ σ.1 (h + 4 + j) 4 = 2) (i)) (jvD σ h)) (fun r' => r' = Ff_X5_dropDoneRows G h σ)) (n := jn σ h) ?_ (fun i hlt ih => ?_)
  · show Jr G (M_X5_dropDoneRows G) 4 _ _ _ _
    rw [jq_iload2 5 dX5_dropDoneRows_4 rfl]
    simp only [jq_iconst (M := M_X5_dropDoneRows G) 0 1 dX5_dropDoneRows_0 (by decide) rfl, jq_istore1 (M := M_X5_dropDoneRows G) 2 dX5_dropDoneRows_1 rfl, jq_iconst (M := M_X5_dropDoneRows G) 0 3 dX5_dropDoneRows_2 (by decide) rfl, jq_istore2 (M := M_X5_dropDoneRows G) 4 dX5_dropDoneRows_3 rfl, jq_aload0 (M := M_X5_dropDoneRows G) 6 dX5_dropDoneRows_5 rfl, jq_getI (M := M_X5_dropDoneRows G) 5 3 9 dX5_dropDoneRows_6 rfl rfl rfl, jq_icmp_ge (M := M_X5_dropDoneRows G) 49 12 dX5_dropDoneRows_9 (by decide) rfl, jq_aload0 (M := M_X5_dropDoneRows G) 13 dX5_dropDoneRows_12 rfl, jq_getR (M := M_X5_dropDoneRows G) 5 0 16 dX5_dropDoneRows_13 rfl rfl rfl, jq_iload2 (M := M_X5_dropDoneRows G) 17 dX5_dropDoneRows_16 rfl, jq_aald (M := M_X5_dropDoneRows G) 18 dX5_dropDoneRows_17 rfl, jq_getI (M := M_X5_dropDoneRows G) 4 4 21 dX5_dropDoneRows_18 rfl rfl rfl, jq_iconst (M := M_X5_dropDoneRows G) 2 22 dX5_dropDoneRows_21 (by decide) rfl, jq_icmp_eq (M := M_X5_dropDoneRows G) 43 25 dX5_dropDoneRows_22 (by decide) rfl, jq_aload0 (M := M_X5_dropDoneRows G) 26 dX5_dropDoneRows_25 rfl, jq_getR (M := M_X5_dropDoneRows G) 5 0 29 dX5_dropDoneRows_26 rfl rfl rfl, jq_iload1 (M := M_X5_dropDoneRows G) 30 dX5_dropDoneRows_29 rfl, jq_aald (M := M_X5_dropDoneRows G) 31 dX5_dropDoneRows_30 rfl, jq_aload0 (M := M_X5_dropDoneRows G) 32 dX5_dropDoneRows_31 rfl, jq_getR (M := M_X5_dropDoneRows G) 5 0 35 dX5_dropDoneRows_32 rfl rfl rfl, jq_iload2 (M := M_X5_dropDoneRows G) 36 dX5_dropDoneRows_35 rfl, jq_aald (M := M_X5_dropDoneRows G) 37 dX5_dropDoneRows_36 rfl, jq_virt1 (M := M_X5_dropDoneRows G) I_X4_copyFrom 4 dX5_dropDoneRows_37 rfl rfl rfl rfl, jq_iinc1 (M := M_X5_dropDoneRows G) 1 43 dX5_dropDoneRows_40 (by decide) rfl, jq_iinc2 (M := M_X5_dropDoneRows G) 1 46 dX5_dropDoneRows_43 (by decide) rfl, jq_goto (M := M_X5_dropDoneRows G) 4 dX5_dropDoneRows_46 (by decide), jq_aload0 (M := M_X5_dropDoneRows G) 50 dX5_dropDoneRows_49 rfl, jq_getI (M := M_X5_dropDoneRows G) 5 3 53 dX5_dropDoneRows_50 rfl rfl rfl, jq_iload1 (M := M_X5_dropDoneRows G) 54 dX5_dropDoneRows_53 rfl, jq_isub (M := M_X5_dropDoneRows G) 55 dX5_dropDoneRows_54 rfl, jq_istore2 (M := M_X5_dropDoneRows G) 56 dX5_dropDoneRows_55 rfl, jq_aload0 (M := M_X5_dropDoneRows G) 57 dX5_dropDoneRows_56 rfl, jq_iload1 (M := M_X5_dropDoneRows G) 58 dX5_dropDoneRows_57 rfl, jq_putI (M := M_X5_dropDoneRows G) 5 3 61 dX5_dropDoneRows_58 rfl rfl rfl, jq_iload2 (M := M_X5_dropDoneRows G) 62 dX5_dropDoneRows_61 rfl, jq_iret (M := M_X5_dropDoneRows G) .int dX5_dropDoneRows_62 rfl, eq_self, jref_10, jref_11, jref_12, jk_v, jk_n, jcat_nil, jcat_i, jcat_r, jcat_l, jcat_d, jc2_i, jc2_r, jc2_n, jc1_i, jc1_r, jrf_some, jwtq_wI, jwtq_wh, jR_wI, jI_wh, jR_wh, List.cons.injEq, Value.int.injEq, Value.ref.injEq, Value.long.injEq, Value.double.injEq, true_and, and_true, and_self, Nat.reduceAdd, Nat.reduceLeDiff, if_true, if_false, ite_true, ite_false, jc1q_i, jc1q_r, jc1q_l, jwtq_wR, jwtq_wY, jI_wI, Nat.reduceEqDiff, and_false, false_and, t0, t1, t2, t3, a1, k1, a2, k2, a3, k3, hn, jnr_i, jmp_2, jmp_wt, jmp_h, Int32.le_refl]
    rfl
  · show Jr G (M_X5_dropDoneRows G) 4 _ _ _ _
    rw [← nI_1] at ih
    have hc : ¬ nI (jn σ h) ≤ nI i := nI_ge hlt (by omega)
    have hv : vp_in (nI i) 24 := vp_in_nI (by omega) (by decide)
    have hcl : (nI i).toNatClampNeg = i := nI_clamp (by omega)
    have hq := jct_le (fun j => ¬ σ.1 (h + 4 + j) 4 = 2) i
    have hqv : vp_in (nI (jct (fun j => ¬ σ.1 (h + 4 + j) 4 = 2) (i))) 24 := vp_in_nI (by omega) (by decide)
    have hqc : (nI (jct (fun j => ¬ σ.1 (h + 4 + j) 4 = 2) (i))).toNatClampNeg = jct (fun j => ¬ σ.1 (h + 4 + j) 4 = 2) (i) := nI_clamp (by omega)
    by_cases hb : ¬ σ.1 (h + 4 + i) 4 = 2
    · have hl := jsD_s (G := G) hlt hb
      rw [jct_y (p := fun j => ¬ σ.1 (h + 4 + j) 4 = 2) hb, ← nI_1] at ih
      rw [jct_y (p := fun j => ¬ σ.1 (h + 4 + j) 4 = 2) hb] at hl
      rw [jq_iload2 5 dX5_dropDoneRows_4 rfl]
      simp only [jq_iconst (M := M_X5_dropDoneRows G) 0 1 dX5_dropDoneRows_0 (by decide) rfl, jq_istore1 (M := M_X5_dropDoneRows G) 2 dX5_dropDoneRows_1 rfl, jq_iconst (M := M_X5_dropDoneRows G) 0 3 dX5_dropDoneRows_2 (by decide) rfl, jq_istore2 (M := M_X5_dropDoneRows G) 4 dX5_dropDoneRows_3 rfl, jq_aload0 (M := M_X5_dropDoneRows G) 6 dX5_dropDoneRows_5 rfl, jq_getI (M := M_X5_dropDoneRows G) 5 3 9 dX5_dropDoneRows_6 rfl rfl rfl, jq_icmp_ge (M := M_X5_dropDoneRows G) 49 12 dX5_dropDoneRows_9 (by decide) rfl, jq_aload0 (M := M_X5_dropDoneRows G) 13 dX5_dropDoneRows_12 rfl, jq_getR (M := M_X5_dropDoneRows G) 5 0 16 dX5_dropDoneRows_13 rfl rfl rfl, jq_iload2 (M := M_X5_dropDoneRows G) 17 dX5_dropDoneRows_16 rfl, jq_aald (M := M_X5_dropDoneRows G) 18 dX5_dropDoneRows_17 rfl, jq_getI (M := M_X5_dropDoneRows G) 4 4 21 dX5_dropDoneRows_18 rfl rfl rfl, jq_iconst (M := M_X5_dropDoneRows G) 2 22 dX5_dropDoneRows_21 (by decide) rfl, jq_icmp_eq (M := M_X5_dropDoneRows G) 43 25 dX5_dropDoneRows_22 (by decide) rfl, jq_aload0 (M := M_X5_dropDoneRows G) 26 dX5_dropDoneRows_25 rfl, jq_getR (M := M_X5_dropDoneRows G) 5 0 29 dX5_dropDoneRows_26 rfl rfl rfl, jq_iload1 (M := M_X5_dropDoneRows G) 30 dX5_dropDoneRows_29 rfl, jq_aald (M := M_X5_dropDoneRows G) 31 dX5_dropDoneRows_30 rfl, jq_aload0 (M := M_X5_dropDoneRows G) 32 dX5_dropDoneRows_31 rfl, jq_getR (M := M_X5_dropDoneRows G) 5 0 35 dX5_dropDoneRows_32 rfl rfl rfl, jq_iload2 (M := M_X5_dropDoneRows G) 36 dX5_dropDoneRows_35 rfl, jq_aald (M := M_X5_dropDoneRows G) 37 dX5_dropDoneRows_36 rfl, jq_virt1 (M := M_X5_dropDoneRows G) I_X4_copyFrom 4 dX5_dropDoneRows_37 rfl rfl rfl rfl, jq_iinc1 (M := M_X5_dropDoneRows G) 1 43 dX5_dropDoneRows_40 (by decide) rfl, jq_iinc2 (M := M_X5_dropDoneRows G) 1 46 dX5_dropDoneRows_43 (by decide) rfl, jq_goto (M := M_X5_dropDoneRows G) 4 dX5_dropDoneRows_46 (by decide), jq_aload0 (M := M_X5_dropDoneRows G) 50 dX5_dropDoneRows_49 rfl, jq_getI (M := M_X5_dropDoneRows G) 5 3 53 dX5_dropDoneRows_50 rfl rfl rfl, jq_iload1 (M := M_X5_dropDoneRows G) 54 dX5_dropDoneRows_53 rfl, jq_isub (M := M_X5_dropDoneRows G) 55 dX5_dropDoneRows_54 rfl, jq_istore2 (M := M_X5_dropDoneRows G) 56 dX5_dropDoneRows_55 rfl, jq_aload0 (M := M_X5_dropDoneRows G) 57 dX5_dropDoneRows_56 rfl, jq_iload1 (M := M_X5_dropDoneRows G) 58 dX5_dropDoneRows_57 rfl, jq_putI (M := M_X5_dropDoneRows G) 5 3 61 dX5_dropDoneRows_58 rfl rfl rfl, jq_iload2 (M := M_X5_dropDoneRows G) 62 dX5_dropDoneRows_61 rfl, jq_iret (M := M_X5_dropDoneRows G) .int dX5_dropDoneRows_62 rfl, eq_self, jref_10, jref_11, jref_12, jk_v, jk_n, jcat_nil, jcat_i, jcat_r, jcat_l, jcat_d, jc2_i, jc2_r, jc2_n, jc1_i, jc1_r, jrf_some, jwtq_wI, jwtq_wh, jR_wI, jI_wh, jR_wh, List.cons.injEq, Value.int.injEq, Value.ref.injEq, Value.long.injEq, Value.double.injEq, true_and, and_true, and_self, Nat.reduceAdd, Nat.reduceLeDiff, if_true, if_false, ite_true, ite_false, jc1q_i, jc1q_r, jc1q_l, jwtq_wR, jwtq_wY, jI_wI, Nat.reduceEqDiff, and_false, false_and, t0, t1, t2, t3, a1, k1, a2, k2, a3, k3, hn, jnr_i, jmp_2, jmp_wt, jmp_h, tr i (by omega), hc, hv, hcl, PX_X4_copyFrom, FX_X4_copyFrom, Pp_X4_copyFrom, jsD_row, hqv, hqc, tr _ (show jct (fun j => ¬ σ.1 (h + 4 + j) 4 = 2) (i) < 24 by omega)]
      simp only [hb, if_false, hl, eq_self, jref_10, jref_11, jref_12, jk_v, jk_n, jcat_nil, jcat_i, jcat_r, jcat_l, jcat_d, jc2_i, jc2_r, jc2_n, jc1_i, jc1_r, jrf_some, jwtq_wI, jwtq_wh, jR_wI, jI_wh, jR_wh, List.cons.injEq, Value.int.injEq, Value.ref.injEq, Value.long.injEq, Value.double.injEq, true_and, and_true, and_self, Nat.reduceAdd, Nat.reduceLeDiff, if_true, if_false, ite_true, ite_false, jc1q_i, jc1q_r, jc1q_l, jwtq_wR, jwtq_wY, jI_wI, Nat.reduceEqDiff, and_false, false_and, jq_iconst (M := M_X5_dropDoneRows G) 0 1 dX5_dropDoneRows_0 (by decide) rfl, jq_istore1 (M := M_X5_dropDoneRows G) 2 dX5_dropDoneRows_1 rfl, jq_iconst (M := M_X5_dropDoneRows G) 0 3 dX5_dropDoneRows_2 (by decide) rfl, jq_istore2 (M := M_X5_dropDoneRows G) 4 dX5_dropDoneRows_3 rfl, jq_aload0 (M := M_X5_dropDoneRows G) 6 dX5_dropDoneRows_5 rfl, jq_getI (M := M_X5_dropDoneRows G) 5 3 9 dX5_dropDoneRows_6 rfl rfl rfl, jq_icmp_ge (M := M_X5_dropDoneRows G) 49 12 dX5_dropDoneRows_9 (by decide) rfl, jq_aload0 (M := M_X5_dropDoneRows G) 13 dX5_dropDoneRows_12 rfl, jq_getR (M := M_X5_dropDoneRows G) 5 0 16 dX5_dropDoneRows_13 rfl rfl rfl, jq_iload2 (M := M_X5_dropDoneRows G) 17 dX5_dropDoneRows_16 rfl, jq_aald (M := M_X5_dropDoneRows G) 18 dX5_dropDoneRows_17 rfl, jq_getI (M := M_X5_dropDoneRows G) 4 4 21 dX5_dropDoneRows_18 rfl rfl rfl, jq_iconst (M := M_X5_dropDoneRows G) 2 22 dX5_dropDoneRows_21 (by decide) rfl, jq_icmp_eq (M := M_X5_dropDoneRows G) 43 25 dX5_dropDoneRows_22 (by decide) rfl, jq_aload0 (M := M_X5_dropDoneRows G) 26 dX5_dropDoneRows_25 rfl, jq_getR (M := M_X5_dropDoneRows G) 5 0 29 dX5_dropDoneRows_26 rfl rfl rfl, jq_iload1 (M := M_X5_dropDoneRows G) 30 dX5_dropDoneRows_29 rfl, jq_aald (M := M_X5_dropDoneRows G) 31 dX5_dropDoneRows_30 rfl, jq_aload0 (M := M_X5_dropDoneRows G) 32 dX5_dropDoneRows_31 rfl, jq_getR (M := M_X5_dropDoneRows G) 5 0 35 dX5_dropDoneRows_32 rfl rfl rfl, jq_iload2 (M := M_X5_dropDoneRows G) 36 dX5_dropDoneRows_35 rfl, jq_aald (M := M_X5_dropDoneRows G) 37 dX5_dropDoneRows_36 rfl, jq_virt1 (M := M_X5_dropDoneRows G) I_X4_copyFrom 4 dX5_dropDoneRows_37 rfl rfl rfl rfl, jq_iinc1 (M := M_X5_dropDoneRows G) 1 43 dX5_dropDoneRows_40 (by decide) rfl, jq_iinc2 (M := M_X5_dropDoneRows G) 1 46 dX5_dropDoneRows_43 (by decide) rfl, jq_goto (M := M_X5_dropDoneRows G) 4 dX5_dropDoneRows_46 (by decide), jq_aload0 (M := M_X5_dropDoneRows G) 50 dX5_dropDoneRows_49 rfl, jq_getI (M := M_X5_dropDoneRows G) 5 3 53 dX5_dropDoneRows_50 rfl rfl rfl, jq_iload1 (M := M_X5_dropDoneRows G) 54 dX5_dropDoneRows_53 rfl, jq_isub (M := M_X5_dropDoneRows G) 55 dX5_dropDoneRows_54 rfl, jq_istore2 (M := M_X5_dropDoneRows G) 56 dX5_dropDoneRows_55 rfl, jq_aload0 (M := M_X5_dropDoneRows G) 57 dX5_dropDoneRows_56 rfl, jq_iload1 (M := M_X5_dropDoneRows G) 58 dX5_dropDoneRows_57 rfl, jq_putI (M := M_X5_dropDoneRows G) 5 3 61 dX5_dropDoneRows_58 rfl rfl rfl, jq_iload2 (M := M_X5_dropDoneRows G) 62 dX5_dropDoneRows_61 rfl, jq_iret (M := M_X5_dropDoneRows G) .int dX5_dropDoneRows_62 rfl]
      exact ih
    · rw [jct_n (p := fun j => ¬ σ.1 (h + 4 + j) 4 = 2) hb] at ih
      have hb2 : σ.1 (h + 4 + i) 4 = 2 := Decidable.not_not.mp hb
      rw [jq_iload2 5 dX5_dropDoneRows_4 rfl]
      simp only [jq_iconst (M := M_X5_dropDoneRows G) 0 1 dX5_dropDoneRows_0 (by decide) rfl, jq_istore1 (M := M_X5_dropDoneRows G) 2 dX5_dropDoneRows_1 rfl, jq_iconst (M := M_X5_dropDoneRows G) 0 3 dX5_dropDoneRows_2 (by decide) rfl, jq_istore2 (M := M_X5_dropDoneRows G) 4 dX5_dropDoneRows_3 rfl, jq_aload0 (M := M_X5_dropDoneRows G) 6 dX5_dropDoneRows_5 rfl, jq_getI (M := M_X5_dropDoneRows G) 5 3 9 dX5_dropDoneRows_6 rfl rfl rfl, jq_icmp_ge (M := M_X5_dropDoneRows G) 49 12 dX5_dropDoneRows_9 (by decide) rfl, jq_aload0 (M := M_X5_dropDoneRows G) 13 dX5_dropDoneRows_12 rfl, jq_getR (M := M_X5_dropDoneRows G) 5 0 16 dX5_dropDoneRows_13 rfl rfl rfl, jq_iload2 (M := M_X5_dropDoneRows G) 17 dX5_dropDoneRows_16 rfl, jq_aald (M := M_X5_dropDoneRows G) 18 dX5_dropDoneRows_17 rfl, jq_getI (M := M_X5_dropDoneRows G) 4 4 21 dX5_dropDoneRows_18 rfl rfl rfl, jq_iconst (M := M_X5_dropDoneRows G) 2 22 dX5_dropDoneRows_21 (by decide) rfl, jq_icmp_eq (M := M_X5_dropDoneRows G) 43 25 dX5_dropDoneRows_22 (by decide) rfl, jq_aload0 (M := M_X5_dropDoneRows G) 26 dX5_dropDoneRows_25 rfl, jq_getR (M := M_X5_dropDoneRows G) 5 0 29 dX5_dropDoneRows_26 rfl rfl rfl, jq_iload1 (M := M_X5_dropDoneRows G) 30 dX5_dropDoneRows_29 rfl, jq_aald (M := M_X5_dropDoneRows G) 31 dX5_dropDoneRows_30 rfl, jq_aload0 (M := M_X5_dropDoneRows G) 32 dX5_dropDoneRows_31 rfl, jq_getR (M := M_X5_dropDoneRows G) 5 0 35 dX5_dropDoneRows_32 rfl rfl rfl, jq_iload2 (M := M_X5_dropDoneRows G) 36 dX5_dropDoneRows_35 rfl, jq_aald (M := M_X5_dropDoneRows G) 37 dX5_dropDoneRows_36 rfl, jq_virt1 (M := M_X5_dropDoneRows G) I_X4_copyFrom 4 dX5_dropDoneRows_37 rfl rfl rfl rfl, jq_iinc1 (M := M_X5_dropDoneRows G) 1 43 dX5_dropDoneRows_40 (by decide) rfl, jq_iinc2 (M := M_X5_dropDoneRows G) 1 46 dX5_dropDoneRows_43 (by decide) rfl, jq_goto (M := M_X5_dropDoneRows G) 4 dX5_dropDoneRows_46 (by decide), jq_aload0 (M := M_X5_dropDoneRows G) 50 dX5_dropDoneRows_49 rfl, jq_getI (M := M_X5_dropDoneRows G) 5 3 53 dX5_dropDoneRows_50 rfl rfl rfl, jq_iload1 (M := M_X5_dropDoneRows G) 54 dX5_dropDoneRows_53 rfl, jq_isub (M := M_X5_dropDoneRows G) 55 dX5_dropDoneRows_54 rfl, jq_istore2 (M := M_X5_dropDoneRows G) 56 dX5_dropDoneRows_55 rfl, jq_aload0 (M := M_X5_dropDoneRows G) 57 dX5_dropDoneRows_56 rfl, jq_iload1 (M := M_X5_dropDoneRows G) 58 dX5_dropDoneRows_57 rfl, jq_putI (M := M_X5_dropDoneRows G) 5 3 61 dX5_dropDoneRows_58 rfl rfl rfl, jq_iload2 (M := M_X5_dropDoneRows G) 62 dX5_dropDoneRows_61 rfl, jq_iret (M := M_X5_dropDoneRows G) .int dX5_dropDoneRows_62 rfl, eq_self, jref_10, jref_11, jref_12, jk_v, jk_n, jcat_nil, jcat_i, jcat_r, jcat_l, jcat_d, jc2_i, jc2_r, jc2_n, jc1_i, jc1_r, jrf_some, jwtq_wI, jwtq_wh, jR_wI, jI_wh, jR_wh, List.cons.injEq, Value.int.injEq, Value.ref.injEq, Value.long.injEq, Value.double.injEq, true_and, and_true, and_self, Nat.reduceAdd, Nat.reduceLeDiff, if_true, if_false, ite_true, ite_false, jc1q_i, jc1q_r, jc1q_l, jwtq_wR, jwtq_wY, jI_wI, Nat.reduceEqDiff, and_false, false_and, t0, t1, t2, t3, a1, k1, a2, k2, a3, k3, hn, jnr_i, jmp_2, jmp_wt, jmp_h, tr i (by omega), hc, hv, hcl, PX_X4_copyFrom, FX_X4_copyFrom, Pp_X4_copyFrom, jsD_row, hqv, hqc, tr _ (show jct (fun j => ¬ σ.1 (h + 4 + j) 4 = 2) (i) < 24 by omega)]
      simp only [hb2, if_true]
      exact ih
theorem met_X5_dropDoneRows {l : Launch} (hl : l.stackTraces = false) (D : va_G) (cy : Nat → ClassId) (G : jgG) : jMet l D cy G I_X5_dropDoneRows (S_X5_dropDoneRows G) :=
  jr_met hl (M_X5_dropDoneRows G) I_X5_dropDoneRows (S_X5_dropDoneRows G) RX5 rfl (by decide) rfl rfl rfl rfl (fun h => (by cases h)) jmAI (fun R h1 h2 => List.forall_mem_cons.mpr ⟨jpokF (r := (RX5, TX5, 8)) rfl jcls5 (by decide) (by decide) jm_117 (fun h => (by cases h)), List.forall_mem_cons.mpr ⟨jpokF (r := (RX5, TX5, 8)) rfl jcls5 (by decide) (by decide) jm_125 (fun h => (by cases h)), List.forall_mem_cons.mpr ⟨⟨⟨jm_252, jm_12, jd_X4_copyFrom, ⟨by rw [h1]; exact Nat.le_of_ble_eq_true rfl, by rw [h2]; exact Nat.le_of_ble_eq_true rfl⟩, Or.inl ⟨rfl, jm_249, jm_250, jm_251, rfl, Nat.le_of_ble_eq_true rfl, _, rfl, rfl⟩⟩, met_X4_copyFrom hl D cy G⟩, List.forall_mem_cons.mpr ⟨jpokF (r := (RX4, TX4, 9)) rfl jcls4 (by decide) (by decide) jm_61 (fun h => (by cases h)), fun _ h => nomatch h⟩⟩⟩⟩) (fun h => absurd rfl h) (fun _ h => nomatch h) (bd_X5_dropDoneRows G)
/-- a row begun -/
def jbg (σ : jgS) (a : Nat) (k u m t : Int32) : jgS := (fun a' k' => if a' = a ∧ k' < 9 then (if k' = 0 then k else if k' = 1 then u else if k' = 2 then m else if k' = 3 then t else if k' = 4 then 0 else if k' = 5 then -1 else if k' = 6 then -1 else 0) else σ.1 a' k', σ.2)
theorem jbg_F (G : jgG) (σ : jgS) (a : Nat) (k u m t : Int32) : Ff_X4_begin G a k u m t σ = (.inl none, jbg σ a k u m t) := rfl
theorem jbg_2 (σ : jgS) (a : Nat) (k u m t : Int32) : (jbg σ a k u m t).2 = σ.2 := rfl
theorem jbg_wt (σ : jgS) (a : Nat) (k u m t : Int32) : jwt (jbg σ a k u m t) = jwt σ := id rfl
theorem jbg_out {σ : jgS} {a : Nat} {k u m t : Int32} {b j : Nat} (hn : ¬ (b = a ∧ j < 9)) : (jbg σ a k u m t).1 b j = σ.1 b j := if_neg hn
def Pp_X5_addRow (G : jgG) (h : Nat) (k : Int32) (u : Int32) (σ : jgS) : Prop := jT G σ h ∧ jn σ h < 24
def Ff_X5_addRow (G : jgG) (h : Nat) (k : Int32) (u : Int32) (σ : jgS) : jgR := (.inl none, jwI (jwI (jbg σ (h + 4 + jn σ h) k u (σ.1 h 5) (σ.1 h 4)) h 3 (nI (jn σ h) + 1)) h 5 (σ.1 h 5 + 1))
def P_X5_addRow (G : jgG) (As : List Value) (σ : jgS) : Prop := ∃ h : Nat, ∃ k : Int32, ∃ u : Int32, As = [.ref h, .int k, .int u] ∧ Pp_X5_addRow G h k u σ
def F_X5_addRow (G : jgG) (As : List Value) (σ : jgS) : jgR := Ff_X5_addRow G (jaR As 0) (jaI As 1) (jaI As 2) σ
def S_X5_addRow (G : jgG) : jgSpec := jsp (P_X5_addRow G) (F_X5_addRow G)
theorem PX_X5_addRow {G : jgG} {h : Nat} {k : Int32} {u : Int32} {σ : jgS} : P_X5_addRow G [.ref h, .int k, .int u] σ ↔ Pp_X5_addRow G h k u σ := by unfold P_X5_addRow; simp [and_assoc]
theorem FX_X5_addRow {G : jgG} {h : Nat} {k : Int32} {u : Int32} {σ : jgS} : F_X5_addRow G [.ref h, .int k, .int u] σ = Ff_X5_addRow G h k u σ := rfl
def I_X5_addRow : jgI := (0, 5, yX5_addRow, cX5_addRow, 3, none, 2, 1, 24, [])
theorem jd_X5_addRow : I_X5_addRow.2.2.1.cls ≠ "java/lang/invoke/MethodHandle" ∧ I_X5_addRow.2.2.1.cls ≠ "java/lang/invoke/VarHandle" ∧ (parseMethodDescriptor I_X5_addRow.2.2.1.desc).map (fun d => d.parameters.length) = some I_X5_addRow.2.2.2.2.2.2.1 := ⟨by decide +kernel, by decide +kernel, by decide +kernel⟩
def M_X5_addRow (G : jgG) : jgM := (cX5_addRow, [(11, jpF 5 0), (29, jpF 5 3), (40, jpF 5 4), (43, jpF 5 5), (52, jpC I_X4_begin (S_X4_begin G))], [], [], none, false)
theorem bd_X5_addRow (G : jgG) : ∀ (As : List Value) (σ : jgS) (r : jgR), S_X5_addRow G As σ r → jhs σ ≤ jhs r.2 ∧ jsl σ ≤ jsl r.2 ∧ (jent As).length ≤ I_X5_addRow.2.2.2.2.1 ∧ Jr G (M_X5_addRow G) 0 (jentry As I_X5_addRow.2.2.2.2.1) [] σ (fun r' => r' = r) := by
  rintro As σ r ⟨⟨h, k, u, rfl, hp⟩, rfl⟩
  rw [FX_X5_addRow]
  refine ⟨(by first | exact Nat.le_refl _ | (show _ ≤ _; simp only [F_X5_addRow, Ff_X5_addRow]; (repeat' split) <;> first | exact Nat.le_refl _ | exact Nat.le_succ _ | exact Nat.le_add_right _ _)), (by first | exact Nat.le_refl _ | (show _ ≤ _; simp only [F_X5_addRow, Ff_X5_addRow]; (repeat' split) <;> first | exact Nat.le_refl _ | exact Nat.le_succ _ | exact Nat.le_add_right _ _)), by simp [jent, Value.category, I_X5_addRow], ?_⟩
  show Jr G (M_X5_addRow G) 0 [some (.ref h), some (.int k), some (.int u)] [] σ (fun r' => r' = Ff_X5_addRow G h k u σ)
  obtain ⟨hp, hn9⟩ := hp
  obtain ⟨⟨t0, ⟨t1, t2, t3⟩, ⟨⟨a1, k1⟩, ⟨a2, k2⟩, ⟨a3, k3⟩⟩, tr, td⟩, hn, hn24⟩ := hp
  have h24 : ¬ (24 : Int32) ≤ nI (jn σ h) := nI_ge (b := 24) hn9 (by decide)
  have hv : vp_in (nI (jn σ h)) 24 := vp_in_nI hn9 (by decide)
  have hcl : (nI (jn σ h)).toNatClampNeg = jn σ h := nI_clamp (by omega)
  have ho : ∀ j, (jbg σ (h + 4 + jn σ h) k u (σ.1 h 5) (σ.1 h 4)).1 h j = σ.1 h j := fun j => jbg_out (by omega)
  simp only [jq_aload0 (M := M_X5_addRow G) 1 dX5_addRow_0 rfl, jq_getI (M := M_X5_addRow G) 5 3 4 dX5_addRow_1 rfl rfl rfl, jq_bipush (M := M_X5_addRow G) 24 6 dX5_addRow_4 (by decide) rfl, jq_icmp_ge (M := M_X5_addRow G) 51 9 dX5_addRow_6 (by decide) rfl, jq_aload0 (M := M_X5_addRow G) 10 dX5_addRow_9 rfl, jq_getR (M := M_X5_addRow G) 5 0 13 dX5_addRow_10 rfl rfl rfl, jq_aload0 (M := M_X5_addRow G) 14 dX5_addRow_13 rfl, jq_getI (M := M_X5_addRow G) 5 3 17 dX5_addRow_14 rfl rfl rfl, jq_aald (M := M_X5_addRow G) 18 dX5_addRow_17 rfl, jq_iload1 (M := M_X5_addRow G) 19 dX5_addRow_18 rfl, jq_iload2 (M := M_X5_addRow G) 20 dX5_addRow_19 rfl, jq_aload0 (M := M_X5_addRow G) 21 dX5_addRow_20 rfl, jq_getI (M := M_X5_addRow G) 5 5 24 dX5_addRow_21 rfl rfl rfl, jq_aload0 (M := M_X5_addRow G) 25 dX5_addRow_24 rfl, jq_getI (M := M_X5_addRow G) 5 4 28 dX5_addRow_25 rfl rfl rfl, jq_virt4 (M := M_X5_addRow G) I_X4_begin 4 dX5_addRow_28 rfl rfl rfl rfl, jq_aload0 (M := M_X5_addRow G) 32 dX5_addRow_31 rfl, jq_dupR (M := M_X5_addRow G) 33 dX5_addRow_32 rfl, jq_dupI (M := M_X5_addRow G) 33 dX5_addRow_32 rfl, jq_getI (M := M_X5_addRow G) 5 3 36 dX5_addRow_33 rfl rfl rfl, jq_iconst (M := M_X5_addRow G) 1 37 dX5_addRow_36 (by decide) rfl, jq_iadd (M := M_X5_addRow G) 38 dX5_addRow_37 rfl, jq_putI (M := M_X5_addRow G) 5 3 41 dX5_addRow_38 rfl rfl rfl, jq_aload0 (M := M_X5_addRow G) 42 dX5_addRow_41 rfl, jq_dupR (M := M_X5_addRow G) 43 dX5_addRow_42 rfl, jq_dupI (M := M_X5_addRow G) 43 dX5_addRow_42 rfl, jq_getI (M := M_X5_addRow G) 5 5 46 dX5_addRow_43 rfl rfl rfl, jq_iconst (M := M_X5_addRow G) 1 47 dX5_addRow_46 (by decide) rfl, jq_iadd (M := M_X5_addRow G) 48 dX5_addRow_47 rfl, jq_putI (M := M_X5_addRow G) 5 5 51 dX5_addRow_48 rfl rfl rfl, jq_ret (M := M_X5_addRow G) dX5_addRow_51 rfl, eq_self, jref_10, jref_11, jref_12, jk_v, jk_n, jcat_nil, jcat_i, jcat_r, jcat_l, jcat_d, jc2_i, jc2_r, jc2_n, jc1_i, jc1_r, jrf_some, jwtq_wI, jwtq_wh, jR_wI, jI_wh, jR_wh, List.cons.injEq, Value.int.injEq, Value.ref.injEq, Value.long.injEq, Value.double.injEq, true_and, and_true, and_self, Nat.reduceAdd, Nat.reduceLeDiff, if_true, if_false, ite_true, ite_false, jc1q_i, jc1q_r, jc1q_l, jwtq_wR, jwtq_wY, jI_wI, Nat.reduceEqDiff, and_false, false_and, t0, t1, t2, t3, a1, k1, a2, k2, a3, k3, hn, tr _ hn9, h24, hv, hcl, PX_X4_begin, FX_X4_begin, Pp_X4_begin, jbg_F, jbg_2, jbg_wt, ho, Ff_X5_addRow]
theorem met_X5_addRow {l : Launch} (hl : l.stackTraces = false) (D : va_G) (cy : Nat → ClassId) (G : jgG) : jMet l D cy G I_X5_addRow (S_X5_addRow G) :=
  jr_met hl (M_X5_addRow G) I_X5_addRow (S_X5_addRow G) RX5 rfl (by decide) rfl rfl rfl rfl (fun h => (by cases h)) jmAI (fun R h1 h2 => List.forall_mem_cons.mpr ⟨jpokF (r := (RX5, TX5, 8)) rfl jcls5 (by decide) (by decide) jm_117 (fun h => (by cases h)), List.forall_mem_cons.mpr ⟨jpokF (r := (RX5, TX5, 8)) rfl jcls5 (by decide) (by decide) jm_125 (fun h => (by cases h)), List.forall_mem_cons.mpr ⟨jpokF (r := (RX5, TX5, 8)) rfl jcls5 (by decide) (by decide) jm_128 (fun h => (by cases h)), List.forall_mem_cons.mpr ⟨jpokF (r := (RX5, TX5, 8)) rfl jcls5 (by decide) (by decide) jm_130 (fun h => (by cases h)), List.forall_mem_cons.mpr ⟨⟨⟨jm_502, jm_12, jd_X4_begin, ⟨by rw [h1]; exact Nat.le_of_ble_eq_true rfl, by rw [h2]; exact Nat.le_of_ble_eq_true rfl⟩, Or.inl ⟨rfl, jm_499, jm_500, jm_501, rfl, Nat.le_of_ble_eq_true rfl, _, rfl, rfl⟩⟩, met_X4_begin hl D cy G⟩, fun _ h => nomatch h⟩⟩⟩⟩⟩) (fun h => absurd rfl h) (fun _ h => nomatch h) (bd_X5_addRow G)
/-- a table copied: rows, readers, settings, counters, up to where -/
def jcp (σ : jgS) (g h i r s t : Nat) : jgS := (fun a k => if (h + 4 ≤ a ∧ a < h + 4 + i ∧ k < 9) ∨ (h + 28 ≤ a ∧ a < h + 28 + r ∧ k < 4) ∨ (a = h + 3 ∧ k < s) ∨ (a = h ∧ 3 ≤ k ∧ k < 3 + t) then σ.1 (a + g - h) k else σ.1 a k, σ.2)
theorem jcp_2 (σ : jgS) (g h i r s t : Nat) : (jcp σ g h i r s t).2 = σ.2 := rfl
theorem jcp_wt (σ : jgS) (g h i r s t : Nat) : jwt (jcp σ g h i r s t) = jwt σ := id rfl
theorem jcp_0 (σ : jgS) (g h : Nat) : jcp σ g h 0 0 0 0 = σ := by
  refine Prod.ext (funext fun a => funext fun k => ?_) rfl
  exact if_neg (by omega)
theorem jcp_src {σ : jgS} {g h i r s t : Nat} (hd : h + 32 ≤ g ∨ g + 32 ≤ h) (hi : i ≤ 24) (hr : r ≤ 4) {b : Nat} (hb : b < 32) (k : Nat) : (jcp σ g h i r s t).1 (g + b) k = σ.1 (g + b) k := if_neg (by omega)
theorem jcp_row (G : jgG) {σ : jgS} {g h i : Nat} (hd : h + 32 ≤ g ∨ g + 32 ≤ h) (hi : i < 24) : Ff_X4_copyFrom G (h + 4 + i) (g + 4 + i) (jcp σ g h i 0 0 0) = (.inl none, jcp σ g h (i + 1) 0 0 0) := by
  refine congrArg (Prod.mk _) (Prod.ext (funext fun a => funext fun k => ?_) rfl)
  show (if _ then _ else _) = _
  rw [Nat.add_assoc g 4 i, jcp_src hd (by omega) (by omega) (by omega)]
  by_cases c : a = h + 4 + i ∧ k < 9
  · obtain ⟨rfl, hk⟩ := c
    rw [if_pos ⟨rfl, hk⟩]
    refine Eq.trans ?_ (if_pos (Or.inl ⟨by omega, by omega, hk⟩)).symm
    rw [show h + 4 + i + g - h = g + (4 + i) by omega]
  · rw [if_neg c]
    unfold jcp
    dsimp only
    by_cases d : h + 4 ≤ a ∧ a < h + 4 + i ∧ k < 9
    · rw [if_pos (Or.inl d), if_pos (Or.inl ⟨d.1, by omega, d.2.2⟩)]
    · rw [if_neg (by omega), if_neg (by omega)]
theorem jcp_rd (G : jgG) {σ : jgS} {g h n r : Nat} (hd : h + 32 ≤ g ∨ g + 32 ≤ h) (hn : n ≤ 24) (hr : r < 4) : Ff_X3_copyFrom G (h + 28 + r) (g + 28 + r) (jcp σ g h n r 0 0) = (.inl none, jcp σ g h n (r + 1) 0 0) := by
  refine congrArg (Prod.mk _) (Prod.ext (funext fun a => funext fun k => ?_) rfl)
  show (if _ then _ else _) = _
  rw [Nat.add_assoc g 28 r, jcp_src hd (by omega) (by omega) (by omega)]
  by_cases c : a = h + 28 + r ∧ k < 4
  · obtain ⟨rfl, hk⟩ := c
    rw [if_pos ⟨rfl, hk⟩]
    refine Eq.trans ?_ (if_pos (Or.inr (Or.inl ⟨by omega, by omega, hk⟩))).symm
    rw [show h + 28 + r + g - h = g + (28 + r) by omega]
  · rw [if_neg c]
    unfold jcp
    dsimp only
    by_cases d : (h + 4 ≤ a ∧ a < h + 4 + n ∧ k < 9) ∨ (h + 28 ≤ a ∧ a < h + 28 + r ∧ k < 4)
    · rw [if_pos (by omega), if_pos (by omega)]
    · rw [if_neg (by omega), if_neg (by omega)]
theorem jcp_st {σ : jgS} {g h n s : Nat} (hd : h + 32 ≤ g ∨ g + 32 ≤ h) (hn : n ≤ 24) : jwI (jcp σ g h n 4 s 0) (h + 3) s (σ.1 (g + 3) s) = jcp σ g h n 4 (s + 1) 0 := by
  refine Prod.ext (funext fun a => funext fun k => ?_) rfl
  rw [jI_wI]
  by_cases c : a = h + 3 ∧ k = s
  · obtain ⟨rfl, rfl⟩ := c
    rw [if_pos ⟨rfl, rfl⟩]
    refine Eq.trans ?_ (if_pos (Or.inr (Or.inr (Or.inl ⟨rfl, by omega⟩)))).symm
    rw [show h + 3 + g - h = g + 3 by omega]
  · rw [if_neg c]
    unfold jcp
    dsimp only
    by_cases d : (h + 4 ≤ a ∧ a < h + 4 + n ∧ k < 9) ∨ (h + 28 ≤ a ∧ a < h + 28 + 4 ∧ k < 4) ∨ (a = h + 3 ∧ k < s)
    · rw [if_pos (by omega), if_pos (by omega)]
    · rw [if_neg (by omega), if_neg (by omega)]
theorem jcp_ct {σ : jgS} {g h n t k : Nat} (hk : k = 3 + t) (hd : h + 32 ≤ g ∨ g + 32 ≤ h) (hn : n ≤ 24) : jwI (jcp σ g h n 4 4 t) h k (σ.1 g k) = jcp σ g h n 4 4 (t + 1) := by
  subst hk
  refine Prod.ext (funext fun a => funext fun k => ?_) rfl
  rw [jI_wI]
  by_cases c : a = h ∧ k = 3 + t
  · obtain ⟨rfl, rfl⟩ := c
    rw [if_pos ⟨rfl, rfl⟩]
    refine Eq.trans ?_ (if_pos (Or.inr (Or.inr (Or.inr ⟨rfl, by omega, by omega⟩)))).symm
    rw [show a + g - a = g by omega]
  · rw [if_neg c]
    unfold jcp
    dsimp only
    by_cases d : (h + 4 ≤ a ∧ a < h + 4 + n ∧ k < 9) ∨ (h + 28 ≤ a ∧ a < h + 28 + 4 ∧ k < 4) ∨ (a = h + 3 ∧ k < 4) ∨ (a = h ∧ 3 ≤ k ∧ k < 3 + t)
    · rw [if_pos (by omega), if_pos (by omega)]
    · rw [if_neg (by omega), if_neg (by omega)]
