/-! SkipRows: freest, the digest -/
theorem jle2 {σ τ : jgS} (h : τ.2 = σ.2) : jhs σ ≤ jhs τ ∧ jsl σ ≤ jsl τ := by
  unfold jhs jsl
  rw [h]
  exact ⟨Nat.le_refl _, Nat.le_refl _⟩
def jAl (σ : jgS) (x r : Nat) (m : Int32) : jgS := jwL σ (x + 232) (jLG σ (x + 1) r (jroom σ (x + 1) (nI r) m) (jct (fun j => σ.1 (x + 1 + 4 + j) 4 = 0 ∨ σ.1 (x + 1 + 4 + j) 4 = 1) (jn σ (x + 1))))
theorem jAl_F (G : jgG) {x r : Nat} {m : Int32} {σ : jgS} (hr : r < 4) : Ff_X2_along G (x + 232) (x + 1) (nI r) m σ = (.inl none, jAl σ x r m) := by
  unfold Ff_X2_along jAl
  rw [nI_clamp (by omega)]
theorem jAl_2 (σ : jgS) (x r : Nat) (m : Int32) : (jAl σ x r m).2 = σ.2 := rfl
theorem jAl_wt (σ : jgS) (x r : Nat) (m : Int32) : jwt (jAl σ x r m) = jwt σ := id rfl
/-- two states but for the look -/
def jLs (x : Nat) (σ τ : jgS) : Prop := τ.2 = σ.2 ∧ ∀ a, ¬ a = x + 232 → τ.1 a = σ.1 a
theorem jLs_r (x : Nat) (σ : jgS) : jLs x σ σ := ⟨rfl, fun _ _ => rfl⟩
theorem jLs_t {x : Nat} {σ τ υ : jgS} (h1 : jLs x σ τ) (h2 : jLs x τ υ) : jLs x σ υ := ⟨h2.1.trans h1.1, fun a n => (h2.2 a n).trans (h1.2 a n)⟩
theorem jLs_A (σ : jgS) (x r : Nat) (m : Int32) : jLs x σ (jAl σ x r m) := ⟨rfl, fun a n => funext fun k => jwL_out n⟩
theorem jLs_wt {x : Nat} {σ τ : jgS} (h : jLs x σ τ) : jwt τ = jwt σ := by unfold jwt; rw [h.1]
theorem jLs_SR {G : jgG} {x : Nat} {σ τ : jgS} (h : jLs x σ τ) (hp : jSR G σ x) : jSR G τ x := by
  refine jSR_o h.1 (fun a ha k => ?_) ?_ hp
  · rw [h.2 a (by omega)]
  · rw [h.2 _ (by omega)]
    exact hp.2.2.2.1.2.2.2
/-- the freest -/
abbrev jFT : Type := Int32 × Int32 × jgS
def jfT (x : Nat) (r : Nat) (T : jFT) : jFT := if T.2.1 < (jAl T.2.2 x r 24).1 (x + 232) 1 then (nI r, (jAl T.2.2 x r 24).1 (x + 232) 1, jAl T.2.2 x r 24) else (T.1, T.2.1, jAl T.2.2 x r 24)
def jfG (σ : jgS) (x i : Nat) : jFT := jfd (jfT x) i (-1, 0, σ)
theorem jfG_s (σ : jgS) (x i : Nat) : jfG σ x (i + 1) = jfT x i (jfG σ x i) := jfd_s _ _ _
theorem jfG_ls (σ : jgS) (x : Nat) : ∀ i, jLs x σ (jfG σ x i).2.2
  | 0 => jLs_r _ _
  | i + 1 => by
    rw [jfG_s]
    unfold jfT
    split
    · exact jLs_t (jfG_ls σ x i) (jLs_A _ _ _ _)
    · exact jLs_t (jfG_ls σ x i) (jLs_A _ _ _ _)
def Pp_X6_freest (G : jgG) (x : Nat) (σ : jgS) : Prop := jSR G σ x
def Ff_X6_freest (G : jgG) (x : Nat) (σ : jgS) : jgR := (.inl (some (.int (jfG σ x 4).1)), (jfG σ x 4).2.2)
def P_X6_freest (G : jgG) (As : List Value) (σ : jgS) : Prop := ∃ x : Nat, As = [.ref x] ∧ Pp_X6_freest G x σ
def F_X6_freest (G : jgG) (As : List Value) (σ : jgS) : jgR := Ff_X6_freest G (jaR As 0) σ
def S_X6_freest (G : jgG) : jgSpec := jsp (P_X6_freest G) (F_X6_freest G)
theorem PX_X6_freest {G : jgG} {x : Nat} {σ : jgS} : P_X6_freest G [.ref x] σ ↔ Pp_X6_freest G x σ := by unfold P_X6_freest; simp [and_assoc]
theorem FX_X6_freest {G : jgG} {x : Nat} {σ : jgS} : F_X6_freest G [.ref x] σ = Ff_X6_freest G x σ := rfl
def I_X6_freest : jgI := (0, 6, yX6_freest, cX6_freest, 4, (some .int), 0, 4, 90, [])
theorem jd_X6_freest : I_X6_freest.2.2.1.cls ≠ "java/lang/invoke/MethodHandle" ∧ I_X6_freest.2.2.1.cls ≠ "java/lang/invoke/VarHandle" ∧ (parseMethodDescriptor I_X6_freest.2.2.1.desc).map (fun d => d.parameters.length) = some I_X6_freest.2.2.2.2.2.2.1 := ⟨by decide +kernel, by decide +kernel, by decide +kernel⟩
def M_X6_freest (G : jgG) : jgM := (cX6_freest, [(10, jpF 6 0), (33, jpF 6 3), (117, jpC I_X2_along (S_X2_along G)), (125, jpF 2 1)], [], [], (some .int), false)
theorem bd_X6_freest (G : jgG) : ∀ (As : List Value) (σ : jgS) (r : jgR), S_X6_freest G As σ r → jhs σ ≤ jhs r.2 ∧ jsl σ ≤ jsl r.2 ∧ (jent As).length ≤ I_X6_freest.2.2.2.2.1 ∧ Jr G (M_X6_freest G) 0 (jentry As I_X6_freest.2.2.2.2.1) [] σ (fun r' => r' = r) := by
  rintro As σ r ⟨⟨x, rfl, hp⟩, rfl⟩
  rw [FX_X6_freest]
  refine ⟨(jle2 (jfG_ls σ x 4).1).1, (jle2 (jfG_ls σ x 4).1).2, by simp [jent, Value.category, I_X6_freest], ?_⟩
  show Jr G (M_X6_freest G) 0 [some (.ref x), none, none, none] [] σ (fun r' => r' = Ff_X6_freest G x σ)
  have hp0 : jSR G σ x := hp
  have h : Jr G (M_X6_freest G) 6 [some (.ref x), some (.int (jfG σ x 0).1), some (.int (jfG σ x 0).2.1), some (.int (nI 0))] [] (jfG σ x 0).2.2 (fun r' => r' = Ff_X6_freest G x σ) := by
    refine jloop (P := fun i => Jr G (M_X6_freest G) 6 [some (.ref x), some (.int (jfG σ x i).1), some (.int (jfG σ x i).2.1), some (.int (nI i))] [] (jfG σ x i).2.2 (fun r' => r' = Ff_X6_freest G x σ)) (n := 4) ?_ (fun i hlt ih => ?_)
    · show Jr G (M_X6_freest G) 6 _ _ _ _
      rw [jq_iload3 (M := M_X6_freest G) 7 dX6_freest_6 rfl]
      simp only [jq_iconst (M := M_X6_freest G) 4 8 dX6_freest_7 (by decide) rfl, jq_icmp_ge (M := M_X6_freest G) 52 11 dX6_freest_8 (by decide) rfl, jq_iload1 (M := M_X6_freest G) 53 dX6_freest_52 rfl, jq_iret (M := M_X6_freest G) .int dX6_freest_53 rfl, eq_self, jref_10, jref_11, jref_12, jk_v, jk_n, jcat_nil, jcat_i, jcat_r, jcat_l, jcat_d, jc2_i, jc2_r, jc2_n, jc1_i, jc1_r, jrf_some, jwtq_wI, jwtq_wh, jR_wI, jI_wh, jR_wh, List.cons.injEq, Value.int.injEq, Value.ref.injEq, Value.long.injEq, Value.double.injEq, true_and, and_true, and_self, Nat.reduceAdd, Nat.reduceLeDiff, if_true, if_false, ite_true, ite_false, jc1q_i, jc1q_r, jc1q_l, jwtq_wR, jwtq_wY, jI_wI, Nat.reduceEqDiff, and_false, false_and, not_false_eq_true, not_true_eq_false, jnr_i, show (4 : Int32) ≤ nI 4 from by decide]
      rfl
    · show Jr G (M_X6_freest G) 6 _ _ _ _
      have hq3 : ¬ (4 : Int32) ≤ nI i := nI_ge (b := 4) (by omega) (by decide)
      have hv : vp_in (nI i) 4 := vp_in_nI (by omega) (by decide)
      have hls := jfG_ls σ x i
      have hp := jLs_SR hls hp0
      rw [jfG_s, ← nI_1] at ih
      rw [jq_iload3 (M := M_X6_freest G) 7 dX6_freest_6 rfl]
      generalize jfG σ x i = T at *
      obtain ⟨⟨r0, r1, r2, r3, r4⟩, hT, hH, hB, hL, ⟨⟨x1, x2⟩, x3, x4⟩, hu, hh⟩ := id hp
      have d : x + 1 + 32 ≤ x + 232 := by omega
      have hF := jAl_F G (x := x) (m := 24) (σ := T.2.2) hlt
      unfold jfT at ih
      by_cases c : T.2.1 < (jAl T.2.2 x i 24).1 (x + 232) 1
      · rw [if_pos c] at ih
        simp only [jq_iconst (M := M_X6_freest G) 4 8 dX6_freest_7 (by decide) rfl, jq_icmp_ge (M := M_X6_freest G) 52 11 dX6_freest_8 (by decide) rfl, jq_aload0 (M := M_X6_freest G) 12 dX6_freest_11 rfl, jq_getR (M := M_X6_freest G) 6 3 15 dX6_freest_12 rfl rfl rfl, jq_aload0 (M := M_X6_freest G) 16 dX6_freest_15 rfl, jq_getR (M := M_X6_freest G) 6 0 19 dX6_freest_16 rfl rfl rfl, jq_iload3 (M := M_X6_freest G) 20 dX6_freest_19 rfl, jq_bipush (M := M_X6_freest G) 24 22 dX6_freest_20 (by decide) rfl, jq_virt3 (M := M_X6_freest G) I_X2_along 2 dX6_freest_22 rfl rfl rfl rfl, jq_aload0 (M := M_X6_freest G) 26 dX6_freest_25 rfl, jq_getR (M := M_X6_freest G) 6 3 29 dX6_freest_26 rfl rfl rfl, jq_getI (M := M_X6_freest G) 2 1 32 dX6_freest_29 rfl rfl rfl, jq_iload2 (M := M_X6_freest G) 33 dX6_freest_32 rfl, jq_icmp_le (M := M_X6_freest G) 46 36 dX6_freest_33 (by decide) rfl, jq_iload3 (M := M_X6_freest G) 37 dX6_freest_36 rfl, jq_istore1 (M := M_X6_freest G) 38 dX6_freest_37 rfl, jq_aload0 (M := M_X6_freest G) 39 dX6_freest_38 rfl, jq_getR (M := M_X6_freest G) 6 3 42 dX6_freest_39 rfl rfl rfl, jq_getI (M := M_X6_freest G) 2 1 45 dX6_freest_42 rfl rfl rfl, jq_istore2 (M := M_X6_freest G) 46 dX6_freest_45 rfl, jq_iinc3 (M := M_X6_freest G) 1 49 dX6_freest_46 (by decide) rfl, jq_goto (M := M_X6_freest G) 6 dX6_freest_49 (by decide), eq_self, jref_10, jref_11, jref_12, jk_v, jk_n, jcat_nil, jcat_i, jcat_r, jcat_l, jcat_d, jc2_i, jc2_r, jc2_n, jc1_i, jc1_r, jrf_some, jwtq_wI, jwtq_wh, jR_wI, jI_wh, jR_wh, List.cons.injEq, Value.int.injEq, Value.ref.injEq, Value.long.injEq, Value.double.injEq, true_and, and_true, and_self, Nat.reduceAdd, Nat.reduceLeDiff, if_true, if_false, ite_true, ite_false, jc1q_i, jc1q_r, jc1q_l, jwtq_wR, jwtq_wY, jI_wI, Nat.reduceEqDiff, and_false, false_and, not_false_eq_true, not_true_eq_false, hq3, r0, r1, r2, r3, r4, hT.1.1, hL, hT, d, hv, hF, PX_X2_along, FX_X2_along, Pp_X2_along, jAl_2, jAl_wt, ji_le, c, not_true_eq_false, not_false_eq_true]
        exact ⟨hu, ih⟩
      · rw [if_neg c] at ih
        simp only [jq_iconst (M := M_X6_freest G) 4 8 dX6_freest_7 (by decide) rfl, jq_icmp_ge (M := M_X6_freest G) 52 11 dX6_freest_8 (by decide) rfl, jq_aload0 (M := M_X6_freest G) 12 dX6_freest_11 rfl, jq_getR (M := M_X6_freest G) 6 3 15 dX6_freest_12 rfl rfl rfl, jq_aload0 (M := M_X6_freest G) 16 dX6_freest_15 rfl, jq_getR (M := M_X6_freest G) 6 0 19 dX6_freest_16 rfl rfl rfl, jq_iload3 (M := M_X6_freest G) 20 dX6_freest_19 rfl, jq_bipush (M := M_X6_freest G) 24 22 dX6_freest_20 (by decide) rfl, jq_virt3 (M := M_X6_freest G) I_X2_along 2 dX6_freest_22 rfl rfl rfl rfl, jq_aload0 (M := M_X6_freest G) 26 dX6_freest_25 rfl, jq_getR (M := M_X6_freest G) 6 3 29 dX6_freest_26 rfl rfl rfl, jq_getI (M := M_X6_freest G) 2 1 32 dX6_freest_29 rfl rfl rfl, jq_iload2 (M := M_X6_freest G) 33 dX6_freest_32 rfl, jq_icmp_le (M := M_X6_freest G) 46 36 dX6_freest_33 (by decide) rfl, jq_iload3 (M := M_X6_freest G) 37 dX6_freest_36 rfl, jq_istore1 (M := M_X6_freest G) 38 dX6_freest_37 rfl, jq_aload0 (M := M_X6_freest G) 39 dX6_freest_38 rfl, jq_getR (M := M_X6_freest G) 6 3 42 dX6_freest_39 rfl rfl rfl, jq_getI (M := M_X6_freest G) 2 1 45 dX6_freest_42 rfl rfl rfl, jq_istore2 (M := M_X6_freest G) 46 dX6_freest_45 rfl, jq_iinc3 (M := M_X6_freest G) 1 49 dX6_freest_46 (by decide) rfl, jq_goto (M := M_X6_freest G) 6 dX6_freest_49 (by decide), eq_self, jref_10, jref_11, jref_12, jk_v, jk_n, jcat_nil, jcat_i, jcat_r, jcat_l, jcat_d, jc2_i, jc2_r, jc2_n, jc1_i, jc1_r, jrf_some, jwtq_wI, jwtq_wh, jR_wI, jI_wh, jR_wh, List.cons.injEq, Value.int.injEq, Value.ref.injEq, Value.long.injEq, Value.double.injEq, true_and, and_true, and_self, Nat.reduceAdd, Nat.reduceLeDiff, if_true, if_false, ite_true, ite_false, jc1q_i, jc1q_r, jc1q_l, jwtq_wR, jwtq_wY, jI_wI, Nat.reduceEqDiff, and_false, false_and, not_false_eq_true, not_true_eq_false, hq3, r0, r1, r2, r3, r4, hT.1.1, hL, hT, d, hv, hF, PX_X2_along, FX_X2_along, Pp_X2_along, jAl_2, jAl_wt, ji_le, c, not_true_eq_false, not_false_eq_true]
        exact ⟨hu, ih⟩
  simp only [jq_iconst (M := M_X6_freest G) (-1) 1 dX6_freest_0 (by decide) rfl, jq_istore1 (M := M_X6_freest G) 2 dX6_freest_1 rfl, jq_iconst (M := M_X6_freest G) 0 3 dX6_freest_2 (by decide) rfl, jq_istore2 (M := M_X6_freest G) 4 dX6_freest_3 rfl, jq_iconst (M := M_X6_freest G) 0 5 dX6_freest_4 (by decide) rfl, jq_istore3 (M := M_X6_freest G) 6 dX6_freest_5 rfl, eq_self, jref_10, jref_11, jref_12, jk_v, jk_n, jcat_nil, jcat_i, jcat_r, jcat_l, jcat_d, jc2_i, jc2_r, jc2_n, jc1_i, jc1_r, jrf_some, jwtq_wI, jwtq_wh, jR_wI, jI_wh, jR_wh, List.cons.injEq, Value.int.injEq, Value.ref.injEq, Value.long.injEq, Value.double.injEq, true_and, and_true, and_self, Nat.reduceAdd, Nat.reduceLeDiff, if_true, if_false, ite_true, ite_false, jc1q_i, jc1q_r, jc1q_l, jwtq_wR, jwtq_wY, jI_wI, Nat.reduceEqDiff, and_false, false_and, not_false_eq_true, not_true_eq_false]
  exact h
theorem met_X6_freest {l : Launch} (hl : l.stackTraces = false) (D : va_G) (cy : Nat → ClassId) (G : jgG) : jMet l D cy G I_X6_freest (S_X6_freest G) :=
  jr_met hl (M_X6_freest G) I_X6_freest (S_X6_freest G) RX6 rfl (by decide) rfl rfl rfl rfl (fun h => (by cases h)) jmAI (fun R h1 h2 => List.forall_mem_cons.mpr ⟨jpokF (r := (RX6, TX6, 4)) rfl jcls6 (by decide) (by decide) jm_224 (fun h => (by cases h)), List.forall_mem_cons.mpr ⟨jpokF (r := (RX6, TX6, 4)) rfl jcls6 (by decide) (by decide) jm_227 (fun h => (by cases h)), List.forall_mem_cons.mpr ⟨⟨⟨jm_374, jm_16, jd_X2_along, ⟨by rw [h1]; exact Nat.le_of_ble_eq_true rfl, by rw [h2]; exact Nat.le_of_ble_eq_true rfl⟩, Or.inl ⟨rfl, jm_371, jm_372, jm_373, rfl, Nat.le_of_ble_eq_true rfl, _, rfl, rfl⟩⟩, met_X2_along hl D cy G⟩, List.forall_mem_cons.mpr ⟨jpokF (r := (RX2, TX2, 5)) rfl jcls2 (by decide) (by decide) jm_207 (fun h => (by cases h)), fun _ h => nomatch h⟩⟩⟩⟩) (fun h => absurd rfl h) (fun _ h => nomatch h) (bd_X6_freest G)
def jgk (σ : jgS) (h : Nat) : Int32 := jfd (fun i s => if σ.1 (h + 4 + i) 4 = 0 then (if s < σ.1 (h + 4 + i) 8 then σ.1 (h + 4 + i) 8 else s) else s) (jn σ h) 0
def jfr (σ : jgS) (h : Nat) : UInt64 := FP.ddiv 4607182418800017408 (FP.dadd 4607182418800017408 (FP.i2d (jgk σ h)))
def jipV (σ : jgS) (h : Nat) (u w : Int32) : Int32 := if w = 0 then nI (jct (fun i => σ.1 (h + 4 + i) 4 = 1 ∧ σ.1 (h + 4 + i) 6 ≤ σ.1 h 4 + u) (jn σ h)) else nI (jct (fun i => σ.1 (h + 4 + i) 4 = 3) (jn σ h) + jct (fun i => (σ.1 (h + 4 + i) 4 = 1 ∧ σ.1 (h + 4 + i) 6 ≤ σ.1 h 4 + u) ∧ σ.1 (h + 3) 1 ≤ σ.1 (h + 4 + i) 7 + 1) (jn σ h))
