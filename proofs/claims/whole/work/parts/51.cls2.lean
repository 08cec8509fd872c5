/-! SkipRows: freest, the digest -/
theorem jle2 {σ τ : jgS} (h : τ.2 = σ.2) : jhs σ ≤ jhs τ ∧ jsl σ ≤ jsl τ := by
  unfold jhs jsl
  rw [h]
  exact ⟨Nat.le_refl _, Nat.le_refl _⟩
def jAl (σ : jgS) (x r : Nat) (m : Int32) : jgS := jwL σ (x + 232) (jLG σ (x + 1) r (jroom σ (x + 1) (nI r) m) (jct (fun j => σ.1 (x + 1 + 4 + j) 4 = 0 ∨ σ.1 (x + 1 + 4 + j) 4 = 1) (jn σ (x + 1))))
theorem jAl_F (G : jgG) {x r : Nat} {m : Int32} {σ : jgS} (hr : r < 4) : Ff_X2_along G (x + 232) (x + 1) (nI r) m σ = (.inl none, jAl σ x r m) := by
  unfold Ff_X2_along jAl
  rw [nI_clamp (by omega)]
theorem jAl_2 (σ : jgS) (x r : Nat) (m : Int32) : (jAl σ x r m).2 = σ.2 := rfl
theorem jAl_wt (σ : jgS) (x r : Nat) (m : Int32) : jwt (jAl σ x r m) = jwt σ := id rfl
/-- two states but for the look -/
def jLs (x : Nat) (σ τ : jgS) : Prop := τ.2 = σ.2 ∧ ∀ a, ¬ a = x + 232 → τ.1 a = σ.1 a
theorem jLs_r (x : Nat) (σ : jgS) : jLs x σ σ := ⟨rfl, fun _ _ => rfl⟩
theorem jLs_t {x : Nat} {σ τ υ : jgS} (h1 : jLs x σ τ) (h2 : jLs x τ υ) : jLs x σ υ := ⟨h2.1.trans h1.1, fun a n => (h2.2 a n).trans (h1.2 a n)⟩
theorem jLs_A (σ : jgS) (x r : Nat) (m : Int32) : jLs x σ (jAl σ x r m) := ⟨rfl, fun a n => funext fun k => jwL_out n⟩
theorem jLs_wt {x : Nat} {σ τ : jgS} (h : jLs x σ τ) : jwt τ = jwt σ := by unfold jwt; rw [h.1]
theorem jLs_SR {G : jgG} {x : Nat} {σ τ : jgS} (h : jLs x σ τ) (hp : jSR G σ x) : jSR G τ x := by
  refine jSR_o h.1 (fun a ha k => ?_) ?_ hp
  · rw [h.2 a (by omega)]
  · rw [h.2 _ (by omega)]
    exact hp.2.2.2.1.2.2.2
/-- the freest -/
abbrev jFT : Type := Int32 × Int32 × jgS
def jfT (x : Nat) (r : Nat) (T : jFT) : jFT := if T.2.1 < (jAl T.2.2 x r 24).1 (x + 232) 1 then (nI r, (jAl T.2.2 x r 24).1 (x + 232) 1, jAl T.2.2 x r 24) else (T.1, T.2.1, jAl T.2.2 x r 24)
def jfG (σ : jgS) (x i : Nat) : jFT := jfd (jfT x) i (-1, 0, σ)
theorem jfG_s (σ : jgS) (x i : Nat) : jfG σ x (i + 1) = jfT x i (jfG σ x i) := jfd_s _ _ _
theorem jfG_ls (σ : jgS) (x : Nat) : ∀ i, jLs x σ (jfG σ x i).2.2
  | 0 => jLs_r _ _
  | i + 1 => by
    rw [jfG_s]
    unfold jfT
    split
    · exact jLs_t (jfG_ls σ x i) (jLs_A _ _ _ _)
    · exact jLs_t (jfG_ls σ x i) (jLs_A _ _ _ _)
def Pp_X6_freest (G : jgG) (x : Nat) (σ : jgS) : Prop := jSR G σ x
def Ff_X6_freest (G : jgG) (x : Nat) (σ : jgS) : jgR := (.inl (some (.int (jfG σ x 4).1)), (jfG σ x 4).2.2)
def P_X6_freest (G : jgG) (As : List Value) (σ : jgS) : Prop := ∃ x : Nat, As = [.ref x] ∧ Pp_X6_freest G x σ
def F_X6_freest (G : jgG) (As : List Value) (σ : jgS) : jgR := Ff_X6_freest G (jaR As 0) σ
def S_X6_freest (G : jgG) : jgSpec := jsp (P_X6_freest G) (F_X6_freest G)
theorem PX_X6_freest {G : jgG} {x : Nat} {σ : jgS} : P_X6_freest G [.ref x] σ ↔ Pp_X6_freest G x σ := by unfold P_X6_freest; simp [and_assoc]
theorem FX_X6_freest {G : jgG} {x : Nat} {σ : jgS} : F_X6_freest G [.ref x] σ = Ff_X6_freest G x σ := rfl
def I_X6_freest : jgI := (0, 6, yX6_freest, cX6_freest, 4, (some .int), 0, 4, 90, [])
theorem jd_X6_freest : I_X6_freest.2.2.1.cls ≠ "java/lang/invoke/MethodHandle" ∧ I_X6_freest.2.2.1.cls ≠ "java/lang/invoke/VarHandle" ∧ (parseMethodDescriptor I_X6_freest.2.2.1.desc).map (fun d => d.parameters.length) = some I_X6_freest.2.2.2.2.2.2.1 := ⟨by decide +kernel, by decide +kernel, by decide +kernel⟩
def M_X6_freest (G : jgG) : jgM := (cX6_freest, [(10, jpF 6 0), (33, jpF 6 3), (117, jpC I_X2_along (S_X2_along G)), (125, jpF 2 1)], [], [], (some .int), false)
theorem bd_X6_freest (G : jgG) : ∀ (As : List Value) (σ : jgS) (r : jgR), S_X6_freest G As σ r → jhs σ ≤ jhs r.2 ∧ jsl σ ≤ jsl r.2 ∧ (jent As).length ≤ I_X6_freest.2.2.2.2.1 ∧ Jr G (M_X6_freest G) 0 (jentry As I_X6_freest.2.2.2.2.1) [] σ (fun r' => r' = r) := by
  rintro As σ r ⟨⟨x, rfl, hp⟩, rfl⟩
  rw [FX_X6_freest]
  refine ⟨(jle2 (jfG_ls σ x 4).1).1, (jle2 (jfG_ls σ x 4).1).2, by simp [jent, Value.category, I_X6_freest], ?_⟩
  show Jr G (M_X6_freest G) 0 [some (.ref x), none, none, none] [] σ (fun r' => r' = Ff_X6_freest G x σ)
  have hp0 : jSR G σ x := hp
  have h : Jr G (M_X6_freest G) 6 [some (.ref x), some (.int (jfG σ x 0).1), some (.int (jfG σ x 0).2.1), some (.int (nI 0))] [] (jfG σ x 0).2.2 (fun r' => r' = Ff_X6_freest G x σ) := by
    refine jloop (P := fun i => Jr G (M_X6_freest G) 6 [some (.ref x), some (.int (jfG σ x i).1), some (.int (jfG σ x i).2.1), some (.int (nI i))] [] (jfG σ x i).2.2 (fun r' => r' = Ff_X6_freest G x σ)) (n := 4) ?_ (fun i hlt ih => ?_)
    · show Jr G (M_X6_freest G) 6 _ _ _ _
      rw [jq_iload3 (M := M_X6_freest G) 7 dX6_freest_6 rfl]
      simp only [jq_iconst (M := M_X6_freest G) 4 8 dX6_freest_7 (by decide) rfl, jq_icmp_ge (M := M_X6_freest G) 52 11 dX6_freest_8 (by decide) rfl, jq_iload1 (M := M_X6_freest G) 53 dX6_freest_52 rfl, jq_iret (M := M_X6_freest G) .int dX6_freest_53 rfl, eq_self, jref_10, jref_11, jref_12, jk_v, jk_n, jcat_nil, jcat_i, jcat_r, jcat_l, jcat_d, jc2_i, jc2_r, jc2_n, jc1_i, jc1_r, jrf_some, jwtq_wI, jwtq_wh, jR_wI, jI_wh, jR_wh, List.cons.injEq, Value.int.injEq, Value.ref.injEq, Value.long.injEq, Value.double.injEq, true_and, and_true, and_self, Nat.reduceAdd, Nat.reduceLeDiff, if_true, if_false, ite_true, ite_false, jc1q_i, jc1q_r, jc1q_l, jwtq_wR, jwtq_wY, jI_wI, Nat.reduceEqDiff, and_false, false_and, not_false_eq_true, not_true_eq_false, jnr_i, show (4 : Int32) ≤ nI 4 from by decide]
      rfl
    · show Jr G (M_X6_freest G) 6 _ _ _ _
      have hq3 : ¬ (4 : Int32) ≤ nI i := nI_ge (b := 4) (by omega) (by decide)
      have hv : vp_in (nI i) 4 := vp_in_nI (by omega) (by decide)
      have hls := jfG_ls σ x i
      have hp := jLs_SR hls hp0
      rw [jfG_s, ← nI_1] at ih
      rw [jq_iload3 (M := M_X6_freest G) 7 dX6_freest_6 rfl]
      generalize jfG σ x i = T at *
      obtain ⟨⟨r0, r1, r2, r3, r4⟩, hT, hH, hB, hL, ⟨⟨x1, x2⟩, x3, x4⟩, hu, hh⟩ := id hp
      have d : x + 1 + 32 ≤ x + 232 := by omega
      have hF := jAl_F G (x := x) (m := 24) (σ := T.2.2) hlt
      unfold jfT at ih
      by_cases c : T.2.1 < (jAl T.2.2 x i 24).1 (x + 232) 1
      · rw [if_pos c] at ih
        simp only [jq_iconst (M := M_X6_freest G) 4 8 dX6_freest_7 (by decide) rfl, jq_icmp_ge (M := M_X6_freest G) 52 11 dX6_freest_8 (by decide) rfl, jq_aload0 (M := M_X6_freest G) 12 dX6_freest_11 rfl, jq_getR (M := M_X6_freest G) 6 3 15 dX6_freest_12 rfl rfl rfl, jq_aload0 (M := M_X6_freest G) 16 dX6_freest_15 rfl, jq_getR (M := M_X6_freest G) 6 0 19 dX6_freest_16 rfl rfl rfl, jq_iload3 (M := M_X6_freest G) 20 dX6_freest_19 rfl, jq_bipush (M := M_X6_freest G) 24 22 dX6_freest_20 (by decide) rfl, jq_virt3 (M := M_X6_freest G) I_X2_along 2 dX6_freest_22 rfl rfl rfl rfl, jq_aload0 (M := M_X6_freest G) 26 dX6_freest_25 rfl, jq_getR (M := M_X6_freest G) 6 3 29 dX6_freest_26 rfl rfl rfl, jq_getI (M := M_X6_freest G) 2 1 32 dX6_freest_29 rfl rfl rfl, jq_iload2 (M := M_X6_freest G) 33 dX6_freest_32 rfl, jq_icmp_le (M := M_X6_freest G) 46 36 dX6_freest_33 (by decide) rfl, jq_iload3 (M := M_X6_freest G) 37 dX6_freest_36 rfl, jq_istore1 (M := M_X6_freest G) 38 dX6_freest_37 rfl, jq_aload0 (M := M_X6_freest G) 39 dX6_freest_38 rfl, jq_getR (M := M_X6_freest G) 6 3 42 dX6_freest_39 rfl rfl rfl, jq_getI (M := M_X6_freest G) 2 1 45 dX6_freest_42 rfl rfl rfl, jq_istore2 (M := M_X6_freest G) 46 dX6_freest_45 rfl, jq_iinc3 (M := M_X6_freest G) 1 49 dX6_freest_46 (by decide) rfl, jq_goto (M := M_X6_freest G) 6 dX6_freest_49 (by decide), eq_self, jref_10, jref_11, jref_12, jk_v, jk_n, jcat_nil, jcat_i, jcat_r, jcat_l, jcat_d, jc2_i, jc2_r, jc2_n, jc1_i, jc1_r, jrf_some, jwtq_wI, jwtq_wh, jR_wI, jI_wh, jR_wh, List.cons.injEq, Value.int.injEq, Value.ref.injEq, Value.long.injEq, Value.double.injEq, true_and, and_true, and_self, Nat.reduceAdd, Nat.reduceLeDiff, if_true, if_false, ite_true, ite_false, jc1q_i, jc1q_r, jc1q_l, jwtq_wR, jwtq_wY, jI_wI, Nat.reduceEqDiff, and_false, false_and, not_false_eq_true, not_true_eq_false, hq3, r0, r1, r2, r3, r4, hT.1.1, hL, hT, d, hv, hF, PX_X2_along, FX_X2_along, Pp_X2_along, jAl_2, jAl_wt, ji_le, c, not_true_eq_false, not_false_eq_true]
        exact ⟨hu, ih⟩
      · rw [if_neg c] at ih
        simp only [jq_iconst (M := M_X6_freest G) 4 8 dX6_freest_7 (by decide) rfl, jq_icmp_ge (M := M_X6_freest G) 52 11 dX6_freest_8 (by decide) rfl, jq_aload0 (M := M_X6_freest G) 12 dX6_freest_11 rfl, jq_getR (M := M_X6_freest G) 6 3 15 dX6_freest_12 rfl rfl rfl, jq_aload0 (M := M_X6_freest G) 16 dX6_freest_15 rfl, jq_getR (M := M_X6_freest G) 6 0 19 dX6_freest_16 rfl rfl rfl, jq_iload3 (M := M_X6_freest G) 20 dX6_freest_19 rfl, jq_bipush (M := M_X6_freest G) 24 22 dX6_freest_20 (by decide) rfl, jq_virt3 (M := M_X6_freest G) I_X2_along 2 dX6_freest_22 rfl rfl rfl rfl, jq_aload0 (M := M_X6_freest G) 26 dX6_freest_25 rfl, jq_getR (M := M_X6_freest G) 6 3 29 dX6_freest_26 rfl rfl rfl, jq_getI (M := M_X6_freest G) 2 1 32 dX6_freest_29 rfl rfl rfl, jq_iload2 (M := M_X6_freest G) 33 dX6_freest_32 rfl, jq_icmp_le (M := M_X6_freest G) 46 36 dX6_freest_33 (by decide) rfl, jq_iload3 (M := M_X6_freest G) 37 dX6_freest_36 rfl, jq_istore1 (M := M_X6_freest G) 38 dX6_freest_37 rfl, jq_aload0 (M := M_X6_freest G) 39 dX6_freest_38 rfl, jq_getR (M := M_X6_freest G) 6 3 42 dX6_freest_39 rfl rfl rfl, jq_getI (M := M_X6_freest G) 2 1 45 dX6_freest_42 rfl rfl rfl, jq_istore2 (M := M_X6_freest G) 46 dX6_freest_45 rfl, jq_iinc3 (M := M_X6_freest G) 1 49 dX6_freest_46 (by decide) rfl, jq_goto (M := M_X6_freest G) 6 dX6_freest_49 (by decide), eq_self, jref_10, jref_11, jref_12, jk_v, jk_n, jcat_nil, jcat_i, jcat_r, jcat_l, jcat_d, jc2_i, jc2_r, jc2_n, jc1_i, jc1_r, jrf_some, jwtq_wI, jwtq_wh, jR_wI, jI_wh, jR_wh, List.cons.injEq, Value.int.injEq, Value.ref.injEq, Value.long.injEq, Value.double.injEq, true_and, and_true, and_self, Nat.reduceAdd, Nat.reduceLeDiff, if_true, if_false, ite_true, ite_false, jc1q_i, jc1q_r, jc1q_l, jwtq_wR, jwtq_wY, jI_wI, Nat.reduceEqDiff, and_false, false_and, not_false_eq_true, not_true_eq_false, hq3, r0, r1, r2, r3, r4, hT.1.1, hL, hT, d, hv, hF, PX_X2_along, FX_X2_along, Pp_X2_along, jAl_2, jAl_wt, ji_le, c, not_true_eq_false, not_false_eq_true]
        exact ⟨hu, ih⟩
  simp only [jq_iconst (M := M_X6_freest G) (-1) 1 dX6_freest_0 (by decide) rfl, jq_istore1 (M := M_X6_freest G) 2 dX6_freest_1 rfl, jq_iconst (M := M_X6_freest G) 0 3 dX6_freest_2 (by decide) rfl, jq_istore2 (M := M_X6_freest G) 4 dX6_freest_3 rfl, jq_iconst (M := M_X6_freest G) 0 5 dX6_freest_4 (by decide) rfl, jq_istore3 (M := M_X6_freest G) 6 dX6_freest_5 rfl, eq_self, jref_10, jref_11, jref_12, jk_v, jk_n, jcat_nil, jcat_i, jcat_r, jcat_l, jcat_d, jc2_i, jc2_r, jc2_n, jc1_i, jc1_r, jrf_some, jwtq_wI, jwtq_wh, jR_wI, jI_wh, jR_wh, List.cons.injEq, Value.int.injEq, Value.ref.injEq, Value.long.injEq, Value.double.injEq, true_and, and_true, and_self, Nat.reduceAdd, Nat.reduceLeDiff, if_true, if_false, ite_true, ite_false, jc1q_i, jc1q_r, jc1q_l, jwtq_wR, jwtq_wY, jI_wI, Nat.reduceEqDiff, and_false, false_and, not_false_eq_true, not_true_eq_false]
  exact h
theorem met_X6_freest {l : Launch} (hl : l.stackTraces = false) (D : va_G) (cy : Nat → ClassId) (G : jgG) : jMet l D cy G I_X6_freest (S_X6_freest G) :=
  jr_met hl (M_X6_freest G) I_X6_freest (S_X6_freest G) RX6 rfl (by decide) rfl rfl rfl rfl (fun h => (by cases h)) jmAI jmAL (fun R h1 h2 => List.forall_mem_cons.mpr ⟨jpokF (r := (RX6, TX6, 4)) rfl jcls6 (by decide) (by decide) jm_274 (fun h => (by cases h)), List.forall_mem_cons.mpr ⟨jpokF (r := (RX6, TX6, 4)) rfl jcls6 (by decide) (by decide) jm_277 (fun h => (by cases h)), List.forall_mem_cons.mpr ⟨⟨⟨jm_341, jm_56, jd_X2_along, ⟨by rw [h1]; exact Nat.le_of_ble_eq_true rfl, by rw [h2]; exact Nat.le_of_ble_eq_true rfl⟩, Or.inl ⟨rfl, jm_338, jm_339, jm_340, rfl, Nat.le_of_ble_eq_true rfl, _, rfl, rfl⟩⟩, met_X2_along hl D cy G⟩, List.forall_mem_cons.mpr ⟨jpokF (r := (RX2, TX2, 5)) rfl jcls2 (by decide) (by decide) jm_257 (fun h => (by cases h)), fun _ h => nomatch h⟩⟩⟩⟩) (fun h => absurd rfl h) (fun _ h => nomatch h) (bd_X6_freest G)
def Pp_X6_withBuffer (G : jgG) (x : Nat) (p : Int64) (σ : jgS) : Prop := jSR G σ x
def Ff_X6_withBuffer (G : jgG) (x : Nat) (p : Int64) (σ : jgS) : jgR := (.inl (some (.long (mhf (σ.1 (x + 227 + 1)) (jBn σ (x + 227)) (31 * p + (σ.1 (x + 227) 1).toInt64)))), σ)
def P_X6_withBuffer (G : jgG) (As : List Value) (σ : jgS) : Prop := ∃ x : Nat, ∃ p : Int64, As = [.ref x, .long p] ∧ Pp_X6_withBuffer G x p σ
def F_X6_withBuffer (G : jgG) (As : List Value) (σ : jgS) : jgR := Ff_X6_withBuffer G (jaR As 0) (jaL As 1) σ
def S_X6_withBuffer (G : jgG) : jgSpec := jsp (P_X6_withBuffer G) (F_X6_withBuffer G)
theorem PX_X6_withBuffer {G : jgG} {x : Nat} {p : Int64} {σ : jgS} : P_X6_withBuffer G [.ref x, .long p] σ ↔ Pp_X6_withBuffer G x p σ := by unfold P_X6_withBuffer; simp [and_assoc]
theorem FX_X6_withBuffer {G : jgG} {x : Nat} {p : Int64} {σ : jgS} : F_X6_withBuffer G [.ref x, .long p] σ = Ff_X6_withBuffer G x p σ := rfl
def I_X6_withBuffer : jgI := (0, 6, yX6_withBuffer, cX6_withBuffer, 6, (some .long), 1, 1, 23, [])
theorem jd_X6_withBuffer : I_X6_withBuffer.2.2.1.cls ≠ "java/lang/invoke/MethodHandle" ∧ I_X6_withBuffer.2.2.1.cls ≠ "java/lang/invoke/VarHandle" ∧ (parseMethodDescriptor I_X6_withBuffer.2.2.1.desc).map (fun d => d.parameters.length) = some I_X6_withBuffer.2.2.2.2.2.2.1 := ⟨by decide +kernel, by decide +kernel, by decide +kernel⟩
def M_X6_withBuffer (G : jgG) : jgM := (cX6_withBuffer, [(26, jpF 6 2), (156, jpF 0 1), (269, jpC I_X6_mixed (S_X6_mixed G)), (315, jpF 0 0)], [], [], (some .long), false)
theorem bd_X6_withBuffer (G : jgG) : ∀ (As : List Value) (σ : jgS) (r : jgR), S_X6_withBuffer G As σ r → jhs σ ≤ jhs r.2 ∧ jsl σ ≤ jsl r.2 ∧ (jent As).length ≤ I_X6_withBuffer.2.2.2.2.1 ∧ Jr G (M_X6_withBuffer G) 0 (jentry As I_X6_withBuffer.2.2.2.2.1) [] σ (fun r' => r' = r) := by
  rintro As σ r ⟨⟨x, p, rfl, hp⟩, rfl⟩
  rw [FX_X6_withBuffer]
  refine ⟨(by first | exact Nat.le_refl _ | (show _ ≤ _; simp only [F_X6_withBuffer, Ff_X6_withBuffer]; (repeat' split) <;> first | exact Nat.le_refl _ | exact Nat.le_succ _ | exact Nat.le_add_right _ _)), (by first | exact Nat.le_refl _ | (show _ ≤ _; simp only [F_X6_withBuffer, Ff_X6_withBuffer]; (repeat' split) <;> first | exact Nat.le_refl _ | exact Nat.le_succ _ | exact Nat.le_add_right _ _)), by simp [jent, Value.category, I_X6_withBuffer], ?_⟩
  show Jr G (M_X6_withBuffer G) 0 [some (.ref x), some (.long p), none, none, none, none] [] σ (fun r' => r' = Ff_X6_withBuffer G x p σ)
  obtain ⟨⟨r0, r1, r2, r3, r4⟩, hT, hH, hB, hL, ⟨⟨x1, x2⟩, x3, x4⟩, hu, hh⟩ := id hp
  obtain ⟨b0, ⟨b1, b2, b3, b4⟩, ⟨⟨l1, m1⟩, l2, l3, l4⟩, hbl⟩ := id hB
  obtain ⟨n, hn61, hn⟩ := vp_in_of hbl (by decide)
  have hnB : jBn σ (x + 227) = n := by unfold jBn; rw [hn]; exact nI_clamp (by omega)
  unfold Ff_X6_withBuffer
  rw [hnB]
  have h : Jr G (M_X6_withBuffer G) 16 [some (.ref x), some (.long p), none, some (.long (mhf (σ.1 (x + 227 + 1)) 0 (31 * p + (σ.1 (x + 227) 1).toInt64))), none, some (.int (nI 0))] [] σ (fun r' => r' = ((.inl (some (.long (mhf (σ.1 (x + 227 + 1)) n (31 * p + (σ.1 (x + 227) 1).toInt64)))), σ) : jgR)) := by
    refine jloop (P := fun i => Jr G (M_X6_withBuffer G) 16 [some (.ref x), some (.long p), none, some (.long (mhf (σ.1 (x + 227 + 1)) i (31 * p + (σ.1 (x + 227) 1).toInt64))), none, some (.int (nI i))] [] σ (fun r' => r' = ((.inl (some (.long (mhf (σ.1 (x + 227 + 1)) n (31 * p + (σ.1 (x + 227) 1).toInt64)))), σ) : jgR))) (n := n) ?_ (fun i hlt ih => ?_)
    · show Jr G (M_X6_withBuffer G) 16 _ _ _ _
      rw [jq_iloadW5 (M := M_X6_withBuffer G) 18 dX6_withBuffer_16 rfl]
      simp only [jq_aload0 (M := M_X6_withBuffer G) 19 dX6_withBuffer_18 rfl, jq_getR (M := M_X6_withBuffer G) 6 2 22 dX6_withBuffer_19 rfl rfl rfl, jq_getI (M := M_X6_withBuffer G) 0 1 25 dX6_withBuffer_22 rfl rfl rfl, jq_icmp_ge (M := M_X6_withBuffer G) 50 28 dX6_withBuffer_25 (by decide) rfl, jq_lload3 (M := M_X6_withBuffer G) 51 dX6_withBuffer_50 rfl, jq_lret (M := M_X6_withBuffer G) dX6_withBuffer_51 rfl, eq_self, jref_10, jref_11, jref_12, jk_v, jk_n, jcat_nil, jcat_i, jcat_r, jcat_l, jcat_d, jc2_i, jc2_r, jc2_n, jc1_i, jc1_r, jrf_some, jwtq_wI, jwtq_wh, jR_wI, jI_wh, jR_wh, List.cons.injEq, Value.int.injEq, Value.ref.injEq, Value.long.injEq, Value.double.injEq, true_and, and_true, and_self, Nat.reduceAdd, Nat.reduceLeDiff, if_true, if_false, ite_true, ite_false, jc1q_i, jc1q_r, jc1q_l, jwtq_wR, jwtq_wY, jI_wI, Nat.reduceEqDiff, and_false, false_and, not_false_eq_true, not_true_eq_false, r0, r1, r2, r3, r4, b0, hn, Int32.le_refl, jnr_i]
    · show Jr G (M_X6_withBuffer G) 16 _ _ _ _
      have hc : ¬ nI n ≤ nI i := nI_ge hlt (by omega)
      have hv : vp_in (nI i) 60 := vp_in_nI (by omega) (by decide)
      have hcl : (nI i).toNatClampNeg = i := nI_clamp (by omega)
      rw [mhf_s, ← nI_1] at ih
      rw [jq_iloadW5 (M := M_X6_withBuffer G) 18 dX6_withBuffer_16 rfl]
      generalize mhf (σ.1 (x + 227 + 1)) i (31 * p + (σ.1 (x + 227) 1).toInt64) = T at *
      rw [hn] at ih
      simp only [jq_aload0 (M := M_X6_withBuffer G) 19 dX6_withBuffer_18 rfl, jq_getR (M := M_X6_withBuffer G) 6 2 22 dX6_withBuffer_19 rfl rfl rfl, jq_getI (M := M_X6_withBuffer G) 0 1 25 dX6_withBuffer_22 rfl rfl rfl, jq_icmp_ge (M := M_X6_withBuffer G) 50 28 dX6_withBuffer_25 (by decide) rfl, jq_lload3 (M := M_X6_withBuffer G) 29 dX6_withBuffer_28 rfl, jq_aload0 (M := M_X6_withBuffer G) 30 dX6_withBuffer_29 rfl, jq_getR (M := M_X6_withBuffer G) 6 2 33 dX6_withBuffer_30 rfl rfl rfl, jq_getR (M := M_X6_withBuffer G) 0 0 36 dX6_withBuffer_33 rfl rfl rfl, jq_iloadW5 (M := M_X6_withBuffer G) 38 dX6_withBuffer_36 rfl, jq_iald (M := M_X6_withBuffer G) 39 dX6_withBuffer_38 rfl, jq_i2l (M := M_X6_withBuffer G) 40 dX6_withBuffer_39 rfl, jq_stat2 (M := M_X6_withBuffer G) I_X6_mixed dX6_withBuffer_40 rfl (Or.inl rfl) rfl, jq_lstore3 (M := M_X6_withBuffer G) 44 dX6_withBuffer_43 rfl, jq_iinc5 (M := M_X6_withBuffer G) 1 47 dX6_withBuffer_44 (by decide) rfl, jq_goto (M := M_X6_withBuffer G) 16 dX6_withBuffer_47 (by decide), eq_self, jref_10, jref_11, jref_12, jk_v, jk_n, jcat_nil, jcat_i, jcat_r, jcat_l, jcat_d, jc2_i, jc2_r, jc2_n, jc1_i, jc1_r, jrf_some, jwtq_wI, jwtq_wh, jR_wI, jI_wh, jR_wh, List.cons.injEq, Value.int.injEq, Value.ref.injEq, Value.long.injEq, Value.double.injEq, true_and, and_true, and_self, Nat.reduceAdd, Nat.reduceLeDiff, if_true, if_false, ite_true, ite_false, jc1q_i, jc1q_r, jc1q_l, jwtq_wR, jwtq_wY, jI_wI, Nat.reduceEqDiff, and_false, false_and, not_false_eq_true, not_true_eq_false, r0, r1, r2, r3, r4, b0, b1, l1, m1, hn, hc, hv, hcl, PX_X6_mixed, FX_X6_mixed, Pp_X6_mixed, Ff_X6_mixed]
      exact ih
  simp only [jq_lload1 (M := M_X6_withBuffer G) 1 dX6_withBuffer_0 rfl, jq_aload0 (M := M_X6_withBuffer G) 2 dX6_withBuffer_1 rfl, jq_getR (M := M_X6_withBuffer G) 6 2 5 dX6_withBuffer_2 rfl rfl rfl, jq_getI (M := M_X6_withBuffer G) 0 1 8 dX6_withBuffer_5 rfl rfl rfl, jq_i2l (M := M_X6_withBuffer G) 9 dX6_withBuffer_8 rfl, jq_stat2 (M := M_X6_withBuffer G) I_X6_mixed dX6_withBuffer_9 rfl (Or.inl rfl) rfl, jq_lstore3 (M := M_X6_withBuffer G) 13 dX6_withBuffer_12 rfl, jq_iconst (M := M_X6_withBuffer G) 0 14 dX6_withBuffer_13 (by decide) rfl, jq_istoreW5 (M := M_X6_withBuffer G) 16 dX6_withBuffer_14 rfl, eq_self, jref_10, jref_11, jref_12, jk_v, jk_n, jcat_nil, jcat_i, jcat_r, jcat_l, jcat_d, jc2_i, jc2_r, jc2_n, jc1_i, jc1_r, jrf_some, jwtq_wI, jwtq_wh, jR_wI, jI_wh, jR_wh, List.cons.injEq, Value.int.injEq, Value.ref.injEq, Value.long.injEq, Value.double.injEq, true_and, and_true, and_self, Nat.reduceAdd, Nat.reduceLeDiff, if_true, if_false, ite_true, ite_false, jc1q_i, jc1q_r, jc1q_l, jwtq_wR, jwtq_wY, jI_wI, Nat.reduceEqDiff, and_false, false_and, not_false_eq_true, not_true_eq_false, r0, r1, r2, r3, r4, b0, PX_X6_mixed, FX_X6_mixed, Pp_X6_mixed, Ff_X6_mixed]
  exact h
theorem met_X6_withBuffer {l : Launch} (hl : l.stackTraces = false) (D : va_G) (cy : Nat → ClassId) (G : jgG) : jMet l D cy G I_X6_withBuffer (S_X6_withBuffer G) :=
  jr_met hl (M_X6_withBuffer G) I_X6_withBuffer (S_X6_withBuffer G) RX6 rfl (by decide) rfl rfl rfl rfl (fun h => (by cases h)) jmAI jmAL (fun R h1 h2 => List.forall_mem_cons.mpr ⟨jpokF (r := (RX6, TX6, 4)) rfl jcls6 (by decide) (by decide) jm_276 (fun h => (by cases h)), List.forall_mem_cons.mpr ⟨jpokF (r := (RX0, TX0, 7)) rfl jcls0 (by decide) (by decide) jm_223 (fun h => (by cases h)), List.forall_mem_cons.mpr ⟨⟨⟨jm_491, jm_50, jd_X6_mixed, ⟨by rw [h1]; exact Nat.le_of_ble_eq_true rfl, by rw [h2]; exact Nat.le_of_ble_eq_true rfl⟩, Or.inr (Or.inl ⟨rfl, jm_489, jm_490, rfl⟩)⟩, met_X6_mixed hl D cy G⟩, List.forall_mem_cons.mpr ⟨jpokF (r := (RX0, TX0, 7)) rfl jcls0 (by decide) (by decide) jm_221 (fun h => (by cases h)), fun _ h => nomatch h⟩⟩⟩⟩) (fun h => absurd rfl h) (fun _ h => nomatch h) (bd_X6_withBuffer G)
def jh3 (σ : jgS) (h n : Nat) (p : Int64) : Int64 := jfd (fun q p => mhf (jrowV σ h q) 11 p) n p
def Pp_X6_withRows (G : jgG) (x : Nat) (p : Int64) (σ : jgS) : Prop := jSR G σ x
def Ff_X6_withRows (G : jgG) (x : Nat) (p : Int64) (σ : jgS) : jgR := (.inl (some (.long (jh3 σ (x + 1) (jn σ (x + 1)) p))), σ)
def P_X6_withRows (G : jgG) (As : List Value) (σ : jgS) : Prop := ∃ x : Nat, ∃ p : Int64, As = [.ref x, .long p] ∧ Pp_X6_withRows G x p σ
def F_X6_withRows (G : jgG) (As : List Value) (σ : jgS) : jgR := Ff_X6_withRows G (jaR As 0) (jaL As 1) σ
def S_X6_withRows (G : jgG) : jgSpec := jsp (P_X6_withRows G) (F_X6_withRows G)
theorem PX_X6_withRows {G : jgG} {x : Nat} {p : Int64} {σ : jgS} : P_X6_withRows G [.ref x, .long p] σ ↔ Pp_X6_withRows G x p σ := by unfold P_X6_withRows; simp [and_assoc]
theorem FX_X6_withRows {G : jgG} {x : Nat} {p : Int64} {σ : jgS} : F_X6_withRows G [.ref x, .long p] σ = Ff_X6_withRows G x p σ := rfl
def I_X6_withRows : jgI := (0, 6, yX6_withRows, cX6_withRows, 7, (some .long), 1, 8, 135, [])
theorem jd_X6_withRows : I_X6_withRows.2.2.1.cls ≠ "java/lang/invoke/MethodHandle" ∧ I_X6_withRows.2.2.1.cls ≠ "java/lang/invoke/VarHandle" ∧ (parseMethodDescriptor I_X6_withRows.2.2.1.desc).map (fun d => d.parameters.length) = some I_X6_withRows.2.2.2.2.2.2.1 := ⟨by decide +kernel, by decide +kernel, by decide +kernel⟩
def M_X6_withRows (G : jgG) : jgM := (cX6_withRows, [(10, jpF 6 0), (53, jpF 5 3), (269, jpC I_X6_mixed (S_X6_mixed G)), (303, jpC I_X6_row (S_X6_row G))], [], [], (some .long), false)
theorem lp_X6_withRows {G : jgG} {x q : Nat} {p h : Int64} {σ : jgS} {Φ : jgR → Prop} (hp : jSR G σ x) (hq : q < jn σ (x + 1)) (hE : ∀ o, Jr G (M_X6_withRows G) 47 [some (.ref x), some (.long p), none, some (.long (mhf (jrowV σ (x + 1) q) 11 h)), none, some (.int (nI q)), o] [] σ Φ) : Jr G (M_X6_withRows G) 20 [some (.ref x), some (.long p), none, some (.long (h)), none, some (.int (nI q)), some (.int 0)] [] σ Φ := by
  obtain ⟨⟨r0, r1, r2, r3, r4⟩, hT, hH, hB, hL, ⟨⟨x1, x2⟩, x3, x4⟩, hu, hh⟩ := id hp
  obtain ⟨⟨t0, ⟨t1, t2, t3⟩, ⟨⟨a1, k1⟩, ⟨a2, k2⟩, ⟨a3, k3⟩⟩, tr, td⟩, hn, hn24⟩ := id hT
  have hqc : (nI q).toNatClampNeg = q := nI_clamp (by omega)
  have n1 : ¬ (nI q < 0 ∨ ¬ nI q < σ.1 (x + 1) 3) := by
    rintro (z | z)
    · exact nI_pos (by omega) z
    · exact z (by rw [hn]; exact (nI_ltI (by omega) (by omega)).mpr hq)
  refine jloop (P := fun i => Jr G (M_X6_withRows G) 20 [some (.ref x), some (.long p), none, some (.long (mhf (jrowV σ (x + 1) q) i h)), none, some (.int (nI q)), some (.int (nI i))] [] σ Φ) (n := 11) ?_ (fun i hlt ih => ?_)
  · show Jr G (M_X6_withRows G) 20 _ _ _ _
    rw [jq_iloadW6 (M := M_X6_withRows G) 22 dX6_withRows_20 rfl]
    simp only [jq_bipush (M := M_X6_withRows G) 11 24 dX6_withRows_22 (by decide) rfl, jq_icmp_ge (M := M_X6_withRows G) 47 27 dX6_withRows_24 (by decide) rfl, eq_self, jref_10, jref_11, jref_12, jk_v, jk_n, jcat_nil, jcat_i, jcat_r, jcat_l, jcat_d, jc2_i, jc2_r, jc2_n, jc1_i, jc1_r, jrf_some, jwtq_wI, jwtq_wh, jR_wI, jI_wh, jR_wh, List.cons.injEq, Value.int.injEq, Value.ref.injEq, Value.long.injEq, Value.double.injEq, true_and, and_true, and_self, Nat.reduceAdd, Nat.reduceLeDiff, if_true, if_false, ite_true, ite_false, jc1q_i, jc1q_r, jc1q_l, jwtq_wR, jwtq_wY, jI_wI, Nat.reduceEqDiff, and_false, false_and, not_false_eq_true, not_true_eq_false, show (11 : Int32) ≤ nI 11 from by decide]
    exact hE _
  · show Jr G (M_X6_withRows G) 20 _ _ _ _
    have hc : ¬ (11 : Int32) ≤ nI i := nI_ge (b := 11) hlt (by decide)
    have n2 : ¬ (nI i < 0 ∨ 10 < nI i) := by
      rintro (z | z)
      · exact nI_pos (by omega) z
      · exact absurd ((nI_ltI (a := 10) (b := i) (by decide) (by omega)).mp z) (by omega)
    have hF : Ff_X6_row G x (nI q) (nI i) σ = (.inl (some (.int (jrowV σ (x + 1) q i))), σ) := by
      unfold Ff_X6_row
      rw [if_neg n1, if_neg n2, hqc, nI_clamp (by omega)]
    rw [mhf_s, ← nI_1] at ih
    rw [jq_iloadW6 (M := M_X6_withRows G) 22 dX6_withRows_20 rfl]
    generalize mhf (jrowV σ (x + 1) q) i h = T at *
    simp only [jq_bipush (M := M_X6_withRows G) 11 24 dX6_withRows_22 (by decide) rfl, jq_icmp_ge (M := M_X6_withRows G) 47 27 dX6_withRows_24 (by decide) rfl, jq_lload3 (M := M_X6_withRows G) 28 dX6_withRows_27 rfl, jq_aload0 (M := M_X6_withRows G) 29 dX6_withRows_28 rfl, jq_iloadW5 (M := M_X6_withRows G) 31 dX6_withRows_29 rfl, jq_iloadW6 (M := M_X6_withRows G) 33 dX6_withRows_31 rfl, jq_virt2 (M := M_X6_withRows G) I_X6_row 6 dX6_withRows_33 rfl rfl rfl rfl, jq_i2l (M := M_X6_withRows G) 37 dX6_withRows_36 rfl, jq_stat2 (M := M_X6_withRows G) I_X6_mixed dX6_withRows_37 rfl (Or.inl rfl) rfl, jq_lstore3 (M := M_X6_withRows G) 41 dX6_withRows_40 rfl, jq_iinc6 (M := M_X6_withRows G) 1 44 dX6_withRows_41 (by decide) rfl, jq_goto (M := M_X6_withRows G) 20 dX6_withRows_44 (by decide), eq_self, jref_10, jref_11, jref_12, jk_v, jk_n, jcat_nil, jcat_i, jcat_r, jcat_l, jcat_d, jc2_i, jc2_r, jc2_n, jc1_i, jc1_r, jrf_some, jwtq_wI, jwtq_wh, jR_wI, jI_wh, jR_wh, List.cons.injEq, Value.int.injEq, Value.ref.injEq, Value.long.injEq, Value.double.injEq, true_and, and_true, and_self, Nat.reduceAdd, Nat.reduceLeDiff, if_true, if_false, ite_true, ite_false, jc1q_i, jc1q_r, jc1q_l, jwtq_wR, jwtq_wY, jI_wI, Nat.reduceEqDiff, and_false, false_and, not_false_eq_true, not_true_eq_false, hc, r0, r1, r2, r3, r4, PX_X6_row, FX_X6_row, Pp_X6_row, hF, show jSR G σ x from hp, PX_X6_mixed, FX_X6_mixed, Pp_X6_mixed, Ff_X6_mixed]
    exact ih
theorem bd_X6_withRows (G : jgG) : ∀ (As : List Value) (σ : jgS) (r : jgR), S_X6_withRows G As σ r → jhs σ ≤ jhs r.2 ∧ jsl σ ≤ jsl r.2 ∧ (jent As).length ≤ I_X6_withRows.2.2.2.2.1 ∧ Jr G (M_X6_withRows G) 0 (jentry As I_X6_withRows.2.2.2.2.1) [] σ (fun r' => r' = r) := by
  rintro As σ r ⟨⟨x, p, rfl, hp⟩, rfl⟩
  rw [FX_X6_withRows]
  refine ⟨(by first | exact Nat.le_refl _ | (show _ ≤ _; simp only [F_X6_withRows, Ff_X6_withRows]; (repeat' split) <;> first | exact Nat.le_refl _ | exact Nat.le_succ _ | exact Nat.le_add_right _ _)), (by first | exact Nat.le_refl _ | (show _ ≤ _; simp only [F_X6_withRows, Ff_X6_withRows]; (repeat' split) <;> first | exact Nat.le_refl _ | exact Nat.le_succ _ | exact Nat.le_add_right _ _)), by simp [jent, Value.category, I_X6_withRows], ?_⟩
  show Jr G (M_X6_withRows G) 0 [some (.ref x), some (.long p), none, none, none, none, none] [] σ (fun r' => r' = Ff_X6_withRows G x p σ)
  have hp0 : jSR G σ x := hp
  obtain ⟨⟨r0, r1, r2, r3, r4⟩, hT, hH, hB, hL, ⟨⟨x1, x2⟩, x3, x4⟩, hu, hh⟩ := id hp
  obtain ⟨⟨t0, ⟨t1, t2, t3⟩, ⟨⟨a1, k1⟩, ⟨a2, k2⟩, ⟨a3, k3⟩⟩, tr, td⟩, hn, hn24⟩ := id hT
  have h : ∀ o, Jr G (M_X6_withRows G) 5 [some (.ref x), some (.long p), none, some (.long (jh3 σ (x + 1) 0 p)), none, some (.int (nI 0)), o] [] σ (fun r' => r' = Ff_X6_withRows G x p σ) := by
    refine jloop (P := fun i => ∀ o, Jr G (M_X6_withRows G) 5 [some (.ref x), some (.long p), none, some (.long (jh3 σ (x + 1) i p)), none, some (.int (nI i)), o] [] σ (fun r' => r' = Ff_X6_withRows G x p σ)) (n := jn σ (x + 1)) (fun o => ?_) (fun i hlt ih o => ?_)
    · show Jr G (M_X6_withRows G) 5 _ _ _ _
      rw [jq_iloadW5 (M := M_X6_withRows G) 7 dX6_withRows_5 rfl]
      simp only [jq_aload0 (M := M_X6_withRows G) 8 dX6_withRows_7 rfl, jq_getR (M := M_X6_withRows G) 6 0 11 dX6_withRows_8 rfl rfl rfl, jq_getI (M := M_X6_withRows G) 5 3 14 dX6_withRows_11 rfl rfl rfl, jq_icmp_ge (M := M_X6_withRows G) 53 17 dX6_withRows_14 (by decide) rfl, jq_lload3 (M := M_X6_withRows G) 54 dX6_withRows_53 rfl, jq_lret (M := M_X6_withRows G) dX6_withRows_54 rfl, eq_self, jref_10, jref_11, jref_12, jk_v, jk_n, jcat_nil, jcat_i, jcat_r, jcat_l, jcat_d, jc2_i, jc2_r, jc2_n, jc1_i, jc1_r, jrf_some, jwtq_wI, jwtq_wh, jR_wI, jI_wh, jR_wh, List.cons.injEq, Value.int.injEq, Value.ref.injEq, Value.long.injEq, Value.double.injEq, true_and, and_true, and_self, Nat.reduceAdd, Nat.reduceLeDiff, if_true, if_false, ite_true, ite_false, jc1q_i, jc1q_r, jc1q_l, jwtq_wR, jwtq_wY, jI_wI, Nat.reduceEqDiff, and_false, false_and, not_false_eq_true, not_true_eq_false, r0, r1, r2, r3, r4, t0, hn, Int32.le_refl, jnr_i]
      rfl
    · show Jr G (M_X6_withRows G) 5 _ _ _ _
      have hc : ¬ nI (jn σ (x + 1)) ≤ nI i := nI_ge hlt (by omega)
      rw [jq_iloadW5 (M := M_X6_withRows G) 7 dX6_withRows_5 rfl]
      simp only [jq_aload0 (M := M_X6_withRows G) 8 dX6_withRows_7 rfl, jq_getR (M := M_X6_withRows G) 6 0 11 dX6_withRows_8 rfl rfl rfl, jq_getI (M := M_X6_withRows G) 5 3 14 dX6_withRows_11 rfl rfl rfl, jq_icmp_ge (M := M_X6_withRows G) 53 17 dX6_withRows_14 (by decide) rfl, jq_iconst (M := M_X6_withRows G) 0 18 dX6_withRows_17 (by decide) rfl, jq_istoreW6 (M := M_X6_withRows G) 20 dX6_withRows_18 rfl, eq_self, jref_10, jref_11, jref_12, jk_v, jk_n, jcat_nil, jcat_i, jcat_r, jcat_l, jcat_d, jc2_i, jc2_r, jc2_n, jc1_i, jc1_r, jrf_some, jwtq_wI, jwtq_wh, jR_wI, jI_wh, jR_wh, List.cons.injEq, Value.int.injEq, Value.ref.injEq, Value.long.injEq, Value.double.injEq, true_and, and_true, and_self, Nat.reduceAdd, Nat.reduceLeDiff, if_true, if_false, ite_true, ite_false, jc1q_i, jc1q_r, jc1q_l, jwtq_wR, jwtq_wY, jI_wI, Nat.reduceEqDiff, and_false, false_and, not_false_eq_true, not_true_eq_false, r0, r1, r2, r3, r4, t0, hn, hc]
      refine lp_X6_withRows hp0 hlt (fun o => ?_)
      simp only [jq_iinc5 (M := M_X6_withRows G) 1 50 dX6_withRows_47 (by decide) rfl, jq_goto (M := M_X6_withRows G) 5 dX6_withRows_50 (by decide), eq_self, jref_10, jref_11, jref_12, jk_v, jk_n, jcat_nil, jcat_i, jcat_r, jcat_l, jcat_d, jc2_i, jc2_r, jc2_n, jc1_i, jc1_r, jrf_some, jwtq_wI, jwtq_wh, jR_wI, jI_wh, jR_wh, List.cons.injEq, Value.int.injEq, Value.ref.injEq, Value.long.injEq, Value.double.injEq, true_and, and_true, and_self, Nat.reduceAdd, Nat.reduceLeDiff, if_true, if_false, ite_true, ite_false, jc1q_i, jc1q_r, jc1q_l, jwtq_wR, jwtq_wY, jI_wI, Nat.reduceEqDiff, and_false, false_and, not_false_eq_true, not_true_eq_false, nI_1]
      exact ih o
  simp only [jq_lload1 (M := M_X6_withRows G) 1 dX6_withRows_0 rfl, jq_lstore3 (M := M_X6_withRows G) 2 dX6_withRows_1 rfl, jq_iconst (M := M_X6_withRows G) 0 3 dX6_withRows_2 (by decide) rfl, jq_istoreW5 (M := M_X6_withRows G) 5 dX6_withRows_3 rfl, eq_self, jref_10, jref_11, jref_12, jk_v, jk_n, jcat_nil, jcat_i, jcat_r, jcat_l, jcat_d, jc2_i, jc2_r, jc2_n, jc1_i, jc1_r, jrf_some, jwtq_wI, jwtq_wh, jR_wI, jI_wh, jR_wh, List.cons.injEq, Value.int.injEq, Value.ref.injEq, Value.long.injEq, Value.double.injEq, true_and, and_true, and_self, Nat.reduceAdd, Nat.reduceLeDiff, if_true, if_false, ite_true, ite_false, jc1q_i, jc1q_r, jc1q_l, jwtq_wR, jwtq_wY, jI_wI, Nat.reduceEqDiff, and_false, false_and, not_false_eq_true, not_true_eq_false]
  exact h none
theorem met_X6_withRows {l : Launch} (hl : l.stackTraces = false) (D : va_G) (cy : Nat → ClassId) (G : jgG) : jMet l D cy G I_X6_withRows (S_X6_withRows G) :=
  jr_met hl (M_X6_withRows G) I_X6_withRows (S_X6_withRows G) RX6 rfl (by decide) rfl rfl rfl rfl (fun h => (by cases h)) jmAI jmAL (fun R h1 h2 => List.forall_mem_cons.mpr ⟨jpokF (r := (RX6, TX6, 4)) rfl jcls6 (by decide) (by decide) jm_274 (fun h => (by cases h)), List.forall_mem_cons.mpr ⟨jpokF (r := (RX5, TX5, 8)) rfl jcls5 (by decide) (by decide) jm_167 (fun h => (by cases h)), List.forall_mem_cons.mpr ⟨⟨⟨jm_491, jm_50, jd_X6_mixed, ⟨by rw [h1]; exact Nat.le_of_ble_eq_true rfl, by rw [h2]; exact Nat.le_of_ble_eq_true rfl⟩, Or.inr (Or.inl ⟨rfl, jm_489, jm_490, rfl⟩)⟩, met_X6_mixed hl D cy G⟩, List.forall_mem_cons.mpr ⟨⟨⟨jm_500, jm_50, jd_X6_row, ⟨by rw [h1]; exact Nat.le_of_ble_eq_true rfl, by rw [h2]; exact Nat.le_of_ble_eq_true rfl⟩, Or.inl ⟨rfl, jm_497, jm_498, jm_499, rfl, Nat.le_of_ble_eq_true rfl, _, rfl, rfl⟩⟩, met_X6_row hl D cy G⟩, fun _ h => nomatch h⟩⟩⟩⟩) (fun h => absurd rfl h) (fun _ h => nomatch h) (bd_X6_withRows G)
/-- the readers' part: the number so far and the state -/
abbrev jDT : Type := Int64 × jgS
def jdT (x r w : Nat) (T : jDT) : jDT := (31 * T.1 + ((jAl T.2 x r 24).1 (x + 232) (if w = 0 then 1 else if w = 1 then 0 else 3)).toInt64, jAl T.2 x r 24)
def jdG (x r i : Nat) (T : jDT) : jDT := jfd (jdT x r) i T
def jdr (x r : Nat) (T : jDT) : jDT := jdG x r 3 (mhf (jrdV T.2 (x + 1) r) 7 T.1, jAl T.2 x r 1)
def jds (x : Nat) (T : jDT) (n : Nat) : jDT := jfd (jdr x) n T
theorem jdG_s (x r i : Nat) (T : jDT) : jdG x r (i + 1) T = jdT x r i (jdG x r i T) := jfd_s _ _ _
theorem jds_s (x : Nat) (T : jDT) (n : Nat) : jds x T (n + 1) = jdr x n (jds x T n) := jfd_s _ _ _
theorem jdG_ls (x r : Nat) (T : jDT) : ∀ i, jLs x T.2 (jdG x r i T).2
  | 0 => jLs_r _ _
  | i + 1 => by rw [jdG_s]; exact jLs_t (jdG_ls x r T i) (jLs_A _ _ _ _)
theorem jdr_ls (x r : Nat) (T : jDT) : jLs x T.2 (jdr x r T).2 := jLs_t (jLs_A T.2 x r 1) (jdG_ls x r (mhf (jrdV T.2 (x + 1) r) 7 T.1, jAl T.2 x r 1) 3)
theorem jds_ls (x : Nat) (T : jDT) : ∀ n, jLs x T.2 (jds x T n).2
  | 0 => jLs_r _ _
  | n + 1 => by rw [jds_s]; exact jLs_t (jds_ls x T n) (jdr_ls _ _ _)
def Pp_X6_withReaders (G : jgG) (x : Nat) (p : Int64) (σ : jgS) : Prop := jSR G σ x
def Ff_X6_withReaders (G : jgG) (x : Nat) (p : Int64) (σ : jgS) : jgR := (.inl (some (.long (jds x (p, σ) 4).1)), (jds x (p, σ) 4).2)
def P_X6_withReaders (G : jgG) (As : List Value) (σ : jgS) : Prop := ∃ x : Nat, ∃ p : Int64, As = [.ref x, .long p] ∧ Pp_X6_withReaders G x p σ
def F_X6_withReaders (G : jgG) (As : List Value) (σ : jgS) : jgR := Ff_X6_withReaders G (jaR As 0) (jaL As 1) σ
def S_X6_withReaders (G : jgG) : jgSpec := jsp (P_X6_withReaders G) (F_X6_withReaders G)
theorem PX_X6_withReaders {G : jgG} {x : Nat} {p : Int64} {σ : jgS} : P_X6_withReaders G [.ref x, .long p] σ ↔ Pp_X6_withReaders G x p σ := by unfold P_X6_withReaders; simp [and_assoc]
theorem FX_X6_withReaders {G : jgG} {x : Nat} {p : Int64} {σ : jgS} : F_X6_withReaders G [.ref x, .long p] σ = Ff_X6_withReaders G x p σ := rfl
def I_X6_withReaders : jgI := (0, 6, yX6_withReaders, cX6_withReaders, 7, (some .long), 1, 8, 135, [])
theorem jd_X6_withReaders : I_X6_withReaders.2.2.1.cls ≠ "java/lang/invoke/MethodHandle" ∧ I_X6_withReaders.2.2.1.cls ≠ "java/lang/invoke/VarHandle" ∧ (parseMethodDescriptor I_X6_withReaders.2.2.1.desc).map (fun d => d.parameters.length) = some I_X6_withReaders.2.2.2.2.2.2.1 := ⟨by decide +kernel, by decide +kernel, by decide +kernel⟩
def M_X6_withReaders (G : jgG) : jgM := (cX6_withReaders, [(269, jpC I_X6_mixed (S_X6_mixed G)), (306, jpC I_X6_reader (S_X6_reader G)), (309, jpC I_X6_ifTaken (S_X6_ifTaken G))], [], [], (some .long), false)
theorem lpa_X6_withReaders {G : jgG} {x r : Nat} {p h : Int64} {σ : jgS} {Φ : jgR → Prop} (hp : jSR G σ x) (hr : r < 4) (hE : ∀ o, Jr G (M_X6_withReaders G) 41 [some (.ref x), some (.long p), none, some (.long (mhf (jrdV σ (x + 1) r) 7 h)), none, some (.int (nI r)), o] [] (jAl σ x r 1) Φ) : Jr G (M_X6_withReaders G) 14 [some (.ref x), some (.long p), none, some (.long (h)), none, some (.int (nI r)), some (.int 0)] [] σ Φ := by
  obtain ⟨⟨r0, r1, r2, r3, r4⟩, hT, hH, hB, hL, ⟨⟨x1, x2⟩, x3, x4⟩, hu, hh⟩ := id hp
  have hrc : (nI r).toNatClampNeg = r := nI_clamp (by omega)
  have n1 : ¬ (nI r < 0 ∨ ¬ nI r < 4) := by
    rintro (z | z)
    · exact nI_pos (by omega) z
    · exact z ((nI_ltI (a := r) (b := 4) (by omega) (by decide)).mpr hr)
  have hF : ∀ i, i < 6 → Ff_X6_reader G x (nI r) (nI i) σ = (.inl (some (.int (jrdV σ (x + 1) r i))), σ) := by
    intro i hi
    have n2 : ¬ (nI i < 0 ∨ 6 < nI i) := by
      rintro (z | z)
      · exact nI_pos (by omega) z
      · exact absurd ((nI_ltI (a := 6) (b := i) (by decide) (by omega)).mp z) (by omega)
    have n3 : ¬ nI i = 6 := fun z => by have := congrArg Int32.toNatClampNeg z; rw [nI_clamp (by omega), show (6 : Int32).toNatClampNeg = 6 from by decide] at this; omega
    unfold Ff_X6_reader
    rw [if_neg n1, if_neg n2, if_neg n3, hrc, nI_clamp (by omega)]
  have hF6 : Ff_X6_reader G x (nI r) 6 σ = (.inl (some (.int (jrdV σ (x + 1) r 6))), jAl σ x r 1) := by
    unfold Ff_X6_reader
    rw [if_neg n1, if_neg (by decide), if_pos rfl, hrc, jAl_F G hr, show (6 : Int32).toNatClampNeg = 6 from by decide]
  refine jloop (P := fun i => Jr G (M_X6_withReaders G) 14 [some (.ref x), some (.long p), none, some (.long (mhf (jrdV σ (x + 1) r) i h)), none, some (.int (nI r)), some (.int (nI i))] [] σ Φ) (n := 6) ?_ (fun i hlt ih => ?_)
  · show Jr G (M_X6_withReaders G) 14 _ _ _ _
    have hc : ¬ (7 : Int32) ≤ 6 := by decide
    have e6 : (nI 6 : Int32) = 6 := rfl
    rw [jq_iloadW6 (M := M_X6_withReaders G) 16 dX6_withReaders_14 rfl]
    simp only [jq_bipush (M := M_X6_withReaders G) 7 18 dX6_withReaders_16 (by decide) rfl, jq_icmp_ge (M := M_X6_withReaders G) 41 21 dX6_withReaders_18 (by decide) rfl, jq_lload3 (M := M_X6_withReaders G) 22 dX6_withReaders_21 rfl, jq_aload0 (M := M_X6_withReaders G) 23 dX6_withReaders_22 rfl, jq_iloadW5 (M := M_X6_withReaders G) 25 dX6_withReaders_23 rfl, jq_iloadW6 (M := M_X6_withReaders G) 27 dX6_withReaders_25 rfl, jq_virt2 (M := M_X6_withReaders G) I_X6_reader 6 dX6_withReaders_27 rfl rfl rfl rfl, jq_i2l (M := M_X6_withReaders G) 31 dX6_withReaders_30 rfl, jq_stat2 (M := M_X6_withReaders G) I_X6_mixed dX6_withReaders_31 rfl (Or.inl rfl) rfl, jq_lstore3 (M := M_X6_withReaders G) 35 dX6_withReaders_34 rfl, jq_iinc6 (M := M_X6_withReaders G) 1 38 dX6_withReaders_35 (by decide) rfl, jq_goto (M := M_X6_withReaders G) 14 dX6_withReaders_38 (by decide), eq_self, jref_10, jref_11, jref_12, jk_v, jk_n, jcat_nil, jcat_i, jcat_r, jcat_l, jcat_d, jc2_i, jc2_r, jc2_n, jc1_i, jc1_r, jrf_some, jwtq_wI, jwtq_wh, jR_wI, jI_wh, jR_wh, List.cons.injEq, Value.int.injEq, Value.ref.injEq, Value.long.injEq, Value.double.injEq, true_and, and_true, and_self, Nat.reduceAdd, Nat.reduceLeDiff, if_true, if_false, ite_true, ite_false, jc1q_i, jc1q_r, jc1q_l, jwtq_wR, jwtq_wY, jI_wI, Nat.reduceEqDiff, and_false, false_and, not_false_eq_true, not_true_eq_false, e6, hc, r0, r1, r2, r3, r4, PX_X6_reader, FX_X6_reader, Pp_X6_reader, hF6, show jSR G σ x from hp, PX_X6_mixed, FX_X6_mixed, Pp_X6_mixed, Ff_X6_mixed]
    show Jr G (M_X6_withReaders G) 14 _ _ _ _
    rw [jq_iloadW6 (M := M_X6_withReaders G) 16 dX6_withReaders_14 rfl]
    simp only [jq_bipush (M := M_X6_withReaders G) 7 18 dX6_withReaders_16 (by decide) rfl, jq_icmp_ge (M := M_X6_withReaders G) 41 21 dX6_withReaders_18 (by decide) rfl, eq_self, jref_10, jref_11, jref_12, jk_v, jk_n, jcat_nil, jcat_i, jcat_r, jcat_l, jcat_d, jc2_i, jc2_r, jc2_n, jc1_i, jc1_r, jrf_some, jwtq_wI, jwtq_wh, jR_wI, jI_wh, jR_wh, List.cons.injEq, Value.int.injEq, Value.ref.injEq, Value.long.injEq, Value.double.injEq, true_and, and_true, and_self, Nat.reduceAdd, Nat.reduceLeDiff, if_true, if_false, ite_true, ite_false, jc1q_i, jc1q_r, jc1q_l, jwtq_wR, jwtq_wY, jI_wI, Nat.reduceEqDiff, and_false, false_and, not_false_eq_true, not_true_eq_false, show (7 : Int32) ≤ 6 + 1 from by decide]
    exact hE _
  · show Jr G (M_X6_withReaders G) 14 _ _ _ _
    have hc : ¬ (7 : Int32) ≤ nI i := nI_ge (b := 7) (by omega) (by decide)
    have hFi := hF i hlt
    rw [mhf_s, ← nI_1] at ih
    rw [jq_iloadW6 (M := M_X6_withReaders G) 16 dX6_withReaders_14 rfl]
    generalize mhf (jrdV σ (x + 1) r) i h = T at *
    simp only [jq_bipush (M := M_X6_withReaders G) 7 18 dX6_withReaders_16 (by decide) rfl, jq_icmp_ge (M := M_X6_withReaders G) 41 21 dX6_withReaders_18 (by decide) rfl, jq_lload3 (M := M_X6_withReaders G) 22 dX6_withReaders_21 rfl, jq_aload0 (M := M_X6_withReaders G) 23 dX6_withReaders_22 rfl, jq_iloadW5 (M := M_X6_withReaders G) 25 dX6_withReaders_23 rfl, jq_iloadW6 (M := M_X6_withReaders G) 27 dX6_withReaders_25 rfl, jq_virt2 (M := M_X6_withReaders G) I_X6_reader 6 dX6_withReaders_27 rfl rfl rfl rfl, jq_i2l (M := M_X6_withReaders G) 31 dX6_withReaders_30 rfl, jq_stat2 (M := M_X6_withReaders G) I_X6_mixed dX6_withReaders_31 rfl (Or.inl rfl) rfl, jq_lstore3 (M := M_X6_withReaders G) 35 dX6_withReaders_34 rfl, jq_iinc6 (M := M_X6_withReaders G) 1 38 dX6_withReaders_35 (by decide) rfl, jq_goto (M := M_X6_withReaders G) 14 dX6_withReaders_38 (by decide), eq_self, jref_10, jref_11, jref_12, jk_v, jk_n, jcat_nil, jcat_i, jcat_r, jcat_l, jcat_d, jc2_i, jc2_r, jc2_n, jc1_i, jc1_r, jrf_some, jwtq_wI, jwtq_wh, jR_wI, jI_wh, jR_wh, List.cons.injEq, Value.int.injEq, Value.ref.injEq, Value.long.injEq, Value.double.injEq, true_and, and_true, and_self, Nat.reduceAdd, Nat.reduceLeDiff, if_true, if_false, ite_true, ite_false, jc1q_i, jc1q_r, jc1q_l, jwtq_wR, jwtq_wY, jI_wI, Nat.reduceEqDiff, and_false, false_and, not_false_eq_true, not_true_eq_false, hc, r0, r1, r2, r3, r4, PX_X6_reader, FX_X6_reader, Pp_X6_reader, hFi, show jSR G σ x from hp, PX_X6_mixed, FX_X6_mixed, Pp_X6_mixed, Ff_X6_mixed]
    exact ih
theorem lpb_X6_withReaders {G : jgG} {x r : Nat} {p : Int64} {T : jDT} {Φ : jgR → Prop} (hp0 : jSR G T.2 x) (hr : r < 4) (hE : ∀ o, Jr G (M_X6_withReaders G) 72 [some (.ref x), some (.long p), none, some (.long ((jdG x r 3 T).1)), none, some (.int (nI r)), o] [] (jdG x r 3 T).2 Φ) : Jr G (M_X6_withReaders G) 44 [some (.ref x), some (.long p), none, some (.long (T.1)), none, some (.int (nI r)), some (.int 0)] [] T.2 Φ := by
  have n1 : ¬ (nI r < 0 ∨ ¬ nI r < 4) := by
    rintro (z | z)
    · exact nI_pos (by omega) z
    · exact z ((nI_ltI (a := r) (b := 4) (by omega) (by decide)).mpr hr)
  refine jloop (P := fun i => Jr G (M_X6_withReaders G) 44 [some (.ref x), some (.long p), none, some (.long ((jdG x r i T).1)), none, some (.int (nI r)), some (.int (nI i))] [] (jdG x r i T).2 Φ) (n := 3) ?_ (fun i hlt ih => ?_)
  · show Jr G (M_X6_withReaders G) 44 _ _ _ _
    rw [jq_iloadW6 (M := M_X6_withReaders G) 46 dX6_withReaders_44 rfl]
    simp only [jq_iconst (M := M_X6_withReaders G) 3 47 dX6_withReaders_46 (by decide) rfl, jq_icmp_ge (M := M_X6_withReaders G) 72 50 dX6_withReaders_47 (by decide) rfl, eq_self, jref_10, jref_11, jref_12, jk_v, jk_n, jcat_nil, jcat_i, jcat_r, jcat_l, jcat_d, jc2_i, jc2_r, jc2_n, jc1_i, jc1_r, jrf_some, jwtq_wI, jwtq_wh, jR_wI, jI_wh, jR_wh, List.cons.injEq, Value.int.injEq, Value.ref.injEq, Value.long.injEq, Value.double.injEq, true_and, and_true, and_self, Nat.reduceAdd, Nat.reduceLeDiff, if_true, if_false, ite_true, ite_false, jc1q_i, jc1q_r, jc1q_l, jwtq_wR, jwtq_wY, jI_wI, Nat.reduceEqDiff, and_false, false_and, not_false_eq_true, not_true_eq_false, show (3 : Int32) ≤ nI 3 from by decide]
    exact hE _
  · show Jr G (M_X6_withReaders G) 44 _ _ _ _
    have hc : ¬ (3 : Int32) ≤ nI i := nI_ge (b := 3) (by omega) (by decide)
    have hp := jLs_SR (jdG_ls x r T i) hp0
    rw [jdG_s, ← nI_1] at ih
    rw [jq_iloadW6 (M := M_X6_withReaders G) 46 dX6_withReaders_44 rfl]
    generalize jdG x r i T = D at *
    have n2 : ¬ (nI i < 0 ∨ 2 < nI i) := by
      rintro (z | z)
      · exact nI_pos (by omega) z
      · exact absurd ((nI_ltI (a := 2) (b := i) (by decide) (by omega)).mp z) (by omega)
    have hF : Ff_X6_ifTaken G x (nI r) 24 (nI i) D.2 = (.inl (some (.int ((jAl D.2 x r 24).1 (x + 232) (if i = 0 then 1 else if i = 1 then 0 else 3)))), jAl D.2 x r 24) := by
      unfold Ff_X6_ifTaken
      rw [if_neg n1, if_neg (by decide), if_neg n2, jAl_F G hr, nI_clamp (n := i) (by omega)]
    obtain ⟨⟨r0, r1, r2, r3, r4⟩, hT, hH, hB, hL, ⟨⟨x1, x2⟩, x3, x4⟩, hu, hh⟩ := id hp
    simp only [jq_iconst (M := M_X6_withReaders G) 3 47 dX6_withReaders_46 (by decide) rfl, jq_icmp_ge (M := M_X6_withReaders G) 72 50 dX6_withReaders_47 (by decide) rfl, jq_lload3 (M := M_X6_withReaders G) 51 dX6_withReaders_50 rfl, jq_aload0 (M := M_X6_withReaders G) 52 dX6_withReaders_51 rfl, jq_iloadW5 (M := M_X6_withReaders G) 54 dX6_withReaders_52 rfl, jq_bipush (M := M_X6_withReaders G) 24 56 dX6_withReaders_54 (by decide) rfl, jq_iloadW6 (M := M_X6_withReaders G) 58 dX6_withReaders_56 rfl, jq_virt3 (M := M_X6_withReaders G) I_X6_ifTaken 6 dX6_withReaders_58 rfl rfl rfl rfl, jq_i2l (M := M_X6_withReaders G) 62 dX6_withReaders_61 rfl, jq_stat2 (M := M_X6_withReaders G) I_X6_mixed dX6_withReaders_62 rfl (Or.inl rfl) rfl, jq_lstore3 (M := M_X6_withReaders G) 66 dX6_withReaders_65 rfl, jq_iinc6 (M := M_X6_withReaders G) 1 69 dX6_withReaders_66 (by decide) rfl, jq_goto (M := M_X6_withReaders G) 44 dX6_withReaders_69 (by decide), eq_self, jref_10, jref_11, jref_12, jk_v, jk_n, jcat_nil, jcat_i, jcat_r, jcat_l, jcat_d, jc2_i, jc2_r, jc2_n, jc1_i, jc1_r, jrf_some, jwtq_wI, jwtq_wh, jR_wI, jI_wh, jR_wh, List.cons.injEq, Value.int.injEq, Value.ref.injEq, Value.long.injEq, Value.double.injEq, true_and, and_true, and_self, Nat.reduceAdd, Nat.reduceLeDiff, if_true, if_false, ite_true, ite_false, jc1q_i, jc1q_r, jc1q_l, jwtq_wR, jwtq_wY, jI_wI, Nat.reduceEqDiff, and_false, false_and, not_false_eq_true, not_true_eq_false, hc, r0, r1, r2, r3, r4, PX_X6_ifTaken, FX_X6_ifTaken, Pp_X6_ifTaken, hF, show jSR G D.2 x from hp, PX_X6_mixed, FX_X6_mixed, Pp_X6_mixed, Ff_X6_mixed]
    exact ih
theorem bd_X6_withReaders (G : jgG) : ∀ (As : List Value) (σ : jgS) (r : jgR), S_X6_withReaders G As σ r → jhs σ ≤ jhs r.2 ∧ jsl σ ≤ jsl r.2 ∧ (jent As).length ≤ I_X6_withReaders.2.2.2.2.1 ∧ Jr G (M_X6_withReaders G) 0 (jentry As I_X6_withReaders.2.2.2.2.1) [] σ (fun r' => r' = r) := by
  rintro As σ r ⟨⟨x, p, rfl, hp⟩, rfl⟩
  rw [FX_X6_withReaders]
  refine ⟨(jle2 (jds_ls x (p, σ) 4).1).1, (jle2 (jds_ls x (p, σ) 4).1).2, by simp [jent, Value.category, I_X6_withReaders], ?_⟩
  show Jr G (M_X6_withReaders G) 0 [some (.ref x), some (.long p), none, none, none, none, none] [] σ (fun r' => r' = Ff_X6_withReaders G x p σ)
  have hp0 : jSR G σ x := hp
  have h : ∀ o, Jr G (M_X6_withReaders G) 5 [some (.ref x), some (.long p), none, some (.long ((jds x (p, σ) 0).1)), none, some (.int (nI 0)), o] [] (jds x (p, σ) 0).2 (fun r' => r' = Ff_X6_withReaders G x p σ) := by
    refine jloop (P := fun i => ∀ o, Jr G (M_X6_withReaders G) 5 [some (.ref x), some (.long p), none, some (.long ((jds x (p, σ) i).1)), none, some (.int (nI i)), o] [] (jds x (p, σ) i).2 (fun r' => r' = Ff_X6_withReaders G x p σ)) (n := 4) (fun o => ?_) (fun i hlt ih o => ?_)
    · show Jr G (M_X6_withReaders G) 5 _ _ _ _
      rw [jq_iloadW5 (M := M_X6_withReaders G) 7 dX6_withReaders_5 rfl]
      simp only [jq_iconst (M := M_X6_withReaders G) 4 8 dX6_withReaders_7 (by decide) rfl, jq_icmp_ge (M := M_X6_withReaders G) 78 11 dX6_withReaders_8 (by decide) rfl, jq_lload3 (M := M_X6_withReaders G) 79 dX6_withReaders_78 rfl, jq_lret (M := M_X6_withReaders G) dX6_withReaders_79 rfl, eq_self, jref_10, jref_11, jref_12, jk_v, jk_n, jcat_nil, jcat_i, jcat_r, jcat_l, jcat_d, jc2_i, jc2_r, jc2_n, jc1_i, jc1_r, jrf_some, jwtq_wI, jwtq_wh, jR_wI, jI_wh, jR_wh, List.cons.injEq, Value.int.injEq, Value.ref.injEq, Value.long.injEq, Value.double.injEq, true_and, and_true, and_self, Nat.reduceAdd, Nat.reduceLeDiff, if_true, if_false, ite_true, ite_false, jc1q_i, jc1q_r, jc1q_l, jwtq_wR, jwtq_wY, jI_wI, Nat.reduceEqDiff, and_false, false_and, not_false_eq_true, not_true_eq_false, show (4 : Int32) ≤ nI 4 from by decide, jnr_i]
      rfl
    · show Jr G (M_X6_withReaders G) 5 _ _ _ _
      have hq3 : ¬ (4 : Int32) ≤ nI i := nI_ge (b := 4) (by omega) (by decide)
      have hp := jLs_SR (jds_ls x (p, σ) i) hp0
      rw [jds_s] at ih
      rw [jq_iloadW5 (M := M_X6_withReaders G) 7 dX6_withReaders_5 rfl]
      simp only [jq_iconst (M := M_X6_withReaders G) 4 8 dX6_withReaders_7 (by decide) rfl, jq_icmp_ge (M := M_X6_withReaders G) 78 11 dX6_withReaders_8 (by decide) rfl, jq_iconst (M := M_X6_withReaders G) 0 12 dX6_withReaders_11 (by decide) rfl, jq_istoreW6 (M := M_X6_withReaders G) 14 dX6_withReaders_12 rfl, eq_self, jref_10, jref_11, jref_12, jk_v, jk_n, jcat_nil, jcat_i, jcat_r, jcat_l, jcat_d, jc2_i, jc2_r, jc2_n, jc1_i, jc1_r, jrf_some, jwtq_wI, jwtq_wh, jR_wI, jI_wh, jR_wh, List.cons.injEq, Value.int.injEq, Value.ref.injEq, Value.long.injEq, Value.double.injEq, true_and, and_true, and_self, Nat.reduceAdd, Nat.reduceLeDiff, if_true, if_false, ite_true, ite_false, jc1q_i, jc1q_r, jc1q_l, jwtq_wR, jwtq_wY, jI_wI, Nat.reduceEqDiff, and_false, false_and, not_false_eq_true, not_true_eq_false, hq3]
      generalize jds x (p, σ) i = D at *
      refine lpa_X6_withReaders hp hlt (fun o => ?_)
      simp only [jq_iconst (M := M_X6_withReaders G) 0 42 dX6_withReaders_41 (by decide) rfl, jq_istoreW6 (M := M_X6_withReaders G) 44 dX6_withReaders_42 rfl, eq_self, jref_10, jref_11, jref_12, jk_v, jk_n, jcat_nil, jcat_i, jcat_r, jcat_l, jcat_d, jc2_i, jc2_r, jc2_n, jc1_i, jc1_r, jrf_some, jwtq_wI, jwtq_wh, jR_wI, jI_wh, jR_wh, List.cons.injEq, Value.int.injEq, Value.ref.injEq, Value.long.injEq, Value.double.injEq, true_and, and_true, and_self, Nat.reduceAdd, Nat.reduceLeDiff, if_true, if_false, ite_true, ite_false, jc1q_i, jc1q_r, jc1q_l, jwtq_wR, jwtq_wY, jI_wI, Nat.reduceEqDiff, and_false, false_and, not_false_eq_true, not_true_eq_false]
      refine lpb_X6_withReaders (T := (mhf (jrdV D.2 (x + 1) i) 7 D.1, jAl D.2 x i 1)) (jLs_SR (jLs_A _ _ _ _) hp) hlt (fun o => ?_)
      simp only [jq_iinc5 (M := M_X6_withReaders G) 1 75 dX6_withReaders_72 (by decide) rfl, jq_goto (M := M_X6_withReaders G) 5 dX6_withReaders_75 (by decide), eq_self, jref_10, jref_11, jref_12, jk_v, jk_n, jcat_nil, jcat_i, jcat_r, jcat_l, jcat_d, jc2_i, jc2_r, jc2_n, jc1_i, jc1_r, jrf_some, jwtq_wI, jwtq_wh, jR_wI, jI_wh, jR_wh, List.cons.injEq, Value.int.injEq, Value.ref.injEq, Value.long.injEq, Value.double.injEq, true_and, and_true, and_self, Nat.reduceAdd, Nat.reduceLeDiff, if_true, if_false, ite_true, ite_false, jc1q_i, jc1q_r, jc1q_l, jwtq_wR, jwtq_wY, jI_wI, Nat.reduceEqDiff, and_false, false_and, not_false_eq_true, not_true_eq_false, nI_1]
      exact ih o
  simp only [jq_lload1 (M := M_X6_withReaders G) 1 dX6_withReaders_0 rfl, jq_lstore3 (M := M_X6_withReaders G) 2 dX6_withReaders_1 rfl, jq_iconst (M := M_X6_withReaders G) 0 3 dX6_withReaders_2 (by decide) rfl, jq_istoreW5 (M := M_X6_withReaders G) 5 dX6_withReaders_3 rfl, eq_self, jref_10, jref_11, jref_12, jk_v, jk_n, jcat_nil, jcat_i, jcat_r, jcat_l, jcat_d, jc2_i, jc2_r, jc2_n, jc1_i, jc1_r, jrf_some, jwtq_wI, jwtq_wh, jR_wI, jI_wh, jR_wh, List.cons.injEq, Value.int.injEq, Value.ref.injEq, Value.long.injEq, Value.double.injEq, true_and, and_true, and_self, Nat.reduceAdd, Nat.reduceLeDiff, if_true, if_false, ite_true, ite_false, jc1q_i, jc1q_r, jc1q_l, jwtq_wR, jwtq_wY, jI_wI, Nat.reduceEqDiff, and_false, false_and, not_false_eq_true, not_true_eq_false]
  exact h none
theorem met_X6_withReaders {l : Launch} (hl : l.stackTraces = false) (D : va_G) (cy : Nat → ClassId) (G : jgG) : jMet l D cy G I_X6_withReaders (S_X6_withReaders G) :=
  jr_met hl (M_X6_withReaders G) I_X6_withReaders (S_X6_withReaders G) RX6 rfl (by decide) rfl rfl rfl rfl (fun h => (by cases h)) jmAI jmAL (fun R h1 h2 => List.forall_mem_cons.mpr ⟨⟨⟨jm_491, jm_50, jd_X6_mixed, ⟨by rw [h1]; exact Nat.le_of_ble_eq_true rfl, by rw [h2]; exact Nat.le_of_ble_eq_true rfl⟩, Or.inr (Or.inl ⟨rfl, jm_489, jm_490, rfl⟩)⟩, met_X6_mixed hl D cy G⟩, List.forall_mem_cons.mpr ⟨⟨⟨jm_538, jm_50, jd_X6_reader, ⟨by rw [h1]; exact Nat.le_of_ble_eq_true rfl, by rw [h2]; exact Nat.le_of_ble_eq_true rfl⟩, Or.inl ⟨rfl, jm_535, jm_536, jm_537, rfl, Nat.le_of_ble_eq_true rfl, _, rfl, rfl⟩⟩, met_X6_reader hl D cy G⟩, List.forall_mem_cons.mpr ⟨⟨⟨jm_551, jm_50, jd_X6_ifTaken, ⟨by rw [h1]; exact Nat.le_of_ble_eq_true rfl, by rw [h2]; exact Nat.le_of_ble_eq_true rfl⟩, Or.inl ⟨rfl, jm_548, jm_549, jm_550, rfl, Nat.le_of_ble_eq_true rfl, _, rfl, rfl⟩⟩, met_X6_ifTaken hl D cy G⟩, fun _ h => nomatch h⟩⟩⟩) (fun h => absurd rfl h) (fun _ h => nomatch h) (bd_X6_withReaders G)
def jgp (σ : jgS) (h : Nat) (x k s : Int32) : Int32 := nI (jct (fun i => ((k = -1 ∨ σ.1 (h + 4 + i) 1 = k) ∧ σ.1 (h + 4 + i) 0 = x ∧ σ.1 (h + 4 + i) 4 = s)) (jn σ h))
def jh5 (σ : jgS) (h n : Nat) (p : Int64) : Int64 := jfd (fun k p => mhf (fun w => jgp σ h (nI k) (-1) (nI w)) 4 p) n p
def Pp_X6_withGroups (G : jgG) (x : Nat) (p : Int64) (σ : jgS) : Prop := jSR G σ x
def Ff_X6_withGroups (G : jgG) (x : Nat) (p : Int64) (σ : jgS) : jgR := (.inl (some (.long (jh5 σ (x + 1) 8 p))), σ)
def P_X6_withGroups (G : jgG) (As : List Value) (σ : jgS) : Prop := ∃ x : Nat, ∃ p : Int64, As = [.ref x, .long p] ∧ Pp_X6_withGroups G x p σ
def F_X6_withGroups (G : jgG) (As : List Value) (σ : jgS) : jgR := Ff_X6_withGroups G (jaR As 0) (jaL As 1) σ
def S_X6_withGroups (G : jgG) : jgSpec := jsp (P_X6_withGroups G) (F_X6_withGroups G)
theorem PX_X6_withGroups {G : jgG} {x : Nat} {p : Int64} {σ : jgS} : P_X6_withGroups G [.ref x, .long p] σ ↔ Pp_X6_withGroups G x p σ := by unfold P_X6_withGroups; simp [and_assoc]
theorem FX_X6_withGroups {G : jgG} {x : Nat} {p : Int64} {σ : jgS} : F_X6_withGroups G [.ref x, .long p] σ = Ff_X6_withGroups G x p σ := rfl
def I_X6_withGroups : jgI := (0, 6, yX6_withGroups, cX6_withGroups, 7, (some .long), 1, 8, 135, [])
theorem jd_X6_withGroups : I_X6_withGroups.2.2.1.cls ≠ "java/lang/invoke/MethodHandle" ∧ I_X6_withGroups.2.2.1.cls ≠ "java/lang/invoke/VarHandle" ∧ (parseMethodDescriptor I_X6_withGroups.2.2.1.desc).map (fun d => d.parameters.length) = some I_X6_withGroups.2.2.2.2.2.2.1 := ⟨by decide +kernel, by decide +kernel, by decide +kernel⟩
def M_X6_withGroups (G : jgG) : jgM := (cX6_withGroups, [(269, jpC I_X6_mixed (S_X6_mixed G)), (312, jpC I_X6_group (S_X6_group G))], [], [], (some .long), false)
theorem lp_X6_withGroups {G : jgG} {x q : Nat} {p h : Int64} {σ : jgS} {Φ : jgR → Prop} (hp : jSR G σ x) (hq : q < 8) (hE : ∀ o, Jr G (M_X6_withGroups G) 42 [some (.ref x), some (.long p), none, some (.long (mhf (fun w => jgp σ (x + 1) (nI q) (-1) (nI w)) 4 h)), none, some (.int (nI q)), o] [] σ Φ) : Jr G (M_X6_withGroups G) 15 [some (.ref x), some (.long p), none, some (.long (h)), none, some (.int (nI q)), some (.int 0)] [] σ Φ := by
  obtain ⟨⟨r0, r1, r2, r3, r4⟩, hT, hH, hB, hL, ⟨⟨x1, x2⟩, x3, x4⟩, hu, hh⟩ := id hp
  have n1 : ¬ (nI q < 0 ∨ 7 < nI q) := by
    rintro (z | z)
    · exact nI_pos (by omega) z
    · exact absurd ((nI_ltI (a := 7) (b := q) (by decide) (by omega)).mp z) (by omega)
  refine jloop (P := fun i => Jr G (M_X6_withGroups G) 15 [some (.ref x), some (.long p), none, some (.long (mhf (fun w => jgp σ (x + 1) (nI q) (-1) (nI w)) i h)), none, some (.int (nI q)), some (.int (nI i))] [] σ Φ) (n := 4) ?_ (fun i hlt ih => ?_)
  · show Jr G (M_X6_withGroups G) 15 _ _ _ _
    rw [jq_iloadW6 (M := M_X6_withGroups G) 17 dX6_withGroups_15 rfl]
    simp only [jq_iconst (M := M_X6_withGroups G) 4 18 dX6_withGroups_17 (by decide) rfl, jq_icmp_ge (M := M_X6_withGroups G) 42 21 dX6_withGroups_18 (by decide) rfl, eq_self, jref_10, jref_11, jref_12, jk_v, jk_n, jcat_nil, jcat_i, jcat_r, jcat_l, jcat_d, jc2_i, jc2_r, jc2_n, jc1_i, jc1_r, jrf_some, jwtq_wI, jwtq_wh, jR_wI, jI_wh, jR_wh, List.cons.injEq, Value.int.injEq, Value.ref.injEq, Value.long.injEq, Value.double.injEq, true_and, and_true, and_self, Nat.reduceAdd, Nat.reduceLeDiff, if_true, if_false, ite_true, ite_false, jc1q_i, jc1q_r, jc1q_l, jwtq_wR, jwtq_wY, jI_wI, Nat.reduceEqDiff, and_false, false_and, not_false_eq_true, not_true_eq_false, show (4 : Int32) ≤ nI 4 from by decide]
    exact hE _
  · show Jr G (M_X6_withGroups G) 15 _ _ _ _
    have hq3 : ¬ (4 : Int32) ≤ nI i := nI_ge (b := 4) (by omega) (by decide)
    have n2 : ¬ (nI i < 0 ∨ 3 < nI i) := by
      rintro (z | z)
      · exact nI_pos (by omega) z
      · exact absurd ((nI_ltI (a := 3) (b := i) (by decide) (by omega)).mp z) (by omega)
    have hF : Ff_X6_group G x (nI q) (-1) (nI i) σ = (.inl (some (.int (jgp σ (x + 1) (nI q) (-1) (nI i)))), σ) := by
      unfold Ff_X6_group
      rw [if_neg n1, if_neg n2, if_neg (fun z => z.1 rfl)]
      rfl
    rw [mhf_s, ← nI_1] at ih
    rw [jq_iloadW6 (M := M_X6_withGroups G) 17 dX6_withGroups_15 rfl]
    generalize mhf (fun w => jgp σ (x + 1) (nI q) (-1) (nI w)) i h = T at *
    simp only [jq_iconst (M := M_X6_withGroups G) 4 18 dX6_withGroups_17 (by decide) rfl, jq_icmp_ge (M := M_X6_withGroups G) 42 21 dX6_withGroups_18 (by decide) rfl, jq_lload3 (M := M_X6_withGroups G) 22 dX6_withGroups_21 rfl, jq_aload0 (M := M_X6_withGroups G) 23 dX6_withGroups_22 rfl, jq_iloadW5 (M := M_X6_withGroups G) 25 dX6_withGroups_23 rfl, jq_iconst (M := M_X6_withGroups G) (-1) 26 dX6_withGroups_25 (by decide) rfl, jq_iloadW6 (M := M_X6_withGroups G) 28 dX6_withGroups_26 rfl, jq_virt3 (M := M_X6_withGroups G) I_X6_group 6 dX6_withGroups_28 rfl rfl rfl rfl, jq_i2l (M := M_X6_withGroups G) 32 dX6_withGroups_31 rfl, jq_stat2 (M := M_X6_withGroups G) I_X6_mixed dX6_withGroups_32 rfl (Or.inl rfl) rfl, jq_lstore3 (M := M_X6_withGroups G) 36 dX6_withGroups_35 rfl, jq_iinc6 (M := M_X6_withGroups G) 1 39 dX6_withGroups_36 (by decide) rfl, jq_goto (M := M_X6_withGroups G) 15 dX6_withGroups_39 (by decide), eq_self, jref_10, jref_11, jref_12, jk_v, jk_n, jcat_nil, jcat_i, jcat_r, jcat_l, jcat_d, jc2_i, jc2_r, jc2_n, jc1_i, jc1_r, jrf_some, jwtq_wI, jwtq_wh, jR_wI, jI_wh, jR_wh, List.cons.injEq, Value.int.injEq, Value.ref.injEq, Value.long.injEq, Value.double.injEq, true_and, and_true, and_self, Nat.reduceAdd, Nat.reduceLeDiff, if_true, if_false, ite_true, ite_false, jc1q_i, jc1q_r, jc1q_l, jwtq_wR, jwtq_wY, jI_wI, Nat.reduceEqDiff, and_false, false_and, not_false_eq_true, not_true_eq_false, hq3, r0, r1, r2, r3, r4, PX_X6_group, FX_X6_group, Pp_X6_group, hF, show jSR G σ x from hp, PX_X6_mixed, FX_X6_mixed, Pp_X6_mixed, Ff_X6_mixed]
    exact ih
theorem bd_X6_withGroups (G : jgG) : ∀ (As : List Value) (σ : jgS) (r : jgR), S_X6_withGroups G As σ r → jhs σ ≤ jhs r.2 ∧ jsl σ ≤ jsl r.2 ∧ (jent As).length ≤ I_X6_withGroups.2.2.2.2.1 ∧ Jr G (M_X6_withGroups G) 0 (jentry As I_X6_withGroups.2.2.2.2.1) [] σ (fun r' => r' = r) := by
  rintro As σ r ⟨⟨x, p, rfl, hp⟩, rfl⟩
  rw [FX_X6_withGroups]
  refine ⟨(by first | exact Nat.le_refl _ | (show _ ≤ _; simp only [F_X6_withGroups, Ff_X6_withGroups]; (repeat' split) <;> first | exact Nat.le_refl _ | exact Nat.le_succ _ | exact Nat.le_add_right _ _)), (by first | exact Nat.le_refl _ | (show _ ≤ _; simp only [F_X6_withGroups, Ff_X6_withGroups]; (repeat' split) <;> first | exact Nat.le_refl _ | exact Nat.le_succ _ | exact Nat.le_add_right _ _)), by simp [jent, Value.category, I_X6_withGroups], ?_⟩
  show Jr G (M_X6_withGroups G) 0 [some (.ref x), some (.long p), none, none, none, none, none] [] σ (fun r' => r' = Ff_X6_withGroups G x p σ)
  have hp0 : jSR G σ x := hp
  have h : ∀ o, Jr G (M_X6_withGroups G) 5 [some (.ref x), some (.long p), none, some (.long (jh5 σ (x + 1) 0 p)), none, some (.int (nI 0)), o] [] σ (fun r' => r' = Ff_X6_withGroups G x p σ) := by
    refine jloop (P := fun i => ∀ o, Jr G (M_X6_withGroups G) 5 [some (.ref x), some (.long p), none, some (.long (jh5 σ (x + 1) i p)), none, some (.int (nI i)), o] [] σ (fun r' => r' = Ff_X6_withGroups G x p σ)) (n := 8) (fun o => ?_) (fun i hlt ih o => ?_)
    · show Jr G (M_X6_withGroups G) 5 _ _ _ _
      rw [jq_iloadW5 (M := M_X6_withGroups G) 7 dX6_withGroups_5 rfl]
      simp only [jq_bipush (M := M_X6_withGroups G) 8 9 dX6_withGroups_7 (by decide) rfl, jq_icmp_ge (M := M_X6_withGroups G) 48 12 dX6_withGroups_9 (by decide) rfl, jq_lload3 (M := M_X6_withGroups G) 49 dX6_withGroups_48 rfl, jq_lret (M := M_X6_withGroups G) dX6_withGroups_49 rfl, eq_self, jref_10, jref_11, jref_12, jk_v, jk_n, jcat_nil, jcat_i, jcat_r, jcat_l, jcat_d, jc2_i, jc2_r, jc2_n, jc1_i, jc1_r, jrf_some, jwtq_wI, jwtq_wh, jR_wI, jI_wh, jR_wh, List.cons.injEq, Value.int.injEq, Value.ref.injEq, Value.long.injEq, Value.double.injEq, true_and, and_true, and_self, Nat.reduceAdd, Nat.reduceLeDiff, if_true, if_false, ite_true, ite_false, jc1q_i, jc1q_r, jc1q_l, jwtq_wR, jwtq_wY, jI_wI, Nat.reduceEqDiff, and_false, false_and, not_false_eq_true, not_true_eq_false, show (8 : Int32) ≤ nI 8 from by decide, jnr_i]
      rfl
    · show Jr G (M_X6_withGroups G) 5 _ _ _ _
      have hc : ¬ (8 : Int32) ≤ nI i := nI_ge (b := 8) hlt (by decide)
      rw [jq_iloadW5 (M := M_X6_withGroups G) 7 dX6_withGroups_5 rfl]
      simp only [jq_bipush (M := M_X6_withGroups G) 8 9 dX6_withGroups_7 (by decide) rfl, jq_icmp_ge (M := M_X6_withGroups G) 48 12 dX6_withGroups_9 (by decide) rfl, jq_iconst (M := M_X6_withGroups G) 0 13 dX6_withGroups_12 (by decide) rfl, jq_istoreW6 (M := M_X6_withGroups G) 15 dX6_withGroups_13 rfl, eq_self, jref_10, jref_11, jref_12, jk_v, jk_n, jcat_nil, jcat_i, jcat_r, jcat_l, jcat_d, jc2_i, jc2_r, jc2_n, jc1_i, jc1_r, jrf_some, jwtq_wI, jwtq_wh, jR_wI, jI_wh, jR_wh, List.cons.injEq, Value.int.injEq, Value.ref.injEq, Value.long.injEq, Value.double.injEq, true_and, and_true, and_self, Nat.reduceAdd, Nat.reduceLeDiff, if_true, if_false, ite_true, ite_false, jc1q_i, jc1q_r, jc1q_l, jwtq_wR, jwtq_wY, jI_wI, Nat.reduceEqDiff, and_false, false_and, not_false_eq_true, not_true_eq_false, hc]
      refine lp_X6_withGroups hp0 hlt (fun o => ?_)
      simp only [jq_iinc5 (M := M_X6_withGroups G) 1 45 dX6_withGroups_42 (by decide) rfl, jq_goto (M := M_X6_withGroups G) 5 dX6_withGroups_45 (by decide), eq_self, jref_10, jref_11, jref_12, jk_v, jk_n, jcat_nil, jcat_i, jcat_r, jcat_l, jcat_d, jc2_i, jc2_r, jc2_n, jc1_i, jc1_r, jrf_some, jwtq_wI, jwtq_wh, jR_wI, jI_wh, jR_wh, List.cons.injEq, Value.int.injEq, Value.ref.injEq, Value.long.injEq, Value.double.injEq, true_and, and_true, and_self, Nat.reduceAdd, Nat.reduceLeDiff, if_true, if_false, ite_true, ite_false, jc1q_i, jc1q_r, jc1q_l, jwtq_wR, jwtq_wY, jI_wI, Nat.reduceEqDiff, and_false, false_and, not_false_eq_true, not_true_eq_false, nI_1]
      exact ih o
  simp only [jq_lload1 (M := M_X6_withGroups G) 1 dX6_withGroups_0 rfl, jq_lstore3 (M := M_X6_withGroups G) 2 dX6_withGroups_1 rfl, jq_iconst (M := M_X6_withGroups G) 0 3 dX6_withGroups_2 (by decide) rfl, jq_istoreW5 (M := M_X6_withGroups G) 5 dX6_withGroups_3 rfl, eq_self, jref_10, jref_11, jref_12, jk_v, jk_n, jcat_nil, jcat_i, jcat_r, jcat_l, jcat_d, jc2_i, jc2_r, jc2_n, jc1_i, jc1_r, jrf_some, jwtq_wI, jwtq_wh, jR_wI, jI_wh, jR_wh, List.cons.injEq, Value.int.injEq, Value.ref.injEq, Value.long.injEq, Value.double.injEq, true_and, and_true, and_self, Nat.reduceAdd, Nat.reduceLeDiff, if_true, if_false, ite_true, ite_false, jc1q_i, jc1q_r, jc1q_l, jwtq_wR, jwtq_wY, jI_wI, Nat.reduceEqDiff, and_false, false_and, not_false_eq_true, not_true_eq_false]
  exact h none
theorem met_X6_withGroups {l : Launch} (hl : l.stackTraces = false) (D : va_G) (cy : Nat → ClassId) (G : jgG) : jMet l D cy G I_X6_withGroups (S_X6_withGroups G) :=
  jr_met hl (M_X6_withGroups G) I_X6_withGroups (S_X6_withGroups G) RX6 rfl (by decide) rfl rfl rfl rfl (fun h => (by cases h)) jmAI jmAL (fun R h1 h2 => List.forall_mem_cons.mpr ⟨⟨⟨jm_491, jm_50, jd_X6_mixed, ⟨by rw [h1]; exact Nat.le_of_ble_eq_true rfl, by rw [h2]; exact Nat.le_of_ble_eq_true rfl⟩, Or.inr (Or.inl ⟨rfl, jm_489, jm_490, rfl⟩)⟩, met_X6_mixed hl D cy G⟩, List.forall_mem_cons.mpr ⟨⟨⟨jm_559, jm_50, jd_X6_group, ⟨by rw [h1]; exact Nat.le_of_ble_eq_true rfl, by rw [h2]; exact Nat.le_of_ble_eq_true rfl⟩, Or.inl ⟨rfl, jm_556, jm_557, jm_558, rfl, Nat.le_of_ble_eq_true rfl, _, rfl, rfl⟩⟩, met_X6_group hl D cy G⟩, fun _ h => nomatch h⟩⟩) (fun h => absurd rfl h) (fun _ h => nomatch h) (bd_X6_withGroups G)
/-- doubled till it is 1 at least -/
def jb1 (d : UInt64) (i : Nat) : UInt64 × Int64 := jfd (fun _ s => if 0 ≤ Op.cmpValue (FP.dcmp (s.1) 4607182418800017408) .g then s else (FP.dmul s.1 4611686018427387904, s.2 - 1)) i (d, 1023)
theorem jb1_s (d : UInt64) (i : Nat) : jb1 d (i + 1) = if 0 ≤ Op.cmpValue (FP.dcmp ((jb1 d i).1) 4607182418800017408) .g then jb1 d i else (FP.dmul (jb1 d i).1 4611686018427387904, (jb1 d i).2 - 1) := rfl
theorem jb1_fr {d : UInt64} {i k : Nat} (hk : i ≤ k) (h : 0 ≤ Op.cmpValue (FP.dcmp ((jb1 d i).1) 4607182418800017408) .g) : jb1 d k = jb1 d i := by
  obtain ⟨e, rfl⟩ : ∃ e, k = i + e := ⟨k - i, by omega⟩
  clear hk
  induction e with
  | zero => rfl
  | succ e ih => rw [← Nat.add_assoc, jb1_s, ih, if_pos h]
def jbp (d : UInt64) : Prop := (∀ i, i < 10 → ¬ 0 ≤ Op.cmpValue (FP.dcmp ((jb1 d i).1) 4607182418800017408) .g → vf_n64 (FP.dmul (jb1 d i).1 4611686018427387904)) ∧ 0 ≤ Op.cmpValue (FP.dcmp ((jb1 d 10).1) 4607182418800017408) .g ∧ vf_n64 (FP.dsub (jb1 d 10).1 4607182418800017408) ∧ vf_n64 (FP.dmul (FP.dsub (jb1 d 10).1 4607182418800017408) 4841369599423283200)
def jbV (d : UInt64) : Int64 := ((jb1 d 10).2 <<< ((52 : Int32).toInt64 &&& 63)) + FP.d2l (FP.dmul (FP.dsub (jb1 d 10).1 4607182418800017408) 4841369599423283200)
def Pp_X6_bitsOf (G : jgG) (d : UInt64) (σ : jgS) : Prop := jbp d
def Ff_X6_bitsOf (G : jgG) (d : UInt64) (σ : jgS) : jgR := (.inl (some (.long (jbV d))), σ)
def P_X6_bitsOf (G : jgG) (As : List Value) (σ : jgS) : Prop := ∃ d : UInt64, As = [.double d] ∧ Pp_X6_bitsOf G d σ
def F_X6_bitsOf (G : jgG) (As : List Value) (σ : jgS) : jgR := Ff_X6_bitsOf G (jaD As 0) σ
def S_X6_bitsOf (G : jgG) : jgSpec := jsp (P_X6_bitsOf G) (F_X6_bitsOf G)
theorem PX_X6_bitsOf {G : jgG} {d : UInt64} {σ : jgS} : P_X6_bitsOf G [.double d] σ ↔ Pp_X6_bitsOf G d σ := by unfold P_X6_bitsOf; simp [and_assoc]
theorem FX_X6_bitsOf {G : jgG} {d : UInt64} {σ : jgS} : F_X6_bitsOf G [.double d] σ = Ff_X6_bitsOf G d σ := rfl
def I_X6_bitsOf : jgI := (1, 6, yX6_bitsOf, cX6_bitsOf, 7, (some .long), 1, 0, 0, [])
theorem jd_X6_bitsOf : I_X6_bitsOf.2.2.1.cls ≠ "java/lang/invoke/MethodHandle" ∧ I_X6_bitsOf.2.2.1.cls ≠ "java/lang/invoke/VarHandle" ∧ (parseMethodDescriptor I_X6_bitsOf.2.2.1.desc).map (fun d => d.parameters.length) = some I_X6_bitsOf.2.2.2.2.2.2.1 := ⟨by decide +kernel, by decide +kernel, by decide +kernel⟩
def M_X6_bitsOf (G : jgG) : jgM := (cX6_bitsOf, [(318, jpK (.long 1023)), (320, jpK (.double 4611686018427387904)), (322, jpK (.double 4841369599423283200))], [], [], (some .long), false)
theorem lp_X6_bitsOf {G : jgG} {d : UInt64} {o : Option Value} {σ : jgS} {Φ : jgR → Prop} (hp : jbp d) (hE : Φ (.inl (some (.long (jbV d))), σ)) : Jr G (M_X6_bitsOf G) 42 [some (.double d), none, some (.double (jb1 d 10).1), none, some (.long (jb1 d 10).2), none, o] [] σ Φ := by
  obtain ⟨h1, h2, h3, h4⟩ := hp
  simp only [jq_lloadW4 (M := M_X6_bitsOf G) 44 dX6_bitsOf_42 rfl, jq_bipush (M := M_X6_bitsOf G) 52 46 dX6_bitsOf_44 (by decide) rfl, jq_lshl (M := M_X6_bitsOf G) 47 dX6_bitsOf_46 rfl, jq_dload2 (M := M_X6_bitsOf G) 48 dX6_bitsOf_47 rfl, jq_dconst (M := M_X6_bitsOf G) 4607182418800017408 49 dX6_bitsOf_48 (by decide +kernel) rfl, jq_dsub (M := M_X6_bitsOf G) 50 dX6_bitsOf_49 rfl, jq_ldc2 (M := M_X6_bitsOf G) (.double 4841369599423283200) 53 dX6_bitsOf_50 rfl rfl, jq_dmul (M := M_X6_bitsOf G) 54 dX6_bitsOf_53 rfl, jq_d2l (M := M_X6_bitsOf G) 55 dX6_bitsOf_54 rfl, jq_ladd (M := M_X6_bitsOf G) 56 dX6_bitsOf_55 rfl, jq_lret (M := M_X6_bitsOf G) dX6_bitsOf_56 rfl, eq_self, jref_10, jref_11, jref_12, jk_v, jk_n, jcat_nil, jcat_i, jcat_r, jcat_l, jcat_d, jc2_i, jc2_r, jc2_n, jc1_i, jc1_r, jrf_some, jwtq_wI, jwtq_wh, jR_wI, jI_wh, jR_wh, List.cons.injEq, Value.int.injEq, Value.ref.injEq, Value.long.injEq, Value.double.injEq, true_and, and_true, and_self, Nat.reduceAdd, Nat.reduceLeDiff, if_true, if_false, ite_true, ite_false, jc1q_i, jc1q_r, jc1q_l, jwtq_wR, jwtq_wY, jI_wI, Nat.reduceEqDiff, and_false, false_and, not_false_eq_true, not_true_eq_false, h3, h4, jnr_i]
  exact hE
theorem bd_X6_bitsOf (G : jgG) : ∀ (As : List Value) (σ : jgS) (r : jgR), S_X6_bitsOf G As σ r → jhs σ ≤ jhs r.2 ∧ jsl σ ≤ jsl r.2 ∧ (jent As).length ≤ I_X6_bitsOf.2.2.2.2.1 ∧ Jr G (M_X6_bitsOf G) 0 (jentry As I_X6_bitsOf.2.2.2.2.1) [] σ (fun r' => r' = r) := by
  rintro As σ r ⟨⟨d, rfl, hp⟩, rfl⟩
  rw [FX_X6_bitsOf]
  refine ⟨(by first | exact Nat.le_refl _ | (show _ ≤ _; simp only [F_X6_bitsOf, Ff_X6_bitsOf]; (repeat' split) <;> first | exact Nat.le_refl _ | exact Nat.le_succ _ | exact Nat.le_add_right _ _)), (by first | exact Nat.le_refl _ | (show _ ≤ _; simp only [F_X6_bitsOf, Ff_X6_bitsOf]; (repeat' split) <;> first | exact Nat.le_refl _ | exact Nat.le_succ _ | exact Nat.le_add_right _ _)), by simp [jent, Value.category, I_X6_bitsOf], ?_⟩
  show Jr G (M_X6_bitsOf G) 0 [some (.double d), none, none, none, none, none, none] [] σ (fun r' => r' = Ff_X6_bitsOf G d σ)
  obtain ⟨h1, h2, h3, h4⟩ := id hp
  have h : Jr G (M_X6_bitsOf G) 10 [some (.double d), none, some (.double (jb1 d 0).1), none, some (.long (jb1 d 0).2), none, some (.int (nI 0))] [] σ (fun r' => r' = Ff_X6_bitsOf G d σ) := by
    refine jloop (P := fun i => Jr G (M_X6_bitsOf G) 10 [some (.double d), none, some (.double (jb1 d i).1), none, some (.long (jb1 d i).2), none, some (.int (nI i))] [] σ (fun r' => r' = Ff_X6_bitsOf G d σ)) (n := 10) ?_ (fun i hlt ih => ?_)
    · show Jr G (M_X6_bitsOf G) 10 _ _ _ _
      rw [jq_iloadW6 (M := M_X6_bitsOf G) 12 dX6_bitsOf_10 rfl]
      simp only [jq_sipush (M := M_X6_bitsOf G) 1022 15 dX6_bitsOf_12 (by decide) rfl, jq_icmp_ge (M := M_X6_bitsOf G) 42 18 dX6_bitsOf_15 (by decide) rfl, jq_dload2 (M := M_X6_bitsOf G) 19 dX6_bitsOf_18 rfl, jq_dconst (M := M_X6_bitsOf G) 4607182418800017408 20 dX6_bitsOf_19 (by decide +kernel) rfl, jq_dcmp (M := M_X6_bitsOf G) 21 dX6_bitsOf_20 rfl, jq_if_ge (M := M_X6_bitsOf G) 42 24 dX6_bitsOf_21 (by decide) rfl, eq_self, jref_10, jref_11, jref_12, jk_v, jk_n, jcat_nil, jcat_i, jcat_r, jcat_l, jcat_d, jc2_i, jc2_r, jc2_n, jc1_i, jc1_r, jrf_some, jwtq_wI, jwtq_wh, jR_wI, jI_wh, jR_wh, List.cons.injEq, Value.int.injEq, Value.ref.injEq, Value.long.injEq, Value.double.injEq, true_and, and_true, and_self, Nat.reduceAdd, Nat.reduceLeDiff, if_true, if_false, ite_true, ite_false, jc1q_i, jc1q_r, jc1q_l, jwtq_wR, jwtq_wY, jI_wI, Nat.reduceEqDiff, and_false, false_and, not_false_eq_true, not_true_eq_false, show ¬ (1022 : Int32) ≤ nI 10 from by decide, h2]
      exact lp_X6_bitsOf hp rfl
    · show Jr G (M_X6_bitsOf G) 10 _ _ _ _
      have hc : ¬ (1022 : Int32) ≤ nI i := nI_ge (b := 1022) (by omega) (by decide)
      rw [jb1_s, ← nI_1] at ih
      rw [jq_iloadW6 (M := M_X6_bitsOf G) 12 dX6_bitsOf_10 rfl]
      by_cases c : 0 ≤ Op.cmpValue (FP.dcmp ((jb1 d i).1) 4607182418800017408) .g
      · have e := jb1_fr (Nat.le_of_lt hlt) c
        simp only [jq_sipush (M := M_X6_bitsOf G) 1022 15 dX6_bitsOf_12 (by decide) rfl, jq_icmp_ge (M := M_X6_bitsOf G) 42 18 dX6_bitsOf_15 (by decide) rfl, jq_dload2 (M := M_X6_bitsOf G) 19 dX6_bitsOf_18 rfl, jq_dconst (M := M_X6_bitsOf G) 4607182418800017408 20 dX6_bitsOf_19 (by decide +kernel) rfl, jq_dcmp (M := M_X6_bitsOf G) 21 dX6_bitsOf_20 rfl, jq_if_ge (M := M_X6_bitsOf G) 42 24 dX6_bitsOf_21 (by decide) rfl, eq_self, jref_10, jref_11, jref_12, jk_v, jk_n, jcat_nil, jcat_i, jcat_r, jcat_l, jcat_d, jc2_i, jc2_r, jc2_n, jc1_i, jc1_r, jrf_some, jwtq_wI, jwtq_wh, jR_wI, jI_wh, jR_wh, List.cons.injEq, Value.int.injEq, Value.ref.injEq, Value.long.injEq, Value.double.injEq, true_and, and_true, and_self, Nat.reduceAdd, Nat.reduceLeDiff, if_true, if_false, ite_true, ite_false, jc1q_i, jc1q_r, jc1q_l, jwtq_wR, jwtq_wY, jI_wI, Nat.reduceEqDiff, and_false, false_and, not_false_eq_true, not_true_eq_false, hc, c]
        rw [← e]
        exact lp_X6_bitsOf hp rfl
      · rw [if_neg c] at ih
        have hv := h1 i hlt c
        simp only [jq_sipush (M := M_X6_bitsOf G) 1022 15 dX6_bitsOf_12 (by decide) rfl, jq_icmp_ge (M := M_X6_bitsOf G) 42 18 dX6_bitsOf_15 (by decide) rfl, jq_dload2 (M := M_X6_bitsOf G) 19 dX6_bitsOf_18 rfl, jq_dconst (M := M_X6_bitsOf G) 4607182418800017408 20 dX6_bitsOf_19 (by decide +kernel) rfl, jq_dcmp (M := M_X6_bitsOf G) 21 dX6_bitsOf_20 rfl, jq_if_ge (M := M_X6_bitsOf G) 42 24 dX6_bitsOf_21 (by decide) rfl, jq_dload2 (M := M_X6_bitsOf G) 25 dX6_bitsOf_24 rfl, jq_ldc2 (M := M_X6_bitsOf G) (.double 4611686018427387904) 28 dX6_bitsOf_25 rfl rfl, jq_dmul (M := M_X6_bitsOf G) 29 dX6_bitsOf_28 rfl, jq_dstore2 (M := M_X6_bitsOf G) 30 dX6_bitsOf_29 rfl, jq_lloadW4 (M := M_X6_bitsOf G) 32 dX6_bitsOf_30 rfl, jq_lconst (M := M_X6_bitsOf G) 1 33 dX6_bitsOf_32 (by decide) rfl, jq_lsub (M := M_X6_bitsOf G) 34 dX6_bitsOf_33 rfl, jq_lstoreW4 (M := M_X6_bitsOf G) 36 dX6_bitsOf_34 rfl, jq_iinc6 (M := M_X6_bitsOf G) 1 39 dX6_bitsOf_36 (by decide) rfl, jq_goto (M := M_X6_bitsOf G) 10 dX6_bitsOf_39 (by decide), eq_self, jref_10, jref_11, jref_12, jk_v, jk_n, jcat_nil, jcat_i, jcat_r, jcat_l, jcat_d, jc2_i, jc2_r, jc2_n, jc1_i, jc1_r, jrf_some, jwtq_wI, jwtq_wh, jR_wI, jI_wh, jR_wh, List.cons.injEq, Value.int.injEq, Value.ref.injEq, Value.long.injEq, Value.double.injEq, true_and, and_true, and_self, Nat.reduceAdd, Nat.reduceLeDiff, if_true, if_false, ite_true, ite_false, jc1q_i, jc1q_r, jc1q_l, jwtq_wR, jwtq_wY, jI_wI, Nat.reduceEqDiff, and_false, false_and, not_false_eq_true, not_true_eq_false, hc, c, hv]
        exact ih
  simp only [jq_dload0 (M := M_X6_bitsOf G) 1 dX6_bitsOf_0 rfl, jq_dstore2 (M := M_X6_bitsOf G) 2 dX6_bitsOf_1 rfl, jq_ldc2 (M := M_X6_bitsOf G) (.long 1023) 5 dX6_bitsOf_2 rfl rfl, jq_lstoreW4 (M := M_X6_bitsOf G) 7 dX6_bitsOf_5 rfl, jq_iconst (M := M_X6_bitsOf G) 0 8 dX6_bitsOf_7 (by decide) rfl, jq_istoreW6 (M := M_X6_bitsOf G) 10 dX6_bitsOf_8 rfl, eq_self, jref_10, jref_11, jref_12, jk_v, jk_n, jcat_nil, jcat_i, jcat_r, jcat_l, jcat_d, jc2_i, jc2_r, jc2_n, jc1_i, jc1_r, jrf_some, jwtq_wI, jwtq_wh, jR_wI, jI_wh, jR_wh, List.cons.injEq, Value.int.injEq, Value.ref.injEq, Value.long.injEq, Value.double.injEq, true_and, and_true, and_self, Nat.reduceAdd, Nat.reduceLeDiff, if_true, if_false, ite_true, ite_false, jc1q_i, jc1q_r, jc1q_l, jwtq_wR, jwtq_wY, jI_wI, Nat.reduceEqDiff, and_false, false_and, not_false_eq_true, not_true_eq_false]
  exact h
theorem met_X6_bitsOf {l : Launch} (hl : l.stackTraces = false) (D : va_G) (cy : Nat → ClassId) (G : jgG) : jMet l D cy G I_X6_bitsOf (S_X6_bitsOf G) :=
  jr_met hl (M_X6_bitsOf G) I_X6_bitsOf (S_X6_bitsOf G) RX6 rfl (by decide) rfl rfl rfl rfl (fun h => (by cases h)) jmAI jmAL (fun R h1 h2 => List.forall_mem_cons.mpr ⟨Or.inl ⟨_, rfl, jm_586⟩, List.forall_mem_cons.mpr ⟨Or.inr ⟨_, rfl, jm_587⟩, List.forall_mem_cons.mpr ⟨Or.inr ⟨_, rfl, jm_588⟩, fun _ h => nomatch h⟩⟩⟩) (fun h => absurd rfl h) (fun _ h => nomatch h) (bd_X6_bitsOf G)
