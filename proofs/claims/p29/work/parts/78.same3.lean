/-! the law's same: a reader -/
theorem lw_jwL {τ : jgS} {a Q R : Nat} {L : jLS} {Y : Nat → Int32} (h1 : ¬ a = Q) (h2 : ¬ a = R) : jwL (lw τ Q R Y) a L = lw (jwL τ a L) Q R Y := by
  refine Prod.ext (funext fun b => funext fun k => ?_) rfl
  show (if _ then _ else if _ then _ else if _ then _ else _) = (if _ then _ else if _ then _ else if _ then _ else _)
  by_cases c : b = a ∧ k < 5
  · have e1 : ¬ (b = Q ∧ k < 25) := fun z => h1 (c.1.symm.trans z.1)
    have e2 : ¬ b = R := fun z => h2 (c.1.symm.trans z)
    rw [if_pos c, if_neg e1, if_neg e2, if_pos c]
  · rw [if_neg c, if_neg c]
theorem lt3_jwL {τ : jgS} {a T : Nat} {L : jLS} {t : Int32 × Int32 × Int32} (h1 : ¬ a = T) : jwL (lt3 τ T t) a L = lt3 (jwL τ a L) T t := by
  refine Prod.ext (funext fun b => funext fun k => ?_) rfl
  show (if _ then _ else if _ then _ else if _ then _ else if _ then _ else _) = (if _ then _ else if _ then _ else if _ then _ else if _ then _ else _)
  by_cases c : b = a ∧ k < 5
  · have e : ¬ b = T := fun z => h1 (c.1.symm.trans z)
    rw [if_pos c]
    exact ((if_neg (fun z => e z.1)).trans ((if_neg (fun z => e z.1)).trans ((if_neg (fun z => e z.1)).trans (if_pos c)))).symm
  · rw [if_neg c, if_neg c]
theorem lt3_lw {τ : jgS} {Q R T : Nat} {Y : Nat → Int32} {t : Int32 × Int32 × Int32} (h1 : ¬ Q = T) (h2 : ¬ R = T) : lw (lt3 τ T t) Q R Y = lt3 (lw τ Q R Y) T t := by
  refine Prod.ext (funext fun b => funext fun k => ?_) rfl
  show (if _ then _ else if _ then _ else if _ then _ else if _ then _ else if _ then _ else _) = (if _ then _ else if _ then _ else if _ then _ else if _ then _ else if _ then _ else _)
  by_cases c : b = Q ∧ k < 25
  · have e : ¬ b = T := fun z => h1 (c.1.symm.trans z)
    rw [if_pos c, if_neg (fun z => e z.1), if_neg (fun z => e z.1), if_neg (fun z => e z.1), if_pos c]
  · rw [if_neg c]
    by_cases d : b = R
    · have e : ¬ b = T := fun z => h2 (d.symm.trans z)
      rw [if_pos d, if_neg (fun z => e z.1), if_neg (fun z => e z.1), if_neg (fun z => e z.1), if_neg c, if_pos d]
    · rw [if_neg d, if_neg c, if_neg d]
section YZ
variable {G : jgG} {c x N : Nat} {S Y : Nat → Int32} {τ : jgS} {L : jLS} {t : Int32 × Int32 × Int32}
theorem lz_2 (τ : jgS) (x : Nat) (L : jLS) (Y : Nat → Int32) (t : Int32 × Int32 × Int32) : (lz τ x L Y t).2 = τ.2 := rfl
theorem lz_wt (τ : jgS) (x : Nat) (L : jLS) (Y : Nat → Int32) (t : Int32 × Int32 × Int32) : jwt (lz τ x L Y t) = jwt τ := id rfl
theorem lz_ne {a k : Nat} (h1 : ¬ a = (x + 232)) (h2 : ¬ a = (x + 235)) (h3 : ¬ a = (x + 236)) (h4 : ¬ a = (x + 237)) : (lz τ x L Y t).1 a k = τ.1 a k := (lt3_ne h4 k).trans ((lw_ne h2 h3).trans (jwL_out h1))
theorem lz_P : lS (lz τ x L Y t) (x + 235) (x + 236) = Y := by
  have e : lS (lz τ x L Y t) (x + 235) (x + 236) = lS (lw (jwL τ (x + 232) L) (x + 235) (x + 236) Y) (x + 235) (x + 236) := by
    show lj (fun k => (lt3 (lw (jwL τ (x + 232) L) (x + 235) (x + 236) Y) (x + 237) t).1 (x + 235) k) (fun k => (lt3 (lw (jwL τ (x + 232) L) (x + 235) (x + 236) Y) (x + 237) t).1 (x + 236) k) = _
    rw [show (fun k => (lt3 (lw (jwL τ (x + 232) L) (x + 235) (x + 236) Y) (x + 237) t).1 (x + 235) k) = (lw (jwL τ (x + 232) L) (x + 235) (x + 236) Y).1 (x + 235) from funext fun k => lt3_ne (by omega) k, show (fun k => (lt3 (lw (jwL τ (x + 232) L) (x + 235) (x + 236) Y) (x + 237) t).1 (x + 236) k) = (lw (jwL τ (x + 232) L) (x + 235) (x + 236) Y).1 (x + 236) from funext fun k => lt3_ne (by omega) k]
  rw [e, lw_S (by omega)]
theorem lz_lw (Y' : Nat → Int32) : lw (lz τ x L Y t) (x + 235) (x + 236) Y' = lz τ x L Y' t := by
  unfold lz
  rw [lt3_lw (by omega) (by omega), lw_lw]
theorem lz_lt (u : Int32 × Int32 × Int32) : lt3 (lz τ x L Y t) (x + 237) u = lz τ x L Y u := lt3_lt3 _ _ _ _
theorem lz_L (L' : jLS) : jwL (lz τ x L Y t) (x + 232) L' = lz τ x L' Y t := by
  unfold lz
  rw [lt3_jwL (by omega), lw_jwL (by omega) (by omega), jwL_jwL]
theorem lz_T0 : (lz τ x L Y t).1 (x + 237) 0 = t.1 := lt3_r0 _ _ _
theorem lz_T1 : (lz τ x L Y t).1 (x + 237) 1 = t.2.1 := lt3_r1 _ _ _
theorem lz_T2 : (lz τ x L Y t).1 (x + 237) 2 = t.2.2 := lt3_r2 _ _ _
theorem lz_tk (q : Nat) (M : Int32) : ltk (lz τ x L Y t) (x + 235) (x + 236) (x + 237) q M = lz τ x L (mTS Y q M) ((mTG Y q M (mTot Y)).2.1, (mTG Y q M (mTot Y)).2.2.1, (mTG Y q M (mTot Y)).2.2.2) := by
  unfold ltk
  rw [lz_P, lz_lw, lz_lt]
theorem yC_z (L : jLS) (Y : Nat → Int32) (t : Int32 × Int32 × Int32) (h : yC G c x N S τ) : yC G c x N S (lz τ x L Y t) := yC_cg h rfl (fun a ha => funext fun k => lz_ne (by omega) (by omega) (by omega) (by omega))
theorem lz_cp (C : yC G c x N S τ) : Ff_L_copy G (x + 233) (x + 234) (x + 235) (x + 236) (lz τ x L Y t) = (.inl none, lz τ x L (lmix S Y) t) := by
  unfold Ff_L_copy
  rw [lz_lw, lz_P, (yC_z L Y t C).2.1]
end YZ
/-- the lapse that comes first, among i rows -/
def yl (S : Nat → Int32) (r i : Nat) : Int32 := jfd (fun i s => if (S (25 + 9 * i + 3) = 1 ∧ S (25 + 9 * i + 4) = nI r) ∧ (s = -1 ∨ S (25 + 9 * i + 5) < s) then S (25 + 9 * i + 5) else s) i (-1)
theorem yl_s (S : Nat → Int32) (r i : Nat) : yl S r (i + 1) = if (S (25 + 9 * i + 3) = 1 ∧ S (25 + 9 * i + 4) = nI r) ∧ (yl S r i = -1 ∨ S (25 + 9 * i + 5) < yl S r i) then S (25 + 9 * i + 5) else yl S r i := jfd_s _ _ _
theorem yl_0 {c : Nat} {S : Nat → Int32} (hI : kI c S) (r : Nat) : ∀ i, i ≤ mN S → (yl S r i < 0 ↔ yl S r i = -1)
  | 0, _ => ⟨fun _ => rfl, fun _ => show (-1 : Int32) < 0 from by decide⟩
  | i + 1, hi => by
    have ih := yl_0 hI r i (by omega)
    rw [yl_s]
    by_cases h : (S (25 + 9 * i + 3) = 1 ∧ S (25 + 9 * i + 4) = nI r) ∧ (yl S r i = -1 ∨ S (25 + 9 * i + 5) < yl S r i)
    · rw [if_pos h]
      obtain ⟨hO, P, T, D, h1, h2, h3, h4, h5, h6, hr, h7, h8⟩ := hI
      obtain ⟨_, l, el, _, l2⟩ := (hr i (by omega)).2.2.2.1 h.1.1
      have el : S (25 + 9 * i + 5) = nI l := el
      rw [el]
      exact ⟨fun z => absurd z (nI_pos (by omega)), fun z => absurd z (nI_m1 (by omega))⟩
    · rw [if_neg h]
      exact ih
/-- the row whose bit is the mask -/
def yn (m : Int32) (i : Nat) : Int32 := jfd (fun i s => if m = 1 <<< (nI i &&& 31) then nI i else s) i (-1)
theorem yn_s (m : Int32) (i : Nat) : yn m (i + 1) = if m = 1 <<< (nI i &&& 31) then nI i else yn m i := jfd_s _ _ _
theorem yn_bit : ∀ i, i < 7 → ∀ j, j < 7 → ((1 : Int32) <<< (nI i &&& 31) = 1 <<< (nI j &&& 31) ↔ i = j) := by decide
theorem yn_bit0 : ∀ i, i < 7 → ¬ (0 : Int32) = 1 <<< (nI i &&& 31) := by decide
theorem yn_0 : ∀ i, i ≤ 7 → yn 0 i = -1
  | 0, _ => rfl
  | i + 1, h => by rw [yn_s, if_neg (yn_bit0 i (by omega))]; exact yn_0 i (by omega)
theorem yn_j {j : Nat} (hj : j < 7) : ∀ i, i ≤ 7 → yn (1 <<< (nI j &&& 31)) i = if j < i then nI j else -1
  | 0, _ => rfl
  | i + 1, h => by
    rw [yn_s, yn_j hj i (by omega)]
    by_cases e : i = j
    · subst e
      rw [if_pos rfl, if_pos (by omega)]
    · rw [if_neg (fun z => e ((yn_bit j hj i (by omega)).mp z).symm)]
      by_cases l : j < i
      · rw [if_pos l, if_pos (by omega)]
      · rw [if_neg l, if_neg (by omega)]
/-- a look for one row -/
theorem mLG_1 {S : Nat → Int32} {r : Nat} {M : Int32} (hM : ¬ 1 < M) : ∀ k, k ≤ mTot S → ((mLG S r M k).2.1 = 0 ∧ (mLG S r M k).1 = 0 ∧ (mLG S r M k).2.2.2.2 = -1) ∨ ((mLG S r M k).2.1 = 1 ∧ ∃ j, j < mN S ∧ (mLG S r M k).1 = 1 <<< (nI j &&& 31) ∧ (mLG S r M k).2.2.2.2 = nI j)
  | 0, _ => Or.inl ⟨rfl, rfl, rfl⟩
  | k + 1, hk => by
    have ih := mLG_1 (S := S) (r := r) hM k (by omega)
    obtain ⟨g1, _, _⟩ := mord_k (S := S) (k := k) (by omega)
    rw [mLG_s]
    generalize mLG S r M k = s at *
    unfold mLst
    by_cases h : s.2.1 < M
    · rw [if_pos h]
      rcases ih with ⟨e1, e2, e3⟩ | ⟨e1, _⟩
      · unfold jLm
        by_cases hc : mCan S r (mord S k) = 0
        · rw [if_pos hc]
          exact Or.inl ⟨e1, e2, e3⟩
        · rw [if_neg hc]
          refine Or.inr ⟨by dsimp only; rw [e1]; decide, mord S k, g1, ?_, ?_⟩
          · dsimp only
            rw [e2]
            exact Int32.zero_or
          · dsimp only
            rw [if_pos e1]
      · rw [e1] at h
        exact absurd h hM
    · rw [if_neg h]
      exact ih
theorem mroom_1 (S : Nat → Int32) (r : Int32) : ¬ 1 < mroom S r 1 := by
  rw [lroom]
  by_cases h : 1 < S 8 - nI (mheld S r)
  · rw [if_pos h]; decide
  · rw [if_neg h]; exact h
theorem mLk_1 {S : Nat → Int32} (h7 : mN S ≤ 7) (r : Nat) : yn (mLk S r 1).1 (mN S) = (mLk S r 1).2.2.2.2 := by
  unfold mLk
  rcases mLG_1 (r := r) (mroom_1 S (nI r)) (mTot S) (Nat.le_refl _) with ⟨_, e2, e3⟩ | ⟨_, j, hj, e2, e3⟩
  · rw [e2, e3, yn_0 _ h7]
  · rw [e2, e3, yn_j (by omega) _ h7, if_pos hj]
section YS3
variable {G : jgG} {c x N : Nat} {S Y : Nat → Int32} {τ : jgS} {Φ : jgR → Prop} {L : jLS} {t : Int32 × Int32 × Int32}
theorem yr_1 (C : yC G c x N S τ) {r : Nat} (hr : r < 4) {b7 b8 b9 v10 v11 : Int32} (h : ∀ l14 l15, Jr G (M_L_same G) 494 [some (.ref x), some (.ref (x + 233)), some (.ref (x + 234)), some (.ref (x + 235)), some (.ref (x + 236)), some (.ref (x + 237)), some (.ref N), some (.int (b7)), some (.int (b8)), some (.int (b9)), some (.int v10), some (.int v11), some (.int (nI r)), some (.int (yl S r (mN S))), l14, l15] [] τ Φ) (l13 l14 l15 : Option Value) : Jr G (M_L_same G) 417 [some (.ref x), some (.ref (x + 233)), some (.ref (x + 234)), some (.ref (x + 235)), some (.ref (x + 236)), some (.ref (x + 237)), some (.ref N), some (.int (b7)), some (.int (b8)), some (.int (b9)), some (.int v10), some (.int v11), some (.int (nI r)), l13, l14, l15] [] τ Φ := by
  obtain ⟨hF, hS, ⟨hQR, hPV, hT, hN⟩, hO, hc64, hNx⟩ := id C
  have h7 := hO.1.2
  obtain ⟨⟨a1, k1⟩, ⟨a2, k2⟩, hQR1⟩ := id hQR
  have hx6 : jo G (jwt τ) x 6 := hF.1.1.1
  have yR : ∀ i p, τ.1 (x + 234) (9 * i + p) = S (25 + 9 * i + p) := fun i p => by rw [← hS]; exact (lj_r _ _ i p).symm
  have yR0 : ∀ i, τ.1 (x + 234) (9 * i) = S (25 + 9 * i + 0) := fun i => yR i 0
  have yQ : ∀ k, k < 25 → τ.1 (x + 233) k = S k := fun k h => by rw [← hS]; exact (lj_q h).symm
  have yQ0 := yQ 0 (by decide)
  have yQ3 := yQ 3 (by decide)
  have hn := hO.1.1
  simp only [jq_iconst (M := M_L_same G) (-1) 418 dL_same_417 (by decide) rfl, jq_istoreW13 (M := M_L_same G) 420 dL_same_418 rfl, jq_iconst (M := M_L_same G) 0 421 dL_same_420 (by decide) rfl, jq_istoreW14 (M := M_L_same G) 423 dL_same_421 rfl, eq_self, jref_10, jref_11, jref_12, jk_v, jk_n, jcat_nil, jcat_i, jcat_r, jcat_l, jcat_d, jc2_i, jc2_r, jc2_n, jc1_i, jc1_r, jrf_some, jwtq_wI, jwtq_wh, jR_wI, jI_wh, jR_wh, List.cons.injEq, Value.int.injEq, Value.ref.injEq, Value.long.injEq, Value.double.injEq, true_and, and_true, and_self, Nat.reduceAdd, Nat.reduceLeDiff, if_true, if_false, ite_true, ite_false, jc1q_i, jc1q_r, jc1q_l, jwtq_wR, jwtq_wY, jI_wI, Nat.reduceEqDiff, and_false, false_and, not_false_eq_true, not_true_eq_false]
  refine jloop (P := fun i => Jr G (M_L_same G) 423 [some (.ref x), some (.ref (x + 233)), some (.ref (x + 234)), some (.ref (x + 235)), some (.ref (x + 236)), some (.ref (x + 237)), some (.ref N), some (.int (b7)), some (.int (b8)), some (.int (b9)), some (.int v10), some (.int v11), some (.int (nI r)), some (.int (yl S r i)), some (.int (nI i)), l15] [] τ Φ) (n := mN S) ?_ (fun i hlt ih => ?_)
  · show Jr G (M_L_same G) 423 _ _ _ _
    rw [jq_iloadW14 (M := M_L_same G) 425 dL_same_423 rfl]
    simp only [jq_aload1 (M := M_L_same G) 426 dL_same_425 rfl, jq_iconst (M := M_L_same G) 0 427 dL_same_426 (by decide) rfl, jq_iald (M := M_L_same G) 428 dL_same_427 rfl, jq_icmp_ge (M := M_L_same G) 494 431 dL_same_428 (by decide) rfl, eq_self, jref_10, jref_11, jref_12, jk_v, jk_n, jcat_nil, jcat_i, jcat_r, jcat_l, jcat_d, jc2_i, jc2_r, jc2_n, jc1_i, jc1_r, jrf_some, jwtq_wI, jwtq_wh, jR_wI, jI_wh, jR_wh, List.cons.injEq, Value.int.injEq, Value.ref.injEq, Value.long.injEq, Value.double.injEq, true_and, and_true, and_self, Nat.reduceAdd, Nat.reduceLeDiff, if_true, if_false, ite_true, ite_false, jc1q_i, jc1q_r, jc1q_l, jwtq_wR, jwtq_wY, jI_wI, Nat.reduceEqDiff, and_false, false_and, not_false_eq_true, not_true_eq_false, a1, k1, a2, k2, lv25_0, lv25_1, lv25_2, lv25_3, lv25_4, lv25_5, lv25_6, lv25_7, lv25_8, jcl_0, jcl_1, jcl_2, jcl_3, jcl_4, jcl_5, jcl_6, jcl_7, jcl_8, jcl_9, jcl_10, jcl_11, jcl_12, yQ0, hn, Int32.le_refl]
    exact h _ _
  · show Jr G (M_L_same G) 423 _ _ _ _
    have hc : ¬ nI (mN S) ≤ nI i := nI_ge hlt (by omega)
    have hi7 : i < 7 := by omega
    have hl := yl_0 hF.2.2 r i (by omega)
    rw [yl_s] at ih
    rw [jq_iloadW14 (M := M_L_same G) 425 dL_same_423 rfl]
    by_cases h1 : S (25 + 9 * i + 3) = 1
    case neg =>
      simp only [h1, false_and, if_false] at ih
      simp only [jq_aload1 (M := M_L_same G) 426 dL_same_425 rfl, jq_iconst (M := M_L_same G) 0 427 dL_same_426 (by decide) rfl, jq_iald (M := M_L_same G) 428 dL_same_427 rfl, jq_icmp_ge (M := M_L_same G) 494 431 dL_same_428 (by decide) rfl, jq_aload2 (M := M_L_same G) 432 dL_same_431 rfl, jq_bipush (M := M_L_same G) 9 434 dL_same_432 (by decide) rfl, jq_iloadW14 (M := M_L_same G) 436 dL_same_434 rfl, jq_imul (M := M_L_same G) 437 dL_same_436 rfl, jq_iconst (M := M_L_same G) 3 438 dL_same_437 (by decide) rfl, jq_iadd (M := M_L_same G) 439 dL_same_438 rfl, jq_iald (M := M_L_same G) 440 dL_same_439 rfl, jq_iconst (M := M_L_same G) 1 441 dL_same_440 (by decide) rfl, jq_icmp_ne (M := M_L_same G) 488 444 dL_same_441 (by decide) rfl, jq_aload2 (M := M_L_same G) 445 dL_same_444 rfl, jq_bipush (M := M_L_same G) 9 447 dL_same_445 (by decide) rfl, jq_iloadW14 (M := M_L_same G) 449 dL_same_447 rfl, jq_imul (M := M_L_same G) 450 dL_same_449 rfl, jq_iconst (M := M_L_same G) 4 451 dL_same_450 (by decide) rfl, jq_iadd (M := M_L_same G) 452 dL_same_451 rfl, jq_iald (M := M_L_same G) 453 dL_same_452 rfl, jq_iloadW12 (M := M_L_same G) 455 dL_same_453 rfl, jq_icmp_ne (M := M_L_same G) 488 458 dL_same_455 (by decide) rfl, jq_iloadW13 (M := M_L_same G) 460 dL_same_458 rfl, jq_if_lt (M := M_L_same G) 477 463 dL_same_460 (by decide) rfl, jq_aload2 (M := M_L_same G) 464 dL_same_463 rfl, jq_bipush (M := M_L_same G) 9 466 dL_same_464 (by decide) rfl, jq_iloadW14 (M := M_L_same G) 468 dL_same_466 rfl, jq_imul (M := M_L_same G) 469 dL_same_468 rfl, jq_iconst (M := M_L_same G) 5 470 dL_same_469 (by decide) rfl, jq_iadd (M := M_L_same G) 471 dL_same_470 rfl, jq_iald (M := M_L_same G) 472 dL_same_471 rfl, jq_iloadW13 (M := M_L_same G) 474 dL_same_472 rfl, jq_icmp_ge (M := M_L_same G) 488 477 dL_same_474 (by decide) rfl, jq_aload2 (M := M_L_same G) 478 dL_same_477 rfl, jq_bipush (M := M_L_same G) 9 480 dL_same_478 (by decide) rfl, jq_iloadW14 (M := M_L_same G) 482 dL_same_480 rfl, jq_imul (M := M_L_same G) 483 dL_same_482 rfl, jq_iconst (M := M_L_same G) 5 484 dL_same_483 (by decide) rfl, jq_iadd (M := M_L_same G) 485 dL_same_484 rfl, jq_iald (M := M_L_same G) 486 dL_same_485 rfl, jq_istoreW13 (M := M_L_same G) 488 dL_same_486 rfl, jq_iinc14 (M := M_L_same G) 1 491 dL_same_488 (by decide) rfl, jq_goto (M := M_L_same G) 423 dL_same_491 (by decide), eq_self, jref_10, jref_11, jref_12, jk_v, jk_n, jcat_nil, jcat_i, jcat_r, jcat_l, jcat_d, jc2_i, jc2_r, jc2_n, jc1_i, jc1_r, jrf_some, jwtq_wI, jwtq_wh, jR_wI, jI_wh, jR_wh, List.cons.injEq, Value.int.injEq, Value.ref.injEq, Value.long.injEq, Value.double.injEq, true_and, and_true, and_self, Nat.reduceAdd, Nat.reduceLeDiff, if_true, if_false, ite_true, ite_false, jc1q_i, jc1q_r, jc1q_l, jwtq_wR, jwtq_wY, jI_wI, Nat.reduceEqDiff, and_false, false_and, not_false_eq_true, not_true_eq_false, a1, k1, a2, k2, lv25_0, lv25_1, lv25_2, lv25_3, lv25_4, lv25_5, lv25_6, lv25_7, lv25_8, jcl_0, jcl_1, jcl_2, jcl_3, jcl_4, jcl_5, jcl_6, jcl_7, jcl_8, jcl_9, jcl_10, jcl_11, jcl_12, l9, lip_1, lip_2, lip_3, lip_4, lip_5, lip_6, lip_7, lip_8, lcl_0, lcl_1, lcl_2, lcl_3, lcl_4, lcl_5, lcl_6, lcl_7, lcl_8, lvp_0, lvp_1, lvp_2, lvp_3, lvp_4, lvp_5, lvp_6, lvp_7, lvp_8, hi7, yQ0, hn, hc, yR, h1]
      exact ih
    by_cases h2 : S (25 + 9 * i + 4) = nI r
    case neg =>
      simp only [h2, and_false, false_and, if_false] at ih
      simp only [jq_aload1 (M := M_L_same G) 426 dL_same_425 rfl, jq_iconst (M := M_L_same G) 0 427 dL_same_426 (by decide) rfl, jq_iald (M := M_L_same G) 428 dL_same_427 rfl, jq_icmp_ge (M := M_L_same G) 494 431 dL_same_428 (by decide) rfl, jq_aload2 (M := M_L_same G) 432 dL_same_431 rfl, jq_bipush (M := M_L_same G) 9 434 dL_same_432 (by decide) rfl, jq_iloadW14 (M := M_L_same G) 436 dL_same_434 rfl, jq_imul (M := M_L_same G) 437 dL_same_436 rfl, jq_iconst (M := M_L_same G) 3 438 dL_same_437 (by decide) rfl, jq_iadd (M := M_L_same G) 439 dL_same_438 rfl, jq_iald (M := M_L_same G) 440 dL_same_439 rfl, jq_iconst (M := M_L_same G) 1 441 dL_same_440 (by decide) rfl, jq_icmp_ne (M := M_L_same G) 488 444 dL_same_441 (by decide) rfl, jq_aload2 (M := M_L_same G) 445 dL_same_444 rfl, jq_bipush (M := M_L_same G) 9 447 dL_same_445 (by decide) rfl, jq_iloadW14 (M := M_L_same G) 449 dL_same_447 rfl, jq_imul (M := M_L_same G) 450 dL_same_449 rfl, jq_iconst (M := M_L_same G) 4 451 dL_same_450 (by decide) rfl, jq_iadd (M := M_L_same G) 452 dL_same_451 rfl, jq_iald (M := M_L_same G) 453 dL_same_452 rfl, jq_iloadW12 (M := M_L_same G) 455 dL_same_453 rfl, jq_icmp_ne (M := M_L_same G) 488 458 dL_same_455 (by decide) rfl, jq_iloadW13 (M := M_L_same G) 460 dL_same_458 rfl, jq_if_lt (M := M_L_same G) 477 463 dL_same_460 (by decide) rfl, jq_aload2 (M := M_L_same G) 464 dL_same_463 rfl, jq_bipush (M := M_L_same G) 9 466 dL_same_464 (by decide) rfl, jq_iloadW14 (M := M_L_same G) 468 dL_same_466 rfl, jq_imul (M := M_L_same G) 469 dL_same_468 rfl, jq_iconst (M := M_L_same G) 5 470 dL_same_469 (by decide) rfl, jq_iadd (M := M_L_same G) 471 dL_same_470 rfl, jq_iald (M := M_L_same G) 472 dL_same_471 rfl, jq_iloadW13 (M := M_L_same G) 474 dL_same_472 rfl, jq_icmp_ge (M := M_L_same G) 488 477 dL_same_474 (by decide) rfl, jq_aload2 (M := M_L_same G) 478 dL_same_477 rfl, jq_bipush (M := M_L_same G) 9 480 dL_same_478 (by decide) rfl, jq_iloadW14 (M := M_L_same G) 482 dL_same_480 rfl, jq_imul (M := M_L_same G) 483 dL_same_482 rfl, jq_iconst (M := M_L_same G) 5 484 dL_same_483 (by decide) rfl, jq_iadd (M := M_L_same G) 485 dL_same_484 rfl, jq_iald (M := M_L_same G) 486 dL_same_485 rfl, jq_istoreW13 (M := M_L_same G) 488 dL_same_486 rfl, jq_iinc14 (M := M_L_same G) 1 491 dL_same_488 (by decide) rfl, jq_goto (M := M_L_same G) 423 dL_same_491 (by decide), eq_self, jref_10, jref_11, jref_12, jk_v, jk_n, jcat_nil, jcat_i, jcat_r, jcat_l, jcat_d, jc2_i, jc2_r, jc2_n, jc1_i, jc1_r, jrf_some, jwtq_wI, jwtq_wh, jR_wI, jI_wh, jR_wh, List.cons.injEq, Value.int.injEq, Value.ref.injEq, Value.long.injEq, Value.double.injEq, true_and, and_true, and_self, Nat.reduceAdd, Nat.reduceLeDiff, if_true, if_false, ite_true, ite_false, jc1q_i, jc1q_r, jc1q_l, jwtq_wR, jwtq_wY, jI_wI, Nat.reduceEqDiff, and_false, false_and, not_false_eq_true, not_true_eq_false, a1, k1, a2, k2, lv25_0, lv25_1, lv25_2, lv25_3, lv25_4, lv25_5, lv25_6, lv25_7, lv25_8, jcl_0, jcl_1, jcl_2, jcl_3, jcl_4, jcl_5, jcl_6, jcl_7, jcl_8, jcl_9, jcl_10, jcl_11, jcl_12, l9, lip_1, lip_2, lip_3, lip_4, lip_5, lip_6, lip_7, lip_8, lcl_0, lcl_1, lcl_2, lcl_3, lcl_4, lcl_5, lcl_6, lcl_7, lcl_8, lvp_0, lvp_1, lvp_2, lvp_3, lvp_4, lvp_5, lvp_6, lvp_7, lvp_8, hi7, yQ0, hn, hc, yR, h1, h2]
      exact ih
    by_cases h3 : yl S r i = -1
    · have h4 := hl.mpr h3
      simp only [h1, h2, h3, and_self, true_or, and_true, if_true] at ih
      simp only [jq_aload1 (M := M_L_same G) 426 dL_same_425 rfl, jq_iconst (M := M_L_same G) 0 427 dL_same_426 (by decide) rfl, jq_iald (M := M_L_same G) 428 dL_same_427 rfl, jq_icmp_ge (M := M_L_same G) 494 431 dL_same_428 (by decide) rfl, jq_aload2 (M := M_L_same G) 432 dL_same_431 rfl, jq_bipush (M := M_L_same G) 9 434 dL_same_432 (by decide) rfl, jq_iloadW14 (M := M_L_same G) 436 dL_same_434 rfl, jq_imul (M := M_L_same G) 437 dL_same_436 rfl, jq_iconst (M := M_L_same G) 3 438 dL_same_437 (by decide) rfl, jq_iadd (M := M_L_same G) 439 dL_same_438 rfl, jq_iald (M := M_L_same G) 440 dL_same_439 rfl, jq_iconst (M := M_L_same G) 1 441 dL_same_440 (by decide) rfl, jq_icmp_ne (M := M_L_same G) 488 444 dL_same_441 (by decide) rfl, jq_aload2 (M := M_L_same G) 445 dL_same_444 rfl, jq_bipush (M := M_L_same G) 9 447 dL_same_445 (by decide) rfl, jq_iloadW14 (M := M_L_same G) 449 dL_same_447 rfl, jq_imul (M := M_L_same G) 450 dL_same_449 rfl, jq_iconst (M := M_L_same G) 4 451 dL_same_450 (by decide) rfl, jq_iadd (M := M_L_same G) 452 dL_same_451 rfl, jq_iald (M := M_L_same G) 453 dL_same_452 rfl, jq_iloadW12 (M := M_L_same G) 455 dL_same_453 rfl, jq_icmp_ne (M := M_L_same G) 488 458 dL_same_455 (by decide) rfl, jq_iloadW13 (M := M_L_same G) 460 dL_same_458 rfl, jq_if_lt (M := M_L_same G) 477 463 dL_same_460 (by decide) rfl, jq_aload2 (M := M_L_same G) 464 dL_same_463 rfl, jq_bipush (M := M_L_same G) 9 466 dL_same_464 (by decide) rfl, jq_iloadW14 (M := M_L_same G) 468 dL_same_466 rfl, jq_imul (M := M_L_same G) 469 dL_same_468 rfl, jq_iconst (M := M_L_same G) 5 470 dL_same_469 (by decide) rfl, jq_iadd (M := M_L_same G) 471 dL_same_470 rfl, jq_iald (M := M_L_same G) 472 dL_same_471 rfl, jq_iloadW13 (M := M_L_same G) 474 dL_same_472 rfl, jq_icmp_ge (M := M_L_same G) 488 477 dL_same_474 (by decide) rfl, jq_aload2 (M := M_L_same G) 478 dL_same_477 rfl, jq_bipush (M := M_L_same G) 9 480 dL_same_478 (by decide) rfl, jq_iloadW14 (M := M_L_same G) 482 dL_same_480 rfl, jq_imul (M := M_L_same G) 483 dL_same_482 rfl, jq_iconst (M := M_L_same G) 5 484 dL_same_483 (by decide) rfl, jq_iadd (M := M_L_same G) 485 dL_same_484 rfl, jq_iald (M := M_L_same G) 486 dL_same_485 rfl, jq_istoreW13 (M := M_L_same G) 488 dL_same_486 rfl, jq_iinc14 (M := M_L_same G) 1 491 dL_same_488 (by decide) rfl, jq_goto (M := M_L_same G) 423 dL_same_491 (by decide), eq_self, jref_10, jref_11, jref_12, jk_v, jk_n, jcat_nil, jcat_i, jcat_r, jcat_l, jcat_d, jc2_i, jc2_r, jc2_n, jc1_i, jc1_r, jrf_some, jwtq_wI, jwtq_wh, jR_wI, jI_wh, jR_wh, List.cons.injEq, Value.int.injEq, Value.ref.injEq, Value.long.injEq, Value.double.injEq, true_and, and_true, and_self, Nat.reduceAdd, Nat.reduceLeDiff, if_true, if_false, ite_true, ite_false, jc1q_i, jc1q_r, jc1q_l, jwtq_wR, jwtq_wY, jI_wI, Nat.reduceEqDiff, and_false, false_and, not_false_eq_true, not_true_eq_false, a1, k1, a2, k2, lv25_0, lv25_1, lv25_2, lv25_3, lv25_4, lv25_5, lv25_6, lv25_7, lv25_8, jcl_0, jcl_1, jcl_2, jcl_3, jcl_4, jcl_5, jcl_6, jcl_7, jcl_8, jcl_9, jcl_10, jcl_11, jcl_12, l9, lip_1, lip_2, lip_3, lip_4, lip_5, lip_6, lip_7, lip_8, lcl_0, lcl_1, lcl_2, lcl_3, lcl_4, lcl_5, lcl_6, lcl_7, lcl_8, lvp_0, lvp_1, lvp_2, lvp_3, lvp_4, lvp_5, lvp_6, lvp_7, lvp_8, hi7, yQ0, hn, hc, yR, h1, h2, h4]
      exact ih
    · have h4 : ¬ yl S r i < 0 := fun z => h3 (hl.mp z)
      by_cases h5 : S (25 + 9 * i + 5) < yl S r i
      · simp only [h1, h2, h3, h5, and_self, false_or, and_true, if_true] at ih
        simp only [jq_aload1 (M := M_L_same G) 426 dL_same_425 rfl, jq_iconst (M := M_L_same G) 0 427 dL_same_426 (by decide) rfl, jq_iald (M := M_L_same G) 428 dL_same_427 rfl, jq_icmp_ge (M := M_L_same G) 494 431 dL_same_428 (by decide) rfl, jq_aload2 (M := M_L_same G) 432 dL_same_431 rfl, jq_bipush (M := M_L_same G) 9 434 dL_same_432 (by decide) rfl, jq_iloadW14 (M := M_L_same G) 436 dL_same_434 rfl, jq_imul (M := M_L_same G) 437 dL_same_436 rfl, jq_iconst (M := M_L_same G) 3 438 dL_same_437 (by decide) rfl, jq_iadd (M := M_L_same G) 439 dL_same_438 rfl, jq_iald (M := M_L_same G) 440 dL_same_439 rfl, jq_iconst (M := M_L_same G) 1 441 dL_same_440 (by decide) rfl, jq_icmp_ne (M := M_L_same G) 488 444 dL_same_441 (by decide) rfl, jq_aload2 (M := M_L_same G) 445 dL_same_444 rfl, jq_bipush (M := M_L_same G) 9 447 dL_same_445 (by decide) rfl, jq_iloadW14 (M := M_L_same G) 449 dL_same_447 rfl, jq_imul (M := M_L_same G) 450 dL_same_449 rfl, jq_iconst (M := M_L_same G) 4 451 dL_same_450 (by decide) rfl, jq_iadd (M := M_L_same G) 452 dL_same_451 rfl, jq_iald (M := M_L_same G) 453 dL_same_452 rfl, jq_iloadW12 (M := M_L_same G) 455 dL_same_453 rfl, jq_icmp_ne (M := M_L_same G) 488 458 dL_same_455 (by decide) rfl, jq_iloadW13 (M := M_L_same G) 460 dL_same_458 rfl, jq_if_lt (M := M_L_same G) 477 463 dL_same_460 (by decide) rfl, jq_aload2 (M := M_L_same G) 464 dL_same_463 rfl, jq_bipush (M := M_L_same G) 9 466 dL_same_464 (by decide) rfl, jq_iloadW14 (M := M_L_same G) 468 dL_same_466 rfl, jq_imul (M := M_L_same G) 469 dL_same_468 rfl, jq_iconst (M := M_L_same G) 5 470 dL_same_469 (by decide) rfl, jq_iadd (M := M_L_same G) 471 dL_same_470 rfl, jq_iald (M := M_L_same G) 472 dL_same_471 rfl, jq_iloadW13 (M := M_L_same G) 474 dL_same_472 rfl, jq_icmp_ge (M := M_L_same G) 488 477 dL_same_474 (by decide) rfl, jq_aload2 (M := M_L_same G) 478 dL_same_477 rfl, jq_bipush (M := M_L_same G) 9 480 dL_same_478 (by decide) rfl, jq_iloadW14 (M := M_L_same G) 482 dL_same_480 rfl, jq_imul (M := M_L_same G) 483 dL_same_482 rfl, jq_iconst (M := M_L_same G) 5 484 dL_same_483 (by decide) rfl, jq_iadd (M := M_L_same G) 485 dL_same_484 rfl, jq_iald (M := M_L_same G) 486 dL_same_485 rfl, jq_istoreW13 (M := M_L_same G) 488 dL_same_486 rfl, jq_iinc14 (M := M_L_same G) 1 491 dL_same_488 (by decide) rfl, jq_goto (M := M_L_same G) 423 dL_same_491 (by decide), eq_self, jref_10, jref_11, jref_12, jk_v, jk_n, jcat_nil, jcat_i, jcat_r, jcat_l, jcat_d, jc2_i, jc2_r, jc2_n, jc1_i, jc1_r, jrf_some, jwtq_wI, jwtq_wh, jR_wI, jI_wh, jR_wh, List.cons.injEq, Value.int.injEq, Value.ref.injEq, Value.long.injEq, Value.double.injEq, true_and, and_true, and_self, Nat.reduceAdd, Nat.reduceLeDiff, if_true, if_false, ite_true, ite_false, jc1q_i, jc1q_r, jc1q_l, jwtq_wR, jwtq_wY, jI_wI, Nat.reduceEqDiff, and_false, false_and, not_false_eq_true, not_true_eq_false, a1, k1, a2, k2, lv25_0, lv25_1, lv25_2, lv25_3, lv25_4, lv25_5, lv25_6, lv25_7, lv25_8, jcl_0, jcl_1, jcl_2, jcl_3, jcl_4, jcl_5, jcl_6, jcl_7, jcl_8, jcl_9, jcl_10, jcl_11, jcl_12, l9, lip_1, lip_2, lip_3, lip_4, lip_5, lip_6, lip_7, lip_8, lcl_0, lcl_1, lcl_2, lcl_3, lcl_4, lcl_5, lcl_6, lcl_7, lcl_8, lvp_0, lvp_1, lvp_2, lvp_3, lvp_4, lvp_5, lvp_6, lvp_7, lvp_8, hi7, yQ0, hn, hc, yR, h1, h2, h4, h5, ji_le, not_true_eq_false, not_false_eq_true]
        exact ih
      · simp only [h1, h2, h3, h5, or_self, and_false, if_false] at ih
        simp only [jq_aload1 (M := M_L_same G) 426 dL_same_425 rfl, jq_iconst (M := M_L_same G) 0 427 dL_same_426 (by decide) rfl, jq_iald (M := M_L_same G) 428 dL_same_427 rfl, jq_icmp_ge (M := M_L_same G) 494 431 dL_same_428 (by decide) rfl, jq_aload2 (M := M_L_same G) 432 dL_same_431 rfl, jq_bipush (M := M_L_same G) 9 434 dL_same_432 (by decide) rfl, jq_iloadW14 (M := M_L_same G) 436 dL_same_434 rfl, jq_imul (M := M_L_same G) 437 dL_same_436 rfl, jq_iconst (M := M_L_same G) 3 438 dL_same_437 (by decide) rfl, jq_iadd (M := M_L_same G) 439 dL_same_438 rfl, jq_iald (M := M_L_same G) 440 dL_same_439 rfl, jq_iconst (M := M_L_same G) 1 441 dL_same_440 (by decide) rfl, jq_icmp_ne (M := M_L_same G) 488 444 dL_same_441 (by decide) rfl, jq_aload2 (M := M_L_same G) 445 dL_same_444 rfl, jq_bipush (M := M_L_same G) 9 447 dL_same_445 (by decide) rfl, jq_iloadW14 (M := M_L_same G) 449 dL_same_447 rfl, jq_imul (M := M_L_same G) 450 dL_same_449 rfl, jq_iconst (M := M_L_same G) 4 451 dL_same_450 (by decide) rfl, jq_iadd (M := M_L_same G) 452 dL_same_451 rfl, jq_iald (M := M_L_same G) 453 dL_same_452 rfl, jq_iloadW12 (M := M_L_same G) 455 dL_same_453 rfl, jq_icmp_ne (M := M_L_same G) 488 458 dL_same_455 (by decide) rfl, jq_iloadW13 (M := M_L_same G) 460 dL_same_458 rfl, jq_if_lt (M := M_L_same G) 477 463 dL_same_460 (by decide) rfl, jq_aload2 (M := M_L_same G) 464 dL_same_463 rfl, jq_bipush (M := M_L_same G) 9 466 dL_same_464 (by decide) rfl, jq_iloadW14 (M := M_L_same G) 468 dL_same_466 rfl, jq_imul (M := M_L_same G) 469 dL_same_468 rfl, jq_iconst (M := M_L_same G) 5 470 dL_same_469 (by decide) rfl, jq_iadd (M := M_L_same G) 471 dL_same_470 rfl, jq_iald (M := M_L_same G) 472 dL_same_471 rfl, jq_iloadW13 (M := M_L_same G) 474 dL_same_472 rfl, jq_icmp_ge (M := M_L_same G) 488 477 dL_same_474 (by decide) rfl, jq_aload2 (M := M_L_same G) 478 dL_same_477 rfl, jq_bipush (M := M_L_same G) 9 480 dL_same_478 (by decide) rfl, jq_iloadW14 (M := M_L_same G) 482 dL_same_480 rfl, jq_imul (M := M_L_same G) 483 dL_same_482 rfl, jq_iconst (M := M_L_same G) 5 484 dL_same_483 (by decide) rfl, jq_iadd (M := M_L_same G) 485 dL_same_484 rfl, jq_iald (M := M_L_same G) 486 dL_same_485 rfl, jq_istoreW13 (M := M_L_same G) 488 dL_same_486 rfl, jq_iinc14 (M := M_L_same G) 1 491 dL_same_488 (by decide) rfl, jq_goto (M := M_L_same G) 423 dL_same_491 (by decide), eq_self, jref_10, jref_11, jref_12, jk_v, jk_n, jcat_nil, jcat_i, jcat_r, jcat_l, jcat_d, jc2_i, jc2_r, jc2_n, jc1_i, jc1_r, jrf_some, jwtq_wI, jwtq_wh, jR_wI, jI_wh, jR_wh, List.cons.injEq, Value.int.injEq, Value.ref.injEq, Value.long.injEq, Value.double.injEq, true_and, and_true, and_self, Nat.reduceAdd, Nat.reduceLeDiff, if_true, if_false, ite_true, ite_false, jc1q_i, jc1q_r, jc1q_l, jwtq_wR, jwtq_wY, jI_wI, Nat.reduceEqDiff, and_false, false_and, not_false_eq_true, not_true_eq_false, a1, k1, a2, k2, lv25_0, lv25_1, lv25_2, lv25_3, lv25_4, lv25_5, lv25_6, lv25_7, lv25_8, jcl_0, jcl_1, jcl_2, jcl_3, jcl_4, jcl_5, jcl_6, jcl_7, jcl_8, jcl_9, jcl_10, jcl_11, jcl_12, l9, lip_1, lip_2, lip_3, lip_4, lip_5, lip_6, lip_7, lip_8, lcl_0, lcl_1, lcl_2, lcl_3, lcl_4, lcl_5, lcl_6, lcl_7, lcl_8, lvp_0, lvp_1, lvp_2, lvp_3, lvp_4, lvp_5, lvp_6, lvp_7, lvp_8, hi7, yQ0, hn, hc, yR, h1, h2, h4, h5, ji_le, not_true_eq_false, not_false_eq_true]
        exact ih
theorem yr_2 (C : yC G c x N S τ) {r : Nat} (hr : r < 4) {b7 b8 b9 v10 v11 v13 : Int32} (h : ∀ l15, Jr G (M_L_same G) 553 [some (.ref x), some (.ref (x + 233)), some (.ref (x + 234)), some (.ref (x + 235)), some (.ref (x + 236)), some (.ref (x + 237)), some (.ref N), some (.int (b7)), some (.int (b8)), some (.int (b9)), some (.int v10), some (.int v11), some (.int (nI r)), some (.int v13), some (.int (yn (mTG (lmix S Y) r (mroom (lmix S Y) (nI r) 1) (mTot (lmix S Y))).2.2.1 (mN S))), l15] [] (lz τ x L (mTS (lmix S Y) r (mroom (lmix S Y) (nI r) 1)) ((mTG (lmix S Y) r (mroom (lmix S Y) (nI r) 1) (mTot (lmix S Y))).2.1, (mTG (lmix S Y) r (mroom (lmix S Y) (nI r) 1) (mTot (lmix S Y))).2.2.1, (mTG (lmix S Y) r (mroom (lmix S Y) (nI r) 1) (mTot (lmix S Y))).2.2.2)) Φ) (l14 l15 : Option Value) : Jr G (M_L_same G) 494 [some (.ref x), some (.ref (x + 233)), some (.ref (x + 234)), some (.ref (x + 235)), some (.ref (x + 236)), some (.ref (x + 237)), some (.ref N), some (.int (b7)), some (.int (b8)), some (.int (b9)), some (.int v10), some (.int v11), some (.int (nI r)), some (.int v13), l14, l15] [] (lz τ x L Y t) Φ := by
  obtain ⟨hF, hS, ⟨hQR, hPV, hT, hN⟩, hO, hc64, hNx⟩ := id C
  have h7 := hO.1.2
  have dQP : ¬ (x + 233) = (x + 235) := by omega
  have dRP : ¬ (x + 234) = (x + 235) := by omega
  have dRV : ¬ (x + 234) = (x + 236) := by omega
  have dPT : ¬ (x + 235) = (x + 237) := by omega
  have dVT : ¬ (x + 236) = (x + 237) := by omega
  have hcp := lz_cp (L := L) (Y := Y) (t := t) C
  have hO1 := n8_O (lmix_e S Y) hO
  have hrv : vp_in (nI r) 4 := vp_in_nI hr (by decide)
  have hrc : (nI r).toNatClampNeg = r := nI_clamp (by omega)
  simp only [jq_aload1 (M := M_L_same G) 495 dL_same_494 rfl, jq_aload2 (M := M_L_same G) 496 dL_same_495 rfl, jq_aload3 (M := M_L_same G) 497 dL_same_496 rfl, jq_aloadW4 (M := M_L_same G) 499 dL_same_497 rfl, jq_stat4 (M := M_L_same G) I_L_copy dL_same_499 rfl (Or.inl rfl) rfl, jq_iloadW12 (M := M_L_same G) 504 dL_same_502 rfl, jq_iconst (M := M_L_same G) 1 505 dL_same_504 (by decide) rfl, jq_aload3 (M := M_L_same G) 506 dL_same_505 rfl, jq_aloadW4 (M := M_L_same G) 508 dL_same_506 rfl, jq_aloadW5 (M := M_L_same G) 510 dL_same_508 rfl, jq_stat5 (M := M_L_same G) I_L_take dL_same_510 rfl (Or.inl rfl) rfl, jq_iconst (M := M_L_same G) (-1) 514 dL_same_513 (by decide) rfl, jq_istoreW14 (M := M_L_same G) 516 dL_same_514 rfl, jq_iconst (M := M_L_same G) 0 517 dL_same_516 (by decide) rfl, jq_istoreW15 (M := M_L_same G) 519 dL_same_517 rfl, eq_self, jref_10, jref_11, jref_12, jk_v, jk_n, jcat_nil, jcat_i, jcat_r, jcat_l, jcat_d, jc2_i, jc2_r, jc2_n, jc1_i, jc1_r, jrf_some, jwtq_wI, jwtq_wh, jR_wI, jI_wh, jR_wh, List.cons.injEq, Value.int.injEq, Value.ref.injEq, Value.long.injEq, Value.double.injEq, true_and, and_true, and_self, Nat.reduceAdd, Nat.reduceLeDiff, if_true, if_false, ite_true, ite_false, jc1q_i, jc1q_r, jc1q_l, jwtq_wR, jwtq_wY, jI_wI, Nat.reduceEqDiff, and_false, false_and, not_false_eq_true, not_true_eq_false, hQR, hPV, hT, hT.1, hT.2, PX_L_copy, FX_L_copy, Pp_L_copy, PX_L_take, FX_L_take, Pp_L_take, Ff_L_take, lz_2, lz_wt, lz_P, lz_tk, dQP, dRP, dRV, dPT, dVT, hcp, hO1, hrv, hrc]
  generalize mTG (lmix S Y) r (mroom (lmix S Y) (nI r) 1) (mTot (lmix S Y)) = K at *
  generalize mTS (lmix S Y) r (mroom (lmix S Y) (nI r) 1) = Y2 at *
  have C2 := yC_z L Y2 (K.2.1, K.2.2.1, K.2.2.2) C
  have yQ0 : (lz τ x L Y2 (K.2.1, K.2.2.1, K.2.2.2)).1 (x + 233) 0 = nI (mN S) := by
    have e : lS (lz τ x L Y2 (K.2.1, K.2.2.1, K.2.2.2)) (x + 233) (x + 234) 0 = S 0 := by rw [C2.2.1]
    exact e.trans hO.1.1
  have hT1 : (lz τ x L Y2 (K.2.1, K.2.2.1, K.2.2.2)).1 (x + 237) 1 = K.2.2.1 := lz_T1
  obtain ⟨⟨a1, k1⟩, ⟨a2, k2⟩, hQR1⟩ := id hQR
  refine jloop (P := fun i => Jr G (M_L_same G) 519 [some (.ref x), some (.ref (x + 233)), some (.ref (x + 234)), some (.ref (x + 235)), some (.ref (x + 236)), some (.ref (x + 237)), some (.ref N), some (.int (b7)), some (.int (b8)), some (.int (b9)), some (.int v10), some (.int v11), some (.int (nI r)), some (.int v13), some (.int (yn K.2.2.1 i)), some (.int (nI i))] [] (lz τ x L Y2 (K.2.1, K.2.2.1, K.2.2.2)) Φ) (n := mN S) ?_ (fun i hlt ih => ?_)
  · show Jr G (M_L_same G) 519 _ _ _ _
    rw [jq_iloadW15 (M := M_L_same G) 521 dL_same_519 rfl]
    simp only [jq_aload1 (M := M_L_same G) 522 dL_same_521 rfl, jq_iconst (M := M_L_same G) 0 523 dL_same_522 (by decide) rfl, jq_iald (M := M_L_same G) 524 dL_same_523 rfl, jq_icmp_ge (M := M_L_same G) 553 527 dL_same_524 (by decide) rfl, eq_self, jref_10, jref_11, jref_12, jk_v, jk_n, jcat_nil, jcat_i, jcat_r, jcat_l, jcat_d, jc2_i, jc2_r, jc2_n, jc1_i, jc1_r, jrf_some, jwtq_wI, jwtq_wh, jR_wI, jI_wh, jR_wh, List.cons.injEq, Value.int.injEq, Value.ref.injEq, Value.long.injEq, Value.double.injEq, true_and, and_true, and_self, Nat.reduceAdd, Nat.reduceLeDiff, if_true, if_false, ite_true, ite_false, jc1q_i, jc1q_r, jc1q_l, jwtq_wR, jwtq_wY, jI_wI, Nat.reduceEqDiff, and_false, false_and, not_false_eq_true, not_true_eq_false, a1, k1, a2, k2, lz_wt, lv25_0, lv25_1, lv25_2, lv25_3, lv25_4, lv25_5, lv25_6, lv25_7, lv25_8, jcl_0, jcl_1, jcl_2, jcl_3, jcl_4, jcl_5, jcl_6, jcl_7, jcl_8, jcl_9, jcl_10, jcl_11, jcl_12, yQ0, Int32.le_refl]
    exact h _
  · show Jr G (M_L_same G) 519 _ _ _ _
    have hc : ¬ nI (mN S) ≤ nI i := nI_ge hlt (by omega)
    rw [yn_s] at ih
    rw [jq_iloadW15 (M := M_L_same G) 521 dL_same_519 rfl]
    by_cases h1 : K.2.2.1 = 1 <<< (nI i &&& 31)
    · rw [if_pos h1] at ih
      have hT1' := hT1.trans h1
      simp only [jq_aload1 (M := M_L_same G) 522 dL_same_521 rfl, jq_iconst (M := M_L_same G) 0 523 dL_same_522 (by decide) rfl, jq_iald (M := M_L_same G) 524 dL_same_523 rfl, jq_icmp_ge (M := M_L_same G) 553 527 dL_same_524 (by decide) rfl, jq_aloadW5 (M := M_L_same G) 529 dL_same_527 rfl, jq_iconst (M := M_L_same G) 1 530 dL_same_529 (by decide) rfl, jq_iald (M := M_L_same G) 531 dL_same_530 rfl, jq_iconst (M := M_L_same G) 1 532 dL_same_531 (by decide) rfl, jq_iloadW15 (M := M_L_same G) 534 dL_same_532 rfl, jq_ishl (M := M_L_same G) 535 dL_same_534 rfl, jq_icmp_ne (M := M_L_same G) 543 538 dL_same_535 (by decide) rfl, jq_iloadW15 (M := M_L_same G) 540 dL_same_538 rfl, jq_goto (M := M_L_same G) 545 dL_same_540 (by decide), jq_iloadW14 (M := M_L_same G) 545 dL_same_543 rfl, jq_istoreW14 (M := M_L_same G) 547 dL_same_545 rfl, jq_iinc15 (M := M_L_same G) 1 550 dL_same_547 (by decide) rfl, jq_goto (M := M_L_same G) 519 dL_same_550 (by decide), eq_self, jref_10, jref_11, jref_12, jk_v, jk_n, jcat_nil, jcat_i, jcat_r, jcat_l, jcat_d, jc2_i, jc2_r, jc2_n, jc1_i, jc1_r, jrf_some, jwtq_wI, jwtq_wh, jR_wI, jI_wh, jR_wh, List.cons.injEq, Value.int.injEq, Value.ref.injEq, Value.long.injEq, Value.double.injEq, true_and, and_true, and_self, Nat.reduceAdd, Nat.reduceLeDiff, if_true, if_false, ite_true, ite_false, jc1q_i, jc1q_r, jc1q_l, jwtq_wR, jwtq_wY, jI_wI, Nat.reduceEqDiff, and_false, false_and, not_false_eq_true, not_true_eq_false, a1, k1, a2, k2, hT.1, hT.2, lz_wt, lv25_0, lv25_1, lv25_2, lv25_3, lv25_4, lv25_5, lv25_6, lv25_7, lv25_8, lv3_0, lv3_1, lv3_2, jcl_0, jcl_1, jcl_2, jcl_3, jcl_4, jcl_5, jcl_6, jcl_7, jcl_8, jcl_9, jcl_10, jcl_11, jcl_12, yQ0, hT1', hc, lip_1]
      exact ih
    · rw [if_neg h1] at ih
      simp only [jq_aload1 (M := M_L_same G) 522 dL_same_521 rfl, jq_iconst (M := M_L_same G) 0 523 dL_same_522 (by decide) rfl, jq_iald (M := M_L_same G) 524 dL_same_523 rfl, jq_icmp_ge (M := M_L_same G) 553 527 dL_same_524 (by decide) rfl, jq_aloadW5 (M := M_L_same G) 529 dL_same_527 rfl, jq_iconst (M := M_L_same G) 1 530 dL_same_529 (by decide) rfl, jq_iald (M := M_L_same G) 531 dL_same_530 rfl, jq_iconst (M := M_L_same G) 1 532 dL_same_531 (by decide) rfl, jq_iloadW15 (M := M_L_same G) 534 dL_same_532 rfl, jq_ishl (M := M_L_same G) 535 dL_same_534 rfl, jq_icmp_ne (M := M_L_same G) 543 538 dL_same_535 (by decide) rfl, jq_iloadW15 (M := M_L_same G) 540 dL_same_538 rfl, jq_goto (M := M_L_same G) 545 dL_same_540 (by decide), jq_iloadW14 (M := M_L_same G) 545 dL_same_543 rfl, jq_istoreW14 (M := M_L_same G) 547 dL_same_545 rfl, jq_iinc15 (M := M_L_same G) 1 550 dL_same_547 (by decide) rfl, jq_goto (M := M_L_same G) 519 dL_same_550 (by decide), eq_self, jref_10, jref_11, jref_12, jk_v, jk_n, jcat_nil, jcat_i, jcat_r, jcat_l, jcat_d, jc2_i, jc2_r, jc2_n, jc1_i, jc1_r, jrf_some, jwtq_wI, jwtq_wh, jR_wI, jI_wh, jR_wh, List.cons.injEq, Value.int.injEq, Value.ref.injEq, Value.long.injEq, Value.double.injEq, true_and, and_true, and_self, Nat.reduceAdd, Nat.reduceLeDiff, if_true, if_false, ite_true, ite_false, jc1q_i, jc1q_r, jc1q_l, jwtq_wR, jwtq_wY, jI_wI, Nat.reduceEqDiff, and_false, false_and, not_false_eq_true, not_true_eq_false, a1, k1, a2, k2, hT.1, hT.2, lz_wt, lv25_0, lv25_1, lv25_2, lv25_3, lv25_4, lv25_5, lv25_6, lv25_7, lv25_8, lv3_0, lv3_1, lv3_2, jcl_0, jcl_1, jcl_2, jcl_3, jcl_4, jcl_5, jcl_6, jcl_7, jcl_8, jcl_9, jcl_10, jcl_11, jcl_12, yQ0, hT1, hc, h1, lip_1]
      exact ih
theorem yr_3 (C : yC G c x N S τ) {r : Nat} (hr : r < 4) {b7 b8 b9 v10 v11 v14 : Int32} {l15 : Option Value} (hv : v14 = (mLk S r 1).2.2.2.2) (h : Jr G (M_L_same G) 673 [some (.ref x), some (.ref (x + 233)), some (.ref (x + 234)), some (.ref (x + 235)), some (.ref (x + 236)), some (.ref (x + 237)), some (.ref N), some (.int (b7)), some (.int (b8)), some (.int (b9)), some (.int v10), some (.int v11), some (.int (nI r)), some (.int (yl S r (mN S))), some (.int v14), l15] [] (jwL τ (x + 232) (mLk S r 1)) Φ) : Jr G (M_L_same G) 553 [some (.ref x), some (.ref (x + 233)), some (.ref (x + 234)), some (.ref (x + 235)), some (.ref (x + 236)), some (.ref (x + 237)), some (.ref N), some (.int (b7)), some (.int (b8)), some (.int (b9)), some (.int v10), some (.int v11), some (.int (nI r)), some (.int (yl S r (mN S))), some (.int v14), l15] [] τ Φ := by
  subst hv
  obtain ⟨hF, hS, ⟨hQR, hPV, hT, hN⟩, hO, hc64, hNx⟩ := id C
  have h7 := hO.1.2
  obtain ⟨⟨a1, k1⟩, ⟨a2, k2⟩, hQR1⟩ := id hQR
  have hx6 : jo G (jwt τ) x 6 := hF.1.1.1
  have yR : ∀ i p, τ.1 (x + 234) (9 * i + p) = S (25 + 9 * i + p) := fun i p => by rw [← hS]; exact (lj_r _ _ i p).symm
  have yR0 : ∀ i, τ.1 (x + 234) (9 * i) = S (25 + 9 * i + 0) := fun i => yR i 0
  have yQ : ∀ k, k < 25 → τ.1 (x + 233) k = S k := fun k h => by rw [← hS]; exact (lj_q h).symm
  have yQ0 := yQ 0 (by decide)
  have yQ3 := yQ 3 (by decide)
  have hOk := hO.1
  have hhd := lhd_F (G := G) (r := nI r) hS
  have q0 : τ.1 (x + 233) (9 + 4 * r + 0) = S (9 + 4 * r + 0) := yQ _ (by omega)
  have q1 : τ.1 (x + 233) (9 + 4 * r + 1) = S (9 + 4 * r + 1) := yQ _ (by omega)
  have q2 : τ.1 (x + 233) (9 + 4 * r + 2) = S (9 + 4 * r + 2) := yQ _ (by omega)
  have q3 : τ.1 (x + 233) (9 + 4 * r + 3) = S (9 + 4 * r + 3) := yQ _ (by omega)
  have r0 : Ff_X6_reader G x (nI r) 0 τ = (.inl (some (.int (S (9 + 4 * r + 0)))), τ) := nl_reader hF hr (w := 0) (by decide)
  have r1 : Ff_X6_reader G x (nI r) 1 τ = (.inl (some (.int (nI (mheld S (nI r))))), τ) := nl_reader hF hr (w := 1) (by decide)
  have r2 : Ff_X6_reader G x (nI r) 2 τ = (.inl (some (.int (S (9 + 4 * r + 1)))), τ) := nl_reader hF hr (w := 2) (by decide)
  have r3 : Ff_X6_reader G x (nI r) 3 τ = (.inl (some (.int (S (9 + 4 * r + 2)))), τ) := nl_reader hF hr (w := 3) (by decide)
  have r4 : Ff_X6_reader G x (nI r) 4 τ = (.inl (some (.int (S (9 + 4 * r + 3)))), τ) := nl_reader hF hr (w := 4) (by decide)
  have r5 : Ff_X6_reader G x (nI r) 5 τ = (.inl (some (.int (yl S r (mN S)))), τ) := nl_reader hF hr (w := 5) (by decide)
  have r6 := nl_reader6 hF hr
  simp only [jq_aload0 (M := M_L_same G) 554 dL_same_553 rfl, jq_iloadW12 (M := M_L_same G) 556 dL_same_554 rfl, jq_iconst (M := M_L_same G) 0 557 dL_same_556 (by decide) rfl, jq_virt2 (M := M_L_same G) I_X6_reader 6 dL_same_557 rfl rfl rfl rfl, jq_aload1 (M := M_L_same G) 561 dL_same_560 rfl, jq_bipush (M := M_L_same G) 9 563 dL_same_561 (by decide) rfl, jq_iconst (M := M_L_same G) 4 564 dL_same_563 (by decide) rfl, jq_iloadW12 (M := M_L_same G) 566 dL_same_564 rfl, jq_imul (M := M_L_same G) 567 dL_same_566 rfl, jq_iadd (M := M_L_same G) 568 dL_same_567 rfl, jq_iald (M := M_L_same G) 569 dL_same_568 rfl, jq_icmp_ne (M := M_L_same G) 671 572 dL_same_569 (by decide) rfl, jq_aload0 (M := M_L_same G) 573 dL_same_572 rfl, jq_iloadW12 (M := M_L_same G) 575 dL_same_573 rfl, jq_iconst (M := M_L_same G) 1 576 dL_same_575 (by decide) rfl, jq_virt2 (M := M_L_same G) I_X6_reader 6 dL_same_576 rfl rfl rfl rfl, jq_iloadW12 (M := M_L_same G) 581 dL_same_579 rfl, jq_aload1 (M := M_L_same G) 582 dL_same_581 rfl, jq_aload2 (M := M_L_same G) 583 dL_same_582 rfl, jq_stat3 (M := M_L_same G) I_L_held dL_same_583 rfl (Or.inl rfl) rfl, jq_icmp_ne (M := M_L_same G) 671 589 dL_same_586 (by decide) rfl, jq_aload0 (M := M_L_same G) 590 dL_same_589 rfl, jq_iloadW12 (M := M_L_same G) 592 dL_same_590 rfl, jq_iconst (M := M_L_same G) 2 593 dL_same_592 (by decide) rfl, jq_virt2 (M := M_L_same G) I_X6_reader 6 dL_same_593 rfl rfl rfl rfl, jq_aload1 (M := M_L_same G) 597 dL_same_596 rfl, jq_bipush (M := M_L_same G) 10 599 dL_same_597 (by decide) rfl, jq_iconst (M := M_L_same G) 4 600 dL_same_599 (by decide) rfl, jq_iloadW12 (M := M_L_same G) 602 dL_same_600 rfl, jq_imul (M := M_L_same G) 603 dL_same_602 rfl, jq_iadd (M := M_L_same G) 604 dL_same_603 rfl, jq_iald (M := M_L_same G) 605 dL_same_604 rfl, jq_icmp_ne (M := M_L_same G) 671 608 dL_same_605 (by decide) rfl, jq_aload0 (M := M_L_same G) 609 dL_same_608 rfl, jq_iloadW12 (M := M_L_same G) 611 dL_same_609 rfl, jq_iconst (M := M_L_same G) 3 612 dL_same_611 (by decide) rfl, jq_virt2 (M := M_L_same G) I_X6_reader 6 dL_same_612 rfl rfl rfl rfl, jq_aload1 (M := M_L_same G) 616 dL_same_615 rfl, jq_bipush (M := M_L_same G) 11 618 dL_same_616 (by decide) rfl, jq_iconst (M := M_L_same G) 4 619 dL_same_618 (by decide) rfl, jq_iloadW12 (M := M_L_same G) 621 dL_same_619 rfl, jq_imul (M := M_L_same G) 622 dL_same_621 rfl, jq_iadd (M := M_L_same G) 623 dL_same_622 rfl, jq_iald (M := M_L_same G) 624 dL_same_623 rfl, jq_icmp_ne (M := M_L_same G) 671 627 dL_same_624 (by decide) rfl, jq_aload0 (M := M_L_same G) 628 dL_same_627 rfl, jq_iloadW12 (M := M_L_same G) 630 dL_same_628 rfl, jq_iconst (M := M_L_same G) 4 631 dL_same_630 (by decide) rfl, jq_virt2 (M := M_L_same G) I_X6_reader 6 dL_same_631 rfl rfl rfl rfl, jq_aload1 (M := M_L_same G) 635 dL_same_634 rfl, jq_bipush (M := M_L_same G) 12 637 dL_same_635 (by decide) rfl, jq_iconst (M := M_L_same G) 4 638 dL_same_637 (by decide) rfl, jq_iloadW12 (M := M_L_same G) 640 dL_same_638 rfl, jq_imul (M := M_L_same G) 641 dL_same_640 rfl, jq_iadd (M := M_L_same G) 642 dL_same_641 rfl, jq_iald (M := M_L_same G) 643 dL_same_642 rfl, jq_icmp_ne (M := M_L_same G) 671 646 dL_same_643 (by decide) rfl, jq_aload0 (M := M_L_same G) 647 dL_same_646 rfl, jq_iloadW12 (M := M_L_same G) 649 dL_same_647 rfl, jq_iconst (M := M_L_same G) 5 650 dL_same_649 (by decide) rfl, jq_virt2 (M := M_L_same G) I_X6_reader 6 dL_same_650 rfl rfl rfl rfl, jq_iloadW13 (M := M_L_same G) 655 dL_same_653 rfl, jq_icmp_ne (M := M_L_same G) 671 658 dL_same_655 (by decide) rfl, jq_aload0 (M := M_L_same G) 659 dL_same_658 rfl, jq_iloadW12 (M := M_L_same G) 661 dL_same_659 rfl, jq_bipush (M := M_L_same G) 6 663 dL_same_661 (by decide) rfl, jq_virt2 (M := M_L_same G) I_X6_reader 6 dL_same_663 rfl rfl rfl rfl, jq_iloadW14 (M := M_L_same G) 668 dL_same_666 rfl, jq_icmp_eq (M := M_L_same G) 673 671 dL_same_668 (by decide) rfl, eq_self, jref_10, jref_11, jref_12, jk_v, jk_n, jcat_nil, jcat_i, jcat_r, jcat_l, jcat_d, jc2_i, jc2_r, jc2_n, jc1_i, jc1_r, jrf_some, jwtq_wI, jwtq_wh, jR_wI, jI_wh, jR_wh, List.cons.injEq, Value.int.injEq, Value.ref.injEq, Value.long.injEq, Value.double.injEq, true_and, and_true, and_self, Nat.reduceAdd, Nat.reduceLeDiff, if_true, if_false, ite_true, ite_false, jc1q_i, jc1q_r, jc1q_l, jwtq_wR, jwtq_wY, jI_wI, Nat.reduceEqDiff, and_false, false_and, not_false_eq_true, not_true_eq_false, a1, k1, a2, k2, hr, lq_0, lqc_0, lqv_0, lq_1, lqc_1, lqv_1, lq_2, lqc_2, lqv_2, lq_3, lqc_3, lqv_3, hx6, hF.1, PX_X6_reader, FX_X6_reader, Pp_X6_reader, r0, r1, r2, r3, r4, r5, r6, q0, q1, q2, q3, hQR, hOk, hS, PX_L_held, FX_L_held, Pp_L_held, hhd]
  exact h
/-- what the class would take, in the numbers of the second pair -/
theorem yr_tv (C : yC G c x N S τ) {S' : Nat → Int32} (e : ∀ k, k < 88 → S' k = S k) {r w : Nat} (hr : r < 4) (hw : w < 3) : mTV S r (mroom S (nI r) 24) (nI w) = mTV S' r (mroom S' (nI r) 24) (nI w) := by
  have h7 := C.2.2.2.1.1.2
  have e1 := nl_ifTaken C.1 hr hw
  have e2 := nl_ifTaken (n8_F e h7 C.1) hr hw
  have e3 := e1.symm.trans e2
  injection e3 with e4 e5
  injection e4 with e6
  injection e6 with e7
  injection e7
theorem yr_l1 (C : yC G c x N S τ) {S' : Nat → Int32} (e : ∀ k, k < 88 → S' k = S k) {r : Nat} (hr : r < 4) : (mLk S' r 1).2.2.2.2 = (mLk S r 1).2.2.2.2 := by
  have h7 := C.2.2.2.1.1.2
  have e1 := nl_reader6 C.1 hr
  have e2 := nl_reader6 (n8_F e h7 C.1) hr
  have e3 := e2.symm.trans e1
  injection e3 with e4 e5
  injection e4 with e6
  injection e6 with e7
  injection e7
/-- the second take, and ifTaken -/
theorem yr_4 (C : yC G c x N S τ) {r : Nat} (hr : r < 4) {b7 b8 b9 v10 v11 v13 v14 : Int32} (h : ∀ l15, Jr G (M_L_same G) 728 [some (.ref x), some (.ref (x + 233)), some (.ref (x + 234)), some (.ref (x + 235)), some (.ref (x + 236)), some (.ref (x + 237)), some (.ref N), some (.int (b7)), some (.int (b8)), some (.int (b9)), some (.int v10), some (.int v11), some (.int (nI r)), some (.int v13), some (.int v14), l15] [] (lz τ x (mLk S r 24) (mTS (lmix S Y) r (mroom (lmix S Y) (nI r) 24)) (mTV S r (mroom S (nI r) 24) 0, mTV S r (mroom S (nI r) 24) 1, mTV S r (mroom S (nI r) 24) 2)) Φ) (l15 : Option Value) : Jr G (M_L_same G) 673 [some (.ref x), some (.ref (x + 233)), some (.ref (x + 234)), some (.ref (x + 235)), some (.ref (x + 236)), some (.ref (x + 237)), some (.ref N), some (.int (b7)), some (.int (b8)), some (.int (b9)), some (.int v10), some (.int v11), some (.int (nI r)), some (.int v13), some (.int v14), l15] [] (lz τ x L Y t) Φ := by
  obtain ⟨hF, hS, ⟨hQR, hPV, hT, hN⟩, hO, hc64, hNx⟩ := id C
  have h7 := hO.1.2
  have dQP : ¬ (x + 233) = (x + 235) := by omega
  have dRP : ¬ (x + 234) = (x + 235) := by omega
  have dRV : ¬ (x + 234) = (x + 236) := by omega
  have dPT : ¬ (x + 235) = (x + 237) := by omega
  have dVT : ¬ (x + 236) = (x + 237) := by omega
  have hcp := lz_cp (L := L) (Y := Y) (t := t) C
  have hO1 := n8_O (lmix_e S Y) hO
  have hrv : vp_in (nI r) 4 := vp_in_nI hr (by decide)
  have hrc : (nI r).toNatClampNeg = r := nI_clamp (by omega)
  have t0 : (mTG (lmix S Y) r (mroom (lmix S Y) (nI r) 24) (mTot (lmix S Y))).2.1 = mTV S r (mroom S (nI r) 24) 0 := (yr_tv C (lmix_e S Y) hr (w := 0) (by decide)).symm
  have t1 : (mTG (lmix S Y) r (mroom (lmix S Y) (nI r) 24) (mTot (lmix S Y))).2.2.1 = mTV S r (mroom S (nI r) 24) 1 := (yr_tv C (lmix_e S Y) hr (w := 1) (by decide)).symm
  have t2 : (mTG (lmix S Y) r (mroom (lmix S Y) (nI r) 24) (mTot (lmix S Y))).2.2.2 = mTV S r (mroom S (nI r) 24) 2 := (yr_tv C (lmix_e S Y) hr (w := 2) (by decide)).symm
  simp only [jq_aload1 (M := M_L_same G) 674 dL_same_673 rfl, jq_aload2 (M := M_L_same G) 675 dL_same_674 rfl, jq_aload3 (M := M_L_same G) 676 dL_same_675 rfl, jq_aloadW4 (M := M_L_same G) 678 dL_same_676 rfl, jq_stat4 (M := M_L_same G) I_L_copy dL_same_678 rfl (Or.inl rfl) rfl, jq_iloadW12 (M := M_L_same G) 683 dL_same_681 rfl, jq_bipush (M := M_L_same G) 24 685 dL_same_683 (by decide) rfl, jq_aload3 (M := M_L_same G) 686 dL_same_685 rfl, jq_aloadW4 (M := M_L_same G) 688 dL_same_686 rfl, jq_aloadW5 (M := M_L_same G) 690 dL_same_688 rfl, jq_stat5 (M := M_L_same G) I_L_take dL_same_690 rfl (Or.inl rfl) rfl, jq_iconst (M := M_L_same G) 0 694 dL_same_693 (by decide) rfl, jq_istoreW15 (M := M_L_same G) 696 dL_same_694 rfl, eq_self, jref_10, jref_11, jref_12, jk_v, jk_n, jcat_nil, jcat_i, jcat_r, jcat_l, jcat_d, jc2_i, jc2_r, jc2_n, jc1_i, jc1_r, jrf_some, jwtq_wI, jwtq_wh, jR_wI, jI_wh, jR_wh, List.cons.injEq, Value.int.injEq, Value.ref.injEq, Value.long.injEq, Value.double.injEq, true_and, and_true, and_self, Nat.reduceAdd, Nat.reduceLeDiff, if_true, if_false, ite_true, ite_false, jc1q_i, jc1q_r, jc1q_l, jwtq_wR, jwtq_wY, jI_wI, Nat.reduceEqDiff, and_false, false_and, not_false_eq_true, not_true_eq_false, hQR, hPV, hT, hT.1, hT.2, PX_L_copy, FX_L_copy, Pp_L_copy, PX_L_take, FX_L_take, Pp_L_take, Ff_L_take, lz_2, lz_wt, lz_P, lz_tk, dQP, dRP, dRV, dPT, dVT, hcp, hO1, hrv, hrc, t0, t1, t2]
  clear t0 t1 t2
  generalize hY2 : mTS (lmix S Y) r (mroom (lmix S Y) (nI r) 24) = Y2 at *
  have hv : ∀ w, w < 3 → Ff_X6_ifTaken G x (nI r) 24 (nI w) (lz τ x L Y2 (mTV S r (mroom S (nI r) 24) 0, mTV S r (mroom S (nI r) 24) 1, mTV S r (mroom S (nI r) 24) 2)) = (.inl (some (.int (mTV S r (mroom S (nI r) 24) (nI w)))), lz τ x (mLk S r 24) Y2 (mTV S r (mroom S (nI r) 24) 0, mTV S r (mroom S (nI r) 24) 1, mTV S r (mroom S (nI r) 24) 2)) ∧ Ff_X6_ifTaken G x (nI r) 24 (nI w) (lz τ x (mLk S r 24) Y2 (mTV S r (mroom S (nI r) 24) 0, mTV S r (mroom S (nI r) 24) 1, mTV S r (mroom S (nI r) 24) 2)) = (.inl (some (.int (mTV S r (mroom S (nI r) 24) (nI w)))), lz τ x (mLk S r 24) Y2 (mTV S r (mroom S (nI r) 24) 0, mTV S r (mroom S (nI r) 24) 1, mTV S r (mroom S (nI r) 24) 2)) := fun w hw => by
    have e1 := nl_ifTaken (yC_z L Y2 (mTV S r (mroom S (nI r) 24) 0, mTV S r (mroom S (nI r) 24) 1, mTV S r (mroom S (nI r) 24) 2) C).1 hr hw
    have e2 := nl_ifTaken (yC_z (mLk S r 24) Y2 (mTV S r (mroom S (nI r) 24) 0, mTV S r (mroom S (nI r) 24) 1, mTV S r (mroom S (nI r) 24) 2) C).1 hr hw
    rw [lz_L] at e1 e2
    exact ⟨e1, e2⟩
  have hSR1 := (yC_z L Y2 (mTV S r (mroom S (nI r) 24) 0, mTV S r (mroom S (nI r) 24) 1, mTV S r (mroom S (nI r) 24) 2) C).1.1
  have hSR2 := (yC_z (mLk S r 24) Y2 (mTV S r (mroom S (nI r) 24) 0, mTV S r (mroom S (nI r) 24) 1, mTV S r (mroom S (nI r) 24) 2) C).1.1
  have h0 : Ff_X6_ifTaken G x (nI r) 24 0 _ = _ := (hv 0 (by decide)).1
  have h1 : Ff_X6_ifTaken G x (nI r) 24 1 _ = _ := (hv 1 (by decide)).2
  have h2 : Ff_X6_ifTaken G x (nI r) 24 2 _ = _ := (hv 2 (by decide)).2
  clear hv
  have hx6 : jo G (jwt τ) x 6 := hF.1.1.1
  have i0 : (0 : Int32) + 1 = 1 := by decide
  have i1 : (1 : Int32) + 1 = 2 := by decide
  have i2 : (2 : Int32) + 1 = 3 := by decide
  have n1 : nI 1 = 1 := rfl
  have n2 : nI 2 = 2 := rfl
  have n0 : nI 0 = 0 := rfl
  rw [n0] at h0
  rw [n1] at h1
  rw [n2] at h2
  generalize mTV S r (mroom S (nI r) 24) 0 = a0 at *
  generalize mTV S r (mroom S (nI r) 24) 1 = a1 at *
  generalize mTV S r (mroom S (nI r) 24) 2 = a2 at *
  simp only [jq_iloadW15 (M := M_L_same G) 698 dL_same_696 rfl, jq_iconst (M := M_L_same G) 3 699 dL_same_698 (by decide) rfl, jq_icmp_ge (M := M_L_same G) 728 702 dL_same_699 (by decide) rfl, jq_aload0 (M := M_L_same G) 703 dL_same_702 rfl, jq_iloadW12 (M := M_L_same G) 705 dL_same_703 rfl, jq_bipush (M := M_L_same G) 24 707 dL_same_705 (by decide) rfl, jq_iloadW15 (M := M_L_same G) 709 dL_same_707 rfl, jq_virt3 (M := M_L_same G) I_X6_ifTaken 6 dL_same_709 rfl rfl rfl rfl, jq_aloadW5 (M := M_L_same G) 714 dL_same_712 rfl, jq_iloadW15 (M := M_L_same G) 716 dL_same_714 rfl, jq_iald (M := M_L_same G) 717 dL_same_716 rfl, jq_icmp_eq (M := M_L_same G) 722 720 dL_same_717 (by decide) rfl, jq_iconst (M := M_L_same G) 0 721 dL_same_720 (by decide) rfl, jq_iret (M := M_L_same G) .boolean dL_same_721 rfl, jq_iinc15 (M := M_L_same G) 1 725 dL_same_722 (by decide) rfl, jq_goto (M := M_L_same G) 696 dL_same_725 (by decide), eq_self, jref_10, jref_11, jref_12, jk_v, jk_n, jcat_nil, jcat_i, jcat_r, jcat_l, jcat_d, jc2_i, jc2_r, jc2_n, jc1_i, jc1_r, jrf_some, jwtq_wI, jwtq_wh, jR_wI, jI_wh, jR_wh, List.cons.injEq, Value.int.injEq, Value.ref.injEq, Value.long.injEq, Value.double.injEq, true_and, and_true, and_self, Nat.reduceAdd, Nat.reduceLeDiff, if_true, if_false, ite_true, ite_false, jc1q_i, jc1q_r, jc1q_l, jwtq_wR, jwtq_wY, jI_wI, Nat.reduceEqDiff, and_false, false_and, not_false_eq_true, not_true_eq_false, hT.1, hT.2, lz_wt, lz_2, lv3_0, lv3_1, lv3_2, jcl_0, jcl_1, jcl_2, jcl_3, jcl_4, jcl_5, jcl_6, jcl_7, jcl_8, jcl_9, jcl_10, jcl_11, jcl_12, lz_T0, lz_T1, lz_T2, hx6, hSR1, hSR2, PX_X6_ifTaken, FX_X6_ifTaken, Pp_X6_ifTaken, h0, h1, h2, i0, i1, i2, show ¬ (3 : Int32) ≤ 0 from by decide, show ¬ (3 : Int32) ≤ 1 from by decide, show ¬ (3 : Int32) ≤ 2 from by decide, show (3 : Int32) ≤ 3 from by decide]
  exact h _
/-- a reader's turn -/
theorem yr_r (C : yC G c x N S τ) {r : Nat} (hr : r < 4) {b7 b8 b9 : Int32} (h : ∀ l13 l14 l15, Jr G (M_L_same G) 411 [some (.ref x), some (.ref (x + 233)), some (.ref (x + 234)), some (.ref (x + 235)), some (.ref (x + 236)), some (.ref (x + 237)), some (.ref N), some (.int (b7)), some (.int (b8)), some (.int (b9)), some (.int (mfb S (r + 1)).1), some (.int (mfb S (r + 1)).2), some (.int (nI (r + 1))), l13, l14, l15] [] (lz τ x (mLk S r 24) (lyR S r Y) (ltR S r Y)) Φ) (l13 l14 l15 : Option Value) : Jr G (M_L_same G) 411 [some (.ref x), some (.ref (x + 233)), some (.ref (x + 234)), some (.ref (x + 235)), some (.ref (x + 236)), some (.ref (x + 237)), some (.ref N), some (.int (b7)), some (.int (b8)), some (.int (b9)), some (.int (mfb S r).1), some (.int (mfb S r).2), some (.int (nI r)), l13, l14, l15] [] (lz τ x L Y t) Φ := by
  have hc : ¬ (4 : Int32) ≤ nI r := nI_ge (b := 4) hr (by decide)
  have h7 := C.2.2.2.1.1.2
  have e1 := lmix_e S Y
  have e2 := lmix_e S (mTS (lmix S Y) r (mroom (lmix S Y) (nI r) 1))
  have et : ltR S r Y = (mTV S r (mroom S (nI r) 24) 0, mTV S r (mroom S (nI r) 24) 1, mTV S r (mroom S (nI r) 24) 2) := Prod.ext (yr_tv C e2 hr (w := 0) (by decide)).symm (Prod.ext (yr_tv C e2 hr (w := 1) (by decide)).symm (yr_tv C e2 hr (w := 2) (by decide)).symm)
  rw [jq_iloadW12 (M := M_L_same G) 413 dL_same_411 rfl]
  simp only [jq_iconst (M := M_L_same G) 4 414 dL_same_413 (by decide) rfl, jq_icmp_ge (M := M_L_same G) 772 417 dL_same_414 (by decide) rfl, eq_self, jref_10, jref_11, jref_12, jk_v, jk_n, jcat_nil, jcat_i, jcat_r, jcat_l, jcat_d, jc2_i, jc2_r, jc2_n, jc1_i, jc1_r, jrf_some, jwtq_wI, jwtq_wh, jR_wI, jI_wh, jR_wh, List.cons.injEq, Value.int.injEq, Value.ref.injEq, Value.long.injEq, Value.double.injEq, true_and, and_true, and_self, Nat.reduceAdd, Nat.reduceLeDiff, if_true, if_false, ite_true, ite_false, jc1q_i, jc1q_r, jc1q_l, jwtq_wR, jwtq_wY, jI_wI, Nat.reduceEqDiff, and_false, false_and, not_false_eq_true, not_true_eq_false, hc]
  refine yr_1 (yC_z L Y t C) hr (fun l14 l15 => ?_) _ _ _
  refine yr_2 (L := L) (t := t) C hr (fun l15 => ?_) _ _
  have e3 : yn (mTG (lmix S Y) r (mroom (lmix S Y) (nI r) 1) (mTot (lmix S Y))).2.2.1 (mN S) = (mLk S r 1).2.2.2.2 := by
    have hF1 := n8_F e1 h7 C.1
    rw [← (mLk_T hF1 hr 1).2.1, ← n8_N e1, mLk_1 (by rw [n8_N e1]; exact h7), yr_l1 C e1 hr]
  refine yr_3 (yC_z _ _ _ C) hr e3 ?_
  rw [lz_L]
  refine yr_4 C hr (fun l15 => ?_) _
  rw [et] at h
  rw [mfb_s] at h
  have hT := C.2.2.1.2.2.1
  by_cases z : (mfb S r).2 < mTV S r (mroom S (nI r) 24) 0
  · rw [if_pos z] at h
    simp only [jq_aloadW5 (M := M_L_same G) 730 dL_same_728 rfl, jq_iconst (M := M_L_same G) 0 731 dL_same_730 (by decide) rfl, jq_iald (M := M_L_same G) 732 dL_same_731 rfl, jq_iloadW11 (M := M_L_same G) 734 dL_same_732 rfl, jq_icmp_le (M := M_L_same G) 742 737 dL_same_734 (by decide) rfl, jq_iloadW12 (M := M_L_same G) 739 dL_same_737 rfl, jq_goto (M := M_L_same G) 744 dL_same_739 (by decide), jq_iloadW10 (M := M_L_same G) 744 dL_same_742 rfl, jq_istoreW10 (M := M_L_same G) 746 dL_same_744 rfl, jq_aloadW5 (M := M_L_same G) 748 dL_same_746 rfl, jq_iconst (M := M_L_same G) 0 749 dL_same_748 (by decide) rfl, jq_iald (M := M_L_same G) 750 dL_same_749 rfl, jq_iloadW11 (M := M_L_same G) 752 dL_same_750 rfl, jq_icmp_le (M := M_L_same G) 762 755 dL_same_752 (by decide) rfl, jq_aloadW5 (M := M_L_same G) 757 dL_same_755 rfl, jq_iconst (M := M_L_same G) 0 758 dL_same_757 (by decide) rfl, jq_iald (M := M_L_same G) 759 dL_same_758 rfl, jq_goto (M := M_L_same G) 764 dL_same_759 (by decide), jq_iloadW11 (M := M_L_same G) 764 dL_same_762 rfl, jq_istoreW11 (M := M_L_same G) 766 dL_same_764 rfl, jq_iinc12 (M := M_L_same G) 1 769 dL_same_766 (by decide) rfl, jq_goto (M := M_L_same G) 411 dL_same_769 (by decide), eq_self, jref_10, jref_11, jref_12, jk_v, jk_n, jcat_nil, jcat_i, jcat_r, jcat_l, jcat_d, jc2_i, jc2_r, jc2_n, jc1_i, jc1_r, jrf_some, jwtq_wI, jwtq_wh, jR_wI, jI_wh, jR_wh, List.cons.injEq, Value.int.injEq, Value.ref.injEq, Value.long.injEq, Value.double.injEq, true_and, and_true, and_self, Nat.reduceAdd, Nat.reduceLeDiff, if_true, if_false, ite_true, ite_false, jc1q_i, jc1q_r, jc1q_l, jwtq_wR, jwtq_wY, jI_wI, Nat.reduceEqDiff, and_false, false_and, not_false_eq_true, not_true_eq_false, hT.1, hT.2, lz_wt, lz_2, lv3_0, lv3_1, lv3_2, jcl_0, jcl_1, jcl_2, jcl_3, jcl_4, jcl_5, jcl_6, jcl_7, jcl_8, jcl_9, jcl_10, jcl_11, jcl_12, lz_T0, ji_le, z, not_true_eq_false, not_false_eq_true, lip_1]
    exact h _ _ _
  · rw [if_neg z] at h
    simp only [jq_aloadW5 (M := M_L_same G) 730 dL_same_728 rfl, jq_iconst (M := M_L_same G) 0 731 dL_same_730 (by decide) rfl, jq_iald (M := M_L_same G) 732 dL_same_731 rfl, jq_iloadW11 (M := M_L_same G) 734 dL_same_732 rfl, jq_icmp_le (M := M_L_same G) 742 737 dL_same_734 (by decide) rfl, jq_iloadW12 (M := M_L_same G) 739 dL_same_737 rfl, jq_goto (M := M_L_same G) 744 dL_same_739 (by decide), jq_iloadW10 (M := M_L_same G) 744 dL_same_742 rfl, jq_istoreW10 (M := M_L_same G) 746 dL_same_744 rfl, jq_aloadW5 (M := M_L_same G) 748 dL_same_746 rfl, jq_iconst (M := M_L_same G) 0 749 dL_same_748 (by decide) rfl, jq_iald (M := M_L_same G) 750 dL_same_749 rfl, jq_iloadW11 (M := M_L_same G) 752 dL_same_750 rfl, jq_icmp_le (M := M_L_same G) 762 755 dL_same_752 (by decide) rfl, jq_aloadW5 (M := M_L_same G) 757 dL_same_755 rfl, jq_iconst (M := M_L_same G) 0 758 dL_same_757 (by decide) rfl, jq_iald (M := M_L_same G) 759 dL_same_758 rfl, jq_goto (M := M_L_same G) 764 dL_same_759 (by decide), jq_iloadW11 (M := M_L_same G) 764 dL_same_762 rfl, jq_istoreW11 (M := M_L_same G) 766 dL_same_764 rfl, jq_iinc12 (M := M_L_same G) 1 769 dL_same_766 (by decide) rfl, jq_goto (M := M_L_same G) 411 dL_same_769 (by decide), eq_self, jref_10, jref_11, jref_12, jk_v, jk_n, jcat_nil, jcat_i, jcat_r, jcat_l, jcat_d, jc2_i, jc2_r, jc2_n, jc1_i, jc1_r, jrf_some, jwtq_wI, jwtq_wh, jR_wI, jI_wh, jR_wh, List.cons.injEq, Value.int.injEq, Value.ref.injEq, Value.long.injEq, Value.double.injEq, true_and, and_true, and_self, Nat.reduceAdd, Nat.reduceLeDiff, if_true, if_false, ite_true, ite_false, jc1q_i, jc1q_r, jc1q_l, jwtq_wR, jwtq_wY, jI_wI, Nat.reduceEqDiff, and_false, false_and, not_false_eq_true, not_true_eq_false, hT.1, hT.2, lz_wt, lz_2, lv3_0, lv3_1, lv3_2, jcl_0, jcl_1, jcl_2, jcl_3, jcl_4, jcl_5, jcl_6, jcl_7, jcl_8, jcl_9, jcl_10, jcl_11, jcl_12, lz_T0, ji_le, z, not_true_eq_false, not_false_eq_true, lip_1]
    exact h _ _ _
theorem yr_all (C : yC G c x N S τ) {b7 b8 b9 : Int32} (h : ∀ l13 l14 l15, Jr G (M_L_same G) 772 [some (.ref x), some (.ref (x + 233)), some (.ref (x + 234)), some (.ref (x + 235)), some (.ref (x + 236)), some (.ref (x + 237)), some (.ref N), some (.int (b7)), some (.int (b8)), some (.int (b9)), some (.int (mfb S 4).1), some (.int (mfb S 4).2), some (.int (nI 4)), l13, l14, l15] [] (lz τ x (mLk S 3 24) (lyR S 3 (ly3 S Y)) (ltR S 3 (ly3 S Y))) Φ) (l13 l14 l15 : Option Value) : Jr G (M_L_same G) 411 [some (.ref x), some (.ref (x + 233)), some (.ref (x + 234)), some (.ref (x + 235)), some (.ref (x + 236)), some (.ref (x + 237)), some (.ref N), some (.int (b7)), some (.int (b8)), some (.int (b9)), some (.int (-1)), some (.int 0), some (.int 0), l13, l14, l15] [] (lz τ x L Y t) Φ := by
  refine yr_r (r := 0) C (by decide) (fun a13 a14 a15 => ?_) _ _ _
  refine yr_r (r := 1) C (by decide) (fun a13 a14 a15 => ?_) _ _ _
  refine yr_r (r := 2) C (by decide) (fun a13 a14 a15 => ?_) _ _ _
  refine yr_r (r := 3) C (by decide) (fun a13 a14 a15 => ?_) _ _ _
  rw [jq_iloadW12 (M := M_L_same G) 413 dL_same_411 rfl]
  simp only [jq_iconst (M := M_L_same G) 4 414 dL_same_413 (by decide) rfl, jq_icmp_ge (M := M_L_same G) 772 417 dL_same_414 (by decide) rfl, eq_self, jref_10, jref_11, jref_12, jk_v, jk_n, jcat_nil, jcat_i, jcat_r, jcat_l, jcat_d, jc2_i, jc2_r, jc2_n, jc1_i, jc1_r, jrf_some, jwtq_wI, jwtq_wh, jR_wI, jI_wh, jR_wh, List.cons.injEq, Value.int.injEq, Value.ref.injEq, Value.long.injEq, Value.double.injEq, true_and, and_true, and_self, Nat.reduceAdd, Nat.reduceLeDiff, if_true, if_false, ite_true, ite_false, jc1q_i, jc1q_r, jc1q_l, jwtq_wR, jwtq_wY, jI_wI, Nat.reduceEqDiff, and_false, false_and, not_false_eq_true, not_true_eq_false, show (4 : Int32) ≤ nI (3 + 1) from by decide]
  exact h _ _ _
end YS3
