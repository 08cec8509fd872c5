/-! more of the calls that change the table -/
theorem kr4 (r : Int32) : (r < 0 ∨ ¬ r < 4) ↔ ¬ (¬ r < 0 ∧ ¬ 3 < r) := by
  simp only [Int32.lt_iff_toInt_lt]
  have h0 : (0 : Int32).toInt = 0 := by decide
  have h4 : (4 : Int32).toInt = 4 := by decide
  have h3 : (3 : Int32).toInt = 3 := by decide
  omega
theorem kr4_q {r : Int32} (h : ¬ (r < 0 ∨ ¬ r < 4)) : ∃ p, p < 4 ∧ r = nI p ∧ r.toNatClampNeg = p := by
  have h2 : ¬ r < 0 ∧ ¬ 3 < r := Classical.byContradiction fun z => h ((kr4 r).mpr z)
  obtain ⟨p, hp, rfl⟩ := vp_in_of (mle3 h2) (by decide)
  exact ⟨p, hp, rfl, nI_clamp (by omega)⟩
theorem kRw_nh {f f' g g' : Nat → Int32} {t : Int32} (h : kRw f g) (ht : ¬ t = 1) (e4 : f' 4 = t) (s3 : g' 3 = t) (e5 : f' 5 = -1) (e6 : f' 6 = -1) (e7 : f' 7 = g' 6) (e : ∀ k, k < 9 → ¬ k = 4 → ¬ k = 5 → ¬ k = 6 → ¬ k = 7 → f' k = f k) (s : ∀ p, p < 9 → ¬ p = 3 → ¬ p = 4 → ¬ p = 5 → ¬ p = 6 → g' p = g p) : kRw f' g' := by
  obtain ⟨h0, h1, h2, h3, _, _, _, _, h8⟩ := h
  refine ⟨?_, ?_, ?_, ?_, e4.trans s3.symm, ?_, ?_, e7, ?_⟩
  · rw [e 0 (by decide) (by decide) (by decide) (by decide) (by decide), s 0 (by decide) (by decide) (by decide) (by decide) (by decide)]; exact h0
  · rw [e 1 (by decide) (by decide) (by decide) (by decide) (by decide), s 1 (by decide) (by decide) (by decide) (by decide) (by decide)]; exact h1
  · rw [e 2 (by decide) (by decide) (by decide) (by decide) (by decide), s 2 (by decide) (by decide) (by decide) (by decide) (by decide)]; exact h2
  · rw [e 3 (by decide) (by decide) (by decide) (by decide) (by decide), s 8 (by decide) (by decide) (by decide) (by decide) (by decide)]; exact h3
  · rw [e5, if_neg (by rw [s3]; exact ht)]
  · rw [e6, if_neg (by rw [s3]; exact ht)]
  · rw [e 8 (by decide) (by decide) (by decide) (by decide) (by decide), s 7 (by decide) (by decide) (by decide) (by decide) (by decide)]; exact h8
theorem kRo_nh {c T : Nat} {g g' : Nat → Int32} {t : Int32} (h : kRo c T g) (ht : ¬ t = 1) (hv : vp_in t 4) (s3 : g' 3 = t) (s : ∀ p, p < 9 → ¬ p = 3 → ¬ p = 4 → ¬ p = 5 → ¬ p = 6 → g' p = g p) : kRo c T g' := by
  obtain ⟨r0, r1, r3, rh, r7⟩ := h
  refine ⟨?_, ?_, by rw [s3]; exact hv, fun z => absurd (s3.symm.trans z) ht, ?_⟩
  · rw [s 0 (by decide) (by decide) (by decide) (by decide) (by decide)]; exact r0
  · rw [s 1 (by decide) (by decide) (by decide) (by decide) (by decide)]; exact r1
  · rw [s 7 (by decide) (by decide) (by decide) (by decide) (by decide)]; exact r7
section KC2
variable {G : jgG} {c x : Nat} {σ : jgS}
theorem kc_revive (hF : kF G c σ x) (v : Int32) : kRes G (c + 1) σ x ["java/lang/IndexOutOfBoundsException", "java/lang/IllegalStateException"] (Ff_X6_revive G x v σ) (Ff_X7_revive G (x + 233) v (Ff_X6_revive G x v σ).2) := by
  have hR := hF.2.2.1
  have hI := hF.2.2.2.1
  have h24 := hI.1.2
  unfold Ff_X6_revive
  by_cases c1 : v < 0 ∨ ¬ v < σ.1 (x + 1) 3
  · rw [if_pos c1]
    unfold Ff_X7_revive
    rw [if_pos (show ¬ (¬ v < 0 ∧ ¬ (jwh σ 6).1 (x + 233 + 1) 0 - 1 < v) from (kro hI.1 v).mp (by rw [← hR.1.1]; exact c1))]
    exact kTh (i := 0) hF rfl rfl
  rw [if_neg c1]
  have n1 : ¬ ¬ (¬ v < 0 ∧ ¬ σ.1 (x + 233 + 1) 0 - 1 < v) := fun z => c1 (by rw [hR.1.1]; exact (kro hI.1 v).mpr z)
  obtain ⟨q, hq, rfl, hqc⟩ := kro_q hI.1 (v := v) (by rw [← hR.1.1]; exact c1)
  rw [hqc]
  have e4 := kf4 hR hq
  by_cases c3 : σ.1 (x + 1 + 4 + q) 4 = 3
  · rw [if_pos c3]
    have c3' : σ.1 (x + 233 + 1) (25 + 9 * q + 3) = 3 := e4.symm.trans c3
    have hC : kCop σ (jwI (jwI (jHkeep σ (x + 33) (x + 1)) (x + 1 + 4 + q) 7 0) (x + 1 + 4 + q) 4 0) x := kCop_w (kCop_w (kCop_K σ x) (by omega) (by omega)) (by omega) (by omega)
    have eS := kS1 hF hC
    show kRes G (c + 1) σ x _ _ (Ff_X7_revive G (x + 233) (nI q) (jwI (jwI (jHkeep σ (x + 33) (x + 1)) (x + 1 + 4 + q) 7 0) (x + 1 + 4 + q) 4 0))
    unfold Ff_X7_revive
    rw [eS, hqc, if_neg n1, if_pos c3']
    have ho : ∀ a k, ¬ a = x + 1 + 4 + q → (jwI (jwI (jHkeep σ (x + 33) (x + 1)) (x + 1 + 4 + q) 7 0) (x + 1 + 4 + q) 4 0).1 a k = (jHkeep σ (x + 33) (x + 1)).1 a k := fun a k ha => by rw [jI_wI, if_neg (fun z => ha z.1), jI_wI, if_neg (fun z => ha z.1)]
    have hr := (kRK hF).2.2.2 q hq
    have s6 : jup1 (jup1 (σ.1 (x + 233 + 1)) (25 + 9 * q + 6) 0) (25 + 9 * q + 3) 0 (25 + 9 * q + 6) = 0 := by rw [jup1_ne (by omega), jup1_at]
    have s3 : jup1 (jup1 (σ.1 (x + 233 + 1)) (25 + 9 * q + 6) 0) (25 + 9 * q + 3) 0 (25 + 9 * q + 3) = 0 := jup1_at _ _ _
    have so : ∀ p, p < 9 → ¬ p = 3 → ¬ p = 4 → ¬ p = 5 → ¬ p = 6 → jup1 (jup1 (σ.1 (x + 233 + 1)) (25 + 9 * q + 6) 0) (25 + 9 * q + 3) 0 (25 + 9 * q + p) = σ.1 (x + 233 + 1) (25 + 9 * q + p) := fun p _ h3 _ _ h6 => by rw [jup1_ne (by omega), jup1_ne (by omega)]
    refine kOp hF hC (kMop_S _ _ _) (kR_row (kRK hF) hq h24 (fun a _ _ ha => funext fun k => ho a k ha) (fun k hk => by rw [jup1_ne (by omega), jup1_ne (by omega)]) ?_) (kI_mono (Nat.le_succ c) (kI_row hI hq (fun k hk => by rw [jup1_ne (by omega), jup1_ne (by omega)]) (so 2 (by decide) (by decide) (by decide) (by decide) (by decide)) (fun T _ _ hr => kRo_nh hr (t := 0) (by decide) (vp_in_nI (n := 0) (by decide) (by decide)) s3 so))) (kf7 hR hq)
    have n3 : ¬ σ.1 (x + 233 + 1) (25 + 9 * q + 3) = 1 := by rw [c3']; decide
    refine kRw_nh hr (t := 0) (by decide) (by rw [jI_wI, if_pos ⟨rfl, rfl⟩]) s3 ?_ ?_ ?_ (fun k _ h4 _ _ h7 => by rw [jI_wI, if_neg (fun z => h4 z.2), jI_wI, if_neg (fun z => h7 z.2)]) so
    · rw [jI_wI, if_neg (by omega), jI_wI, if_neg (by omega)]
      exact hr.2.2.2.2.2.1.trans (if_neg n3)
    · rw [jI_wI, if_neg (by omega), jI_wI, if_neg (by omega)]
      exact hr.2.2.2.2.2.2.1.trans (if_neg n3)
    · rw [jI_wI, if_neg (by omega), jI_wI, if_pos ⟨rfl, rfl⟩]
      exact s6.symm
  · rw [if_neg c3]
    show kRes G (c + 1) σ x _ _ (Ff_X7_revive G (x + 233) (nI q) (jwh σ 6))
    unfold Ff_X7_revive
    rw [hqc, if_neg (show ¬ ¬ (¬ nI q < 0 ∧ ¬ (jwh σ 6).1 (x + 233 + 1) 0 - 1 < nI q) from n1), if_neg (show ¬ (jwh σ 6).1 (x + 233 + 1) (25 + 9 * q + 3) = 3 from fun z => c3 (e4.trans z))]
    exact kTh (i := 1) hF rfl rfl
theorem kc_takes (hF : kF G c σ x) (r v : Int32) : kRes G (c + 1) σ x ["java/lang/IndexOutOfBoundsException", "java/lang/IllegalArgumentException"] (Ff_X6_takes G x r v σ) (Ff_X7_takes G (x + 233) r v (Ff_X6_takes G x r v σ).2) := by
  have hR := hF.2.2.1
  have hI := hF.2.2.2.1
  have h24 := hI.1.2
  unfold Ff_X6_takes
  by_cases c1 : r < 0 ∨ ¬ r < 4
  · rw [if_pos c1]
    unfold Ff_X7_takes
    rw [if_pos ((kr4 r).mp c1)]
    exact kTh (i := 0) hF rfl rfl
  rw [if_neg c1]
  obtain ⟨p, hp, rfl, hpc⟩ := kr4_q c1
  have n1 : ¬ ¬ (¬ nI p < 0 ∧ ¬ 3 < nI p) := fun z => c1 ((kr4 (nI p)).mpr z)
  rw [hpc]
  by_cases c2 : v < 0 ∨ 255 < v
  · rw [if_pos c2]
    unfold Ff_X7_takes
    rw [if_neg n1, if_pos (fun z => c2.elim z.1 z.2)]
    exact kTh (i := 1) hF rfl rfl
  rw [if_neg c2]
  have n2 : ¬ ¬ (¬ v < 0 ∧ ¬ 255 < v) := fun z => z ⟨fun w => c2 (Or.inl w), fun w => c2 (Or.inr w)⟩
  have hC : kCop σ (jwI (jHkeep σ (x + 33) (x + 1)) (x + 1 + 28 + p) 0 v) x := kCop_w (kCop_K σ x) (by omega) (by omega)
  have eS := kS1 hF hC
  show kRes G (c + 1) σ x _ _ (Ff_X7_takes G (x + 233) (nI p) v (jwI (jHkeep σ (x + 33) (x + 1)) (x + 1 + 28 + p) 0 v))
  unfold Ff_X7_takes
  rw [eS, hpc, if_neg n1, if_neg n2]
  exact kOp hF hC (kMop_S _ _ _) (kR_rd (kRK hF) h24 hp (by decide)) (kI_mono (Nat.le_succ c) (kI_lo hI (by omega))) (hR.2.2.1 p hp 0 (by decide))
theorem kc_set (hF : kF G c σ x) (s v : Int32) : kRes G (c + 1) σ x ["java/lang/IndexOutOfBoundsException", "java/lang/IllegalArgumentException"] (Ff_X6_set G x s v σ) (Ff_X7_set G (x + 233) s v (Ff_X6_set G x s v σ).2) := by
  have hR := hF.2.2.1
  have hI := hF.2.2.2.1
  have h24 := hI.1.2
  unfold Ff_X6_set
  by_cases c1 : s < 0 ∨ ¬ s < 4
  · rw [if_pos c1]
    unfold Ff_X7_set
    rw [if_pos ((kr4 s).mp c1)]
    exact kTh (i := 0) hF rfl rfl
  rw [if_neg c1]
  obtain ⟨p, hp, rfl, hpc⟩ := kr4_q c1
  have n1 : ¬ ¬ (¬ nI p < 0 ∧ ¬ 3 < nI p) := fun z => c1 ((kr4 (nI p)).mpr z)
  rw [hpc]
  have hVO : (v < jLV p ∨ jGV p < v) ↔ jb (if nI p = 0 then ¬ v < 1 ∧ ¬ 99 < v else if nI p = 1 then ¬ v < 1 ∧ ¬ 9 < v else if nI p = 2 then ¬ v < 0 ∧ ¬ 1 < v else ¬ v < 1 ∧ ¬ 24 < v) = 0 := by
    rw [jb_0]
    rcases (show p = 0 ∨ p = 1 ∨ p = 2 ∨ p = 3 by omega) with rfl | rfl | rfl | rfl
    · rw [if_pos (by decide)]
      exact ⟨fun z y => z.elim y.1 y.2, fun z => Classical.byContradiction fun y => z ⟨fun w => y (Or.inl w), fun w => y (Or.inr w)⟩⟩
    · rw [if_neg (by decide), if_pos (by decide)]
      exact ⟨fun z y => z.elim y.1 y.2, fun z => Classical.byContradiction fun y => z ⟨fun w => y (Or.inl w), fun w => y (Or.inr w)⟩⟩
    · rw [if_neg (by decide), if_neg (by decide), if_pos (by decide)]
      exact ⟨fun z y => z.elim y.1 y.2, fun z => Classical.byContradiction fun y => z ⟨fun w => y (Or.inl w), fun w => y (Or.inr w)⟩⟩
    · rw [if_neg (by decide), if_neg (by decide), if_neg (by decide)]
      exact ⟨fun z y => z.elim y.1 y.2, fun z => Classical.byContradiction fun y => z ⟨fun w => y (Or.inl w), fun w => y (Or.inr w)⟩⟩
  by_cases c2 : v < jLV p ∨ jGV p < v
  · rw [if_pos c2]
    show kRes G (c + 1) σ x _ _ (Ff_X7_set G (x + 233) (nI p) v (jwh σ 6))
    unfold Ff_X7_set
    rw [if_neg n1, if_pos (hVO.mp c2)]
    exact kTh (i := 1) hF rfl rfl
  rw [if_neg c2]
  have hC : kCop σ (jwI (jHkeep σ (x + 33) (x + 1)) (x + 1 + 3) p v) x := kCop_w (kCop_K σ x) (by omega) (by omega)
  have eS := kS1 hF hC
  show kRes G (c + 1) σ x _ _ (Ff_X7_set G (x + 233) (nI p) v (jwI (jHkeep σ (x + 33) (x + 1)) (x + 1 + 3) p v))
  unfold Ff_X7_set
  rw [eS, hpc, if_neg n1, if_neg (fun z => c2 (hVO.mpr z))]
  refine kOp hF hC (kMop_S _ _ _) (kR_set (kRK hF) h24 hp) (kI_mono (Nat.le_succ c) ?_) (hR.2.1 p hp)
  rcases (show p = 0 ∨ p = 1 ∨ p = 2 ∨ p = 3 by omega) with rfl | rfl | rfl | rfl
  · have l : ¬ (v < 1 ∨ 99 < v) := c2
    have h0 : ¬ v < 0 := fun z => l (Or.inl (by
      rw [Int32.lt_iff_toInt_lt] at z ⊢
      have h1 : (0 : Int32).toInt = 0 := by decide
      have h2 : (1 : Int32).toInt = 1 := by decide
      omega))
    obtain ⟨d, hd, rfl⟩ := nI_of2 (M := 99) (n := 99) (by decide) h0 (ji_le.mpr fun z => l (Or.inr z))
    refine kI_set0 hI ?_ hd
    rcases Nat.eq_zero_or_pos d with z | z
    · subst z
      exact absurd (Or.inl (by decide)) l
    · exact z
  · exact kI_lo hI (by omega)
  · exact kI_lo hI (by omega)
  · have l : ¬ (v < 1 ∨ 24 < v) := c2
    have h0 : ¬ v < 0 := fun z => l (Or.inl (by
      rw [Int32.lt_iff_toInt_lt] at z ⊢
      have h1 : (0 : Int32).toInt = 0 := by decide
      have h2 : (1 : Int32).toInt = 1 := by decide
      omega))
    obtain ⟨d, hd, rfl⟩ := nI_of2 (M := 24) (n := 24) (by decide) h0 (ji_le.mpr fun z => l (Or.inr z))
    exact kI_set3 hI (vp_in_nI (by omega) (by decide))
/-- a hold that ends: the row's new state t -/
theorem kend (hF : kF G c σ x) {q : Nat} (hq : q < mN (σ.1 (x + 233 + 1))) {t : Int32} (ht : ¬ t = 1) (hv : vp_in t 4) : kR (jwI (jwI (jwI (jHkeep σ (x + 33) (x + 1)) (x + 1 + 4 + q) 4 t) (x + 1 + 4 + q) 5 (-1)) (x + 1 + 4 + q) 6 (-1)) (x + 1) (jup1 (σ.1 (x + 233 + 1)) (25 + 9 * q + 3) t) ∧ kI c (jup1 (σ.1 (x + 233 + 1)) (25 + 9 * q + 3) t) := by
  have hR := hF.2.2.1
  have hI := hF.2.2.2.1
  have h24 := hI.1.2
  have so : ∀ p, p < 9 → ¬ p = 3 → ¬ p = 4 → ¬ p = 5 → ¬ p = 6 → jup1 (σ.1 (x + 233 + 1)) (25 + 9 * q + 3) t (25 + 9 * q + p) = σ.1 (x + 233 + 1) (25 + 9 * q + p) := fun p _ h3 _ _ h6 => jup1_ne (by omega)
  have s6 : jup1 (σ.1 (x + 233 + 1)) (25 + 9 * q + 3) t (25 + 9 * q + 6) = σ.1 (x + 233 + 1) (25 + 9 * q + 6) := jup1_ne (by omega)
  have hr := (kRK hF).2.2.2 q hq
  refine ⟨kR_row (kRK hF) hq h24 (fun a _ _ ha => funext fun k => by rw [jI_wI, if_neg (fun z => ha z.1), jI_wI, if_neg (fun z => ha z.1), jI_wI, if_neg (fun z => ha z.1)]) (fun k hk => jup1_ne (by omega)) ?_, kI_row hI hq (fun k hk => jup1_ne (by omega)) (so 2 (by decide) (by decide) (by decide) (by decide) (by decide)) (fun T _ _ hr => kRo_nh hr ht hv (jup1_at _ _ _) so)⟩
  refine kRw_nh hr ht ?_ (jup1_at _ _ _) ?_ ?_ ?_ (fun k _ h4 h5 h6 _ => by rw [jI_wI, if_neg (fun z => h6 z.2), jI_wI, if_neg (fun z => h5 z.2), jI_wI, if_neg (fun z => h4 z.2)]) so
  · rw [jI_wI, if_neg (by omega), jI_wI, if_neg (by omega), jI_wI, if_pos ⟨rfl, rfl⟩]
  · rw [jI_wI, if_neg (by omega), jI_wI, if_pos ⟨rfl, rfl⟩]
  · rw [jI_wI, if_pos ⟨rfl, rfl⟩]
  · rw [jI_wI, if_neg (by omega), jI_wI, if_neg (by omega), jI_wI, if_neg (by omega)]
    exact hr.2.2.2.2.2.2.2.1.trans s6.symm
theorem kc_done (hF : kF G c σ x) (r v : Int32) : kRes G (c + 1) σ x ["java/lang/IndexOutOfBoundsException", "java/lang/IllegalStateException"] (Ff_X6_done G x r v σ) (Ff_X7_done G (x + 233) r v (Ff_X6_done G x r v σ).2) := by
  have hR := hF.2.2.1
  have hI := hF.2.2.2.1
  have h24 := hI.1.2
  unfold Ff_X6_done
  by_cases c1 : r < 0 ∨ ¬ r < 4
  · rw [if_pos c1]
    unfold Ff_X7_done
    rw [if_pos ((kr4 r).mp c1)]
    exact kTh (i := 0) hF rfl rfl
  rw [if_neg c1]
  obtain ⟨p, hp, rfl, hpc⟩ := kr4_q c1
  have n1 : ¬ ¬ (¬ nI p < 0 ∧ ¬ 3 < nI p) := fun z => c1 ((kr4 (nI p)).mpr z)
  have np := n1
  by_cases c1 : v < 0 ∨ ¬ v < σ.1 (x + 1) 3
  · rw [if_pos c1]
    unfold Ff_X7_done
    rw [if_neg np, if_pos (show ¬ (¬ v < 0 ∧ ¬ (jwh σ 6).1 (x + 233 + 1) 0 - 1 < v) from (kro hI.1 v).mp (by rw [← hR.1.1]; exact c1))]
    exact kTh (i := 0) hF rfl rfl
  rw [if_neg c1]
  have n1 : ¬ ¬ (¬ v < 0 ∧ ¬ σ.1 (x + 233 + 1) 0 - 1 < v) := fun z => c1 (by rw [hR.1.1]; exact (kro hI.1 v).mpr z)
  obtain ⟨q, hq, rfl, hqc⟩ := kro_q hI.1 (v := v) (by rw [← hR.1.1]; exact c1)
  rw [hqc, hpc]
  have hhe := khe hR (r := nI p) hq
  by_cases c3 : σ.1 (x + 1 + 4 + q) 4 = 1 ∧ σ.1 (x + 1 + 4 + q) 5 = nI p
  · rw [if_pos c3]
    obtain ⟨kr, ki⟩ := kend hF hq (t := 2) (by decide) (vp_in_nI (n := 2) (by decide) (by decide))
    have hC : kCop σ (jwI (jwI (jwI (jwI (jwI (jHkeep σ (x + 33) (x + 1)) (x + 1 + 4 + q) 4 2) (x + 1 + 4 + q) 5 (-1)) (x + 1 + 4 + q) 6 (-1)) (x + 1) 6 (σ.1 (x + 1) 6 + 1)) (x + 1 + 28 + p) 1 (σ.1 (x + 1 + 28 + p) 1 + 1)) x := kCop_w (kCop_w (kCop_w (kCop_w (kCop_w (kCop_K σ x) (by omega) (by omega)) (by omega) (by omega)) (by omega) (by omega)) (by omega) (by omega)) (by omega) (by omega)
    have eS := kS1 hF hC
    have en : mN (jup1 (σ.1 (x + 233 + 1)) (25 + 9 * q + 3) 2) = mN (σ.1 (x + 233 + 1)) := by unfold mN; rw [jup1_ne (by omega)]
    have k2 := kR_d (v := σ.1 (x + 1) 6 + 1) kr (by rw [en]; exact h24)
    have en2 : mN (jup1 (jup1 (σ.1 (x + 233 + 1)) (25 + 9 * q + 3) 2) 2 (σ.1 (x + 1) 6 + 1)) = mN (σ.1 (x + 233 + 1)) := by unfold mN; rw [jup1_ne (by decide), jup1_ne (by omega)]
    have k3 := kR_rd (r := p) (p := 1) (v := σ.1 (x + 1 + 28 + p) 1 + 1) k2 (by rw [en2]; exact h24) hp (by decide)
    have e6 := hR.1.2.2.2.1
    have er := hR.2.2.1 p hp 1 (by decide)
    show kRes G (c + 1) σ x _ _ (Ff_X7_done G (x + 233) (nI p) (nI q) (jwI (jwI (jwI (jwI (jwI (jHkeep σ (x + 33) (x + 1)) (x + 1 + 4 + q) 4 2) (x + 1 + 4 + q) 5 (-1)) (x + 1 + 4 + q) 6 (-1)) (x + 1) 6 (σ.1 (x + 1) 6 + 1)) (x + 1 + 28 + p) 1 (σ.1 (x + 1 + 28 + p) 1 + 1)))
    unfold Ff_X7_done
    rw [eS, hqc, hpc, if_neg np, if_neg n1, if_pos (hhe.mp c3)]
    refine kOp hF hC (kMop_S _ _ _) ?_ (kI_mono (Nat.le_succ c) (kI_lo (kI_lo ki (by omega)) (by omega))) (by rw [er])
    rw [e6, er] at k3 ⊢
    exact k3
  · rw [if_neg c3]
    show kRes G (c + 1) σ x _ _ (Ff_X7_done G (x + 233) (nI p) (nI q) (jwh σ 6))
    unfold Ff_X7_done
    rw [hqc, if_neg np, if_neg (show ¬ ¬ (¬ nI q < 0 ∧ ¬ (jwh σ 6).1 (x + 233 + 1) 0 - 1 < nI q) from n1), if_neg (show ¬ ((jwh σ 6).1 (x + 233 + 1) (25 + 9 * q + 3) = 1 ∧ (jwh σ 6).1 (x + 233 + 1) (25 + 9 * q + 4) = nI p) from fun z => c3 (hhe.mpr z))]
    exact kTh (i := 1) hF rfl rfl
theorem kc_giveBack (hF : kF G c σ x) (r v : Int32) : kRes G (c + 1) σ x ["java/lang/IndexOutOfBoundsException", "java/lang/IllegalStateException"] (Ff_X6_giveBack G x r v σ) (Ff_X7_giveBack G (x + 233) r v (Ff_X6_giveBack G x r v σ).2) := by
  have hR := hF.2.2.1
  have hI := hF.2.2.2.1
  have h24 := hI.1.2
  unfold Ff_X6_giveBack
  by_cases c1 : r < 0 ∨ ¬ r < 4
  · rw [if_pos c1]
    unfold Ff_X7_giveBack
    rw [if_pos ((kr4 r).mp c1)]
    exact kTh (i := 0) hF rfl rfl
  rw [if_neg c1]
  obtain ⟨p, hp, rfl, hpc⟩ := kr4_q c1
  have n1 : ¬ ¬ (¬ nI p < 0 ∧ ¬ 3 < nI p) := fun z => c1 ((kr4 (nI p)).mpr z)
  have np := n1
  by_cases c1 : v < 0 ∨ ¬ v < σ.1 (x + 1) 3
  · rw [if_pos c1]
    unfold Ff_X7_giveBack
    rw [if_neg np, if_pos (show ¬ (¬ v < 0 ∧ ¬ (jwh σ 6).1 (x + 233 + 1) 0 - 1 < v) from (kro hI.1 v).mp (by rw [← hR.1.1]; exact c1))]
    exact kTh (i := 0) hF rfl rfl
  rw [if_neg c1]
  have n1 : ¬ ¬ (¬ v < 0 ∧ ¬ σ.1 (x + 233 + 1) 0 - 1 < v) := fun z => c1 (by rw [hR.1.1]; exact (kro hI.1 v).mpr z)
  obtain ⟨q, hq, rfl, hqc⟩ := kro_q hI.1 (v := v) (by rw [← hR.1.1]; exact c1)
  rw [hqc, hpc]
  have hhe := khe hR (r := nI p) hq
  by_cases c3 : σ.1 (x + 1 + 4 + q) 4 = 1 ∧ σ.1 (x + 1 + 4 + q) 5 = nI p
  · rw [if_pos c3]
    obtain ⟨kr, ki⟩ := kend hF hq (t := 0) (by decide) (vp_in_nI (n := 0) (by decide) (by decide))
    have hC : kCop σ (jwI (jwI (jwI (jwI (jHkeep σ (x + 33) (x + 1)) (x + 1 + 4 + q) 4 0) (x + 1 + 4 + q) 5 (-1)) (x + 1 + 4 + q) 6 (-1)) (x + 1 + 28 + p) 2 (σ.1 (x + 1 + 28 + p) 2 + 1)) x := kCop_w (kCop_w (kCop_w (kCop_w (kCop_K σ x) (by omega) (by omega)) (by omega) (by omega)) (by omega) (by omega)) (by omega) (by omega)
    have eS := kS1 hF hC
    have en : mN (jup1 (σ.1 (x + 233 + 1)) (25 + 9 * q + 3) 0) = mN (σ.1 (x + 233 + 1)) := by unfold mN; rw [jup1_ne (by omega)]
    have k3 := kR_rd (r := p) (p := 2) (v := σ.1 (x + 1 + 28 + p) 2 + 1) kr (by rw [en]; exact h24) hp (by decide)
    have er := hR.2.2.1 p hp 2 (by decide)
    rw [er] at k3 hC eS ⊢
    show kRes G (c + 1) σ x _ (.inl (some (.int (nI (jct (fun i => _ ∧ _) (jn _ (x + 1)))))), jwI (jwI (jwI (jwI (jHkeep σ (x + 33) (x + 1)) (x + 1 + 4 + q) 4 0) (x + 1 + 4 + q) 5 (-1)) (x + 1 + 4 + q) 6 (-1)) (x + 1 + 28 + p) 2 (σ.1 (x + 233 + 1) (9 + 4 * p + 2) + 1)) (Ff_X7_giveBack G (x + 233) (nI p) (nI q) (jwI (jwI (jwI (jwI (jHkeep σ (x + 33) (x + 1)) (x + 1 + 4 + q) 4 0) (x + 1 + 4 + q) 5 (-1)) (x + 1 + 4 + q) 6 (-1)) (x + 1 + 28 + p) 2 (σ.1 (x + 233 + 1) (9 + 4 * p + 2) + 1)))
    unfold Ff_X7_giveBack
    rw [eS, hqc, hpc, if_neg np, if_neg n1, if_pos (hhe.mp c3)]
    exact kOp hF hC (kMop_S _ _ _) k3 (kI_mono (Nat.le_succ c) (kI_lo ki (by omega))) (congrArg nI (kheld k3 (nI p)))
  · rw [if_neg c3]
    show kRes G (c + 1) σ x _ _ (Ff_X7_giveBack G (x + 233) (nI p) (nI q) (jwh σ 6))
    unfold Ff_X7_giveBack
    rw [hqc, if_neg np, if_neg (show ¬ ¬ (¬ nI q < 0 ∧ ¬ (jwh σ 6).1 (x + 233 + 1) 0 - 1 < nI q) from n1), if_neg (show ¬ ((jwh σ 6).1 (x + 233 + 1) (25 + 9 * q + 3) = 1 ∧ (jwh σ 6).1 (x + 233 + 1) (25 + 9 * q + 4) = nI p) from fun z => c3 (hhe.mpr z))]
    exact kTh (i := 1) hF rfl rfl
end KC2
