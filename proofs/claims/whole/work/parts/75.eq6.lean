/-! the looks, both sides -/
section KC6
variable {G : jgG} {c x : Nat} {σ : jgS}
/-- nothing but the look and what the reference keeps aside is changed -/
theorem kLk {σ1 σ2 : jgS} {ex : List String} {v w : Int32} (hF : kF G c σ x) (h1 : jLs x σ σ1) (hm : mSm (x + 233) (jwI σ1 (x + 233) 0 0) σ2) (hv : v = w) : kRes G (c + 1) σ x ex (.inl (some (.int v)), σ1) (.inl (some (.int w)), σ2) := kLook hF h1.1 (fun a ha => h1.2 a (by omega)) (by rw [h1.2 _ (by omega)]) (h1.2 _ (by omega)) hm hv
theorem kc_row (hF : kF G c σ x) (v w : Int32) : kRes G (c + 1) σ x ["java/lang/IndexOutOfBoundsException", "java/lang/IllegalArgumentException"] (Ff_X6_row G x v w σ) (Ff_X7_row G (x + 233) v w (Ff_X6_row G x v w σ).2) := by
  have hR := hF.2.2.1
  have hI := hF.2.2.2.1
  have h24 := hI.1.2
  unfold Ff_X6_row
  by_cases c1 : v < 0 ∨ ¬ v < σ.1 (x + 1) 3
  · rw [if_pos c1]
    unfold Ff_X7_row
    rw [if_pos (show ¬ (¬ v < 0 ∧ ¬ (jwh σ 6).1 (x + 233 + 1) 0 - 1 < v) from (kro hI.1 v).mp (by rw [← hR.1.1]; exact c1))]
    exact kTh (i := 0) hF rfl rfl
  rw [if_neg c1]
  have n1 : ¬ ¬ (¬ v < 0 ∧ ¬ σ.1 (x + 233 + 1) 0 - 1 < v) := fun z => c1 (by rw [hR.1.1]; exact (kro hI.1 v).mpr z)
  by_cases c2 : w < 0 ∨ 10 < w
  · rw [if_pos c2]
    unfold Ff_X7_row
    rw [if_neg (show ¬ ¬ (¬ v < 0 ∧ ¬ (jwh σ 6).1 (x + 233 + 1) 0 - 1 < v) from n1), if_pos (fun z => c2.elim z.1 z.2)]
    exact kTh (i := 1) hF rfl rfl
  rw [if_neg c2]
  have n2 : ¬ ¬ (¬ w < 0 ∧ ¬ 10 < w) := fun z => z ⟨fun y => c2 (Or.inl y), fun y => c2 (Or.inr y)⟩
  obtain ⟨q, hq, rfl, hqc⟩ := kro_q hI.1 (v := v) (by rw [← hR.1.1]; exact c1)
  obtain ⟨w', hw, rfl⟩ := nI_of2 (M := 10) (n := 10) (by decide) (fun z => c2 (Or.inl z)) (ji_le.mpr fun z => c2 (Or.inr z))
  show kRes G (c + 1) σ x _ _ (Ff_X7_row G (x + 233) (nI q) (nI w') σ)
  unfold Ff_X7_row
  rw [if_neg n1, if_neg n2]
  refine kLk hF (jLs_r x σ) (mSm_r _ _) ?_
  rw [hqc, nI_clamp (n := w') (by omega)]
  exact krow hR hI hq (by omega)
theorem kc_reader (hF : kF G c σ x) (r w : Int32) : kRes G (c + 1) σ x ["java/lang/IndexOutOfBoundsException", "java/lang/IllegalArgumentException"] (Ff_X6_reader G x r w σ) (Ff_X7_reader G (x + 233) r w (Ff_X6_reader G x r w σ).2) := by
  have hR := hF.2.2.1
  have hI := hF.2.2.2.1
  have h24 := hI.1.2
  unfold Ff_X6_reader
  by_cases c1 : r < 0 ∨ ¬ r < 4
  · rw [if_pos c1]
    unfold Ff_X7_reader
    rw [if_pos ((kr4 r).mp c1)]
    exact kTh (i := 0) hF rfl rfl
  rw [if_neg c1]
  obtain ⟨p, hp, rfl, hpc⟩ := kr4_q c1
  have n1 : ¬ ¬ (¬ nI p < 0 ∧ ¬ 3 < nI p) := fun z => c1 ((kr4 (nI p)).mpr z)
  by_cases c2 : w < 0 ∨ 6 < w
  · rw [if_pos c2]
    unfold Ff_X7_reader
    rw [if_neg n1, if_pos (fun z => c2.elim z.1 z.2)]
    exact kTh (i := 1) hF rfl rfl
  rw [if_neg c2]
  have n2 : ¬ ¬ (¬ w < 0 ∧ ¬ 6 < w) := fun z => z ⟨fun y => c2 (Or.inl y), fun y => c2 (Or.inr y)⟩
  obtain ⟨w', hw, rfl⟩ := nI_of2 (M := 6) (n := 6) (by decide) (fun z => c2 (Or.inl z)) (ji_le.mpr fun z => c2 (Or.inr z))
  rw [hpc, nI_clamp (n := w') (by omega), jAl_F G hp]
  have hv := krd hR hI hp (w := w') (by omega)
  by_cases h6 : nI w' = 6
  · rw [if_pos h6]
    have hls := jLs_A σ x p 1
    have eS : (jAl σ x p 1).1 (x + 233 + 1) = σ.1 (x + 233 + 1) := hls.2 _ (by omega)
    show kRes G (c + 1) σ x _ _ (Ff_X7_reader G (x + 233) (nI p) (nI w') (jAl σ x p 1))
    generalize jAl σ x p 1 = τ at *
    have e9 : Ff_X7_reader G (x + 233) (nI p) (nI w') τ = (.inl (some (.int (mrdV (σ.1 (x + 233 + 1)) p w'))), mNX (jwI τ (x + 233) 0 0) (x + 233)) := by
      unfold Ff_X7_reader
      rw [if_neg n1, if_neg n2, if_pos h6, eS, hpc, nI_clamp (n := w') (by omega)]
    rw [e9]
    exact kLk hF hls (mNX_sm _ _) hv
  · rw [if_neg h6]
    show kRes G (c + 1) σ x _ _ (Ff_X7_reader G (x + 233) (nI p) (nI w') σ)
    have e9 : Ff_X7_reader G (x + 233) (nI p) (nI w') σ = (.inl (some (.int (mrdV (σ.1 (x + 233 + 1)) p w'))), jwI σ (x + 233) 0 0) := by
      unfold Ff_X7_reader
      rw [if_neg n1, if_neg n2, if_neg h6, hpc, nI_clamp (n := w') (by omega)]
    rw [e9]
    exact kLk hF (jLs_r x σ) (mSm_r _ _) hv
theorem kur (u : Int32) : ¬ (¬ u = -1 ∧ (u < 0 ∨ 9 < u)) ↔ ¬ u < -1 ∧ ¬ 9 < u := by
  have e : u = -1 ↔ u.toInt = -1 := by
    rw [← Int32.toInt_inj]
    have : (-1 : Int32).toInt = -1 := by decide
    rw [this]
  rw [e]
  simp only [Int32.lt_iff_toInt_lt]
  have h0 : (0 : Int32).toInt = 0 := by decide
  have h1 : (-1 : Int32).toInt = -1 := by decide
  have h9 : (9 : Int32).toInt = 9 := by decide
  omega
theorem kc_group (hF : kF G c σ x) (k u s : Int32) : kRes G (c + 1) σ x ["java/lang/IllegalArgumentException"] (Ff_X6_group G x k u s σ) (Ff_X7_group G (x + 233) k u s (Ff_X6_group G x k u s σ).2) := by
  have hR := hF.2.2.1
  unfold Ff_X6_group
  by_cases c1 : k < 0 ∨ 7 < k
  · rw [if_pos c1]
    unfold Ff_X7_group
    rw [if_neg (fun z => c1.elim z.1.1 z.1.2)]
    exact kTh (i := 0) hF rfl rfl
  rw [if_neg c1]
  by_cases c2 : s < 0 ∨ 3 < s
  · rw [if_pos c2]
    unfold Ff_X7_group
    rw [if_neg (fun z => c2.elim z.2.2.1 z.2.2.2)]
    exact kTh (i := 0) hF rfl rfl
  rw [if_neg c2]
  by_cases c3 : ¬ u = -1 ∧ (u < 0 ∨ 9 < u)
  · rw [if_pos c3]
    unfold Ff_X7_group
    rw [if_neg (fun z => (kur u).mpr z.2.1 c3)]
    exact kTh (i := 0) hF rfl rfl
  rw [if_neg c3]
  show kRes G (c + 1) σ x _ (.inl (some (.int (jgp σ (x + 1) k u s))), σ) (Ff_X7_group G (x + 233) k u s σ)
  unfold Ff_X7_group
  rw [if_pos ⟨⟨fun y => c1 (Or.inl y), fun y => c1 (Or.inr y)⟩, (kur u).mp c3, fun y => c2 (Or.inl y), fun y => c2 (Or.inr y)⟩]
  exact kLk hF (jLs_r x σ) (mSm_r _ _) (kgrp hR k u s)
theorem kc_count (hF : kF G c σ x) (w : Int32) : kRes G (c + 1) σ x ["java/lang/IllegalArgumentException"] (Ff_X6_count G x w σ) (Ff_X7_count G (x + 233) w (Ff_X6_count G x w σ).2) := by
  have hR := hF.2.2.1
  have hI := hF.2.2.2.1
  unfold Ff_X6_count
  by_cases c1 : w < 0 ∨ 12 < w
  · rw [if_pos c1]
    unfold Ff_X7_count
    rw [if_pos (fun z => c1.elim z.1 z.2)]
    exact kTh (i := 0) hF rfl rfl
  rw [if_neg c1]
  have n2 : ¬ ¬ (¬ w < 0 ∧ ¬ 12 < w) := fun z => z ⟨fun y => c1 (Or.inl y), fun y => c1 (Or.inr y)⟩
  obtain ⟨w', hw, rfl⟩ := nI_of2 (M := 12) (n := 12) (by decide) (fun z => c1 (Or.inl z)) (ji_le.mpr fun z => c1 (Or.inr z))
  show kRes G (c + 1) σ x _ _ (Ff_X7_count G (x + 233) (nI w') σ)
  unfold Ff_X7_count
  rw [if_neg n2, nI_clamp (n := w') (by omega)]
  exact kLk hF (jLs_r x σ) (mSm_r _ _) (kct hR hI hF.2.2.2.2.1.1 (by omega))
theorem kc_setting (hF : kF G c σ x) (s : Int32) : kRes G (c + 1) σ x ["java/lang/IndexOutOfBoundsException"] (Ff_X6_setting G x s σ) (Ff_X7_setting G (x + 233) s (Ff_X6_setting G x s σ).2) := by
  have hR := hF.2.2.1
  unfold Ff_X6_setting
  by_cases c1 : s < 0 ∨ ¬ s < 4
  · rw [if_pos c1]
    unfold Ff_X7_setting
    rw [if_pos ((kr4 s).mp c1)]
    exact kTh (i := 0) hF rfl rfl
  rw [if_neg c1]
  obtain ⟨p, hp, rfl, hpc⟩ := kr4_q c1
  have n1 : ¬ ¬ (¬ nI p < 0 ∧ ¬ 3 < nI p) := fun z => c1 ((kr4 (nI p)).mpr z)
  rw [hpc]
  show kRes G (c + 1) σ x _ _ (Ff_X7_setting G (x + 233) (nI p) σ)
  unfold Ff_X7_setting
  rw [if_neg n1, hpc]
  exact kLk hF (jLs_r x σ) (mSm_r _ _) (hR.2.1 p hp)
theorem kc_ifTaken (hF : kF G c σ x) (r m w : Int32) : kRes G (c + 1) σ x ["java/lang/IndexOutOfBoundsException", "java/lang/IllegalArgumentException"] (Ff_X6_ifTaken G x r m w σ) (Ff_X7_ifTaken G (x + 233) r m w (Ff_X6_ifTaken G x r m w σ).2) := by
  have hR := hF.2.2.1
  have hI := hF.2.2.2.1
  have h24 := hI.1.2
  unfold Ff_X6_ifTaken
  by_cases c1 : r < 0 ∨ ¬ r < 4
  · rw [if_pos c1]
    unfold Ff_X7_ifTaken
    rw [if_pos ((kr4 r).mp c1)]
    exact kTh (i := 0) hF rfl rfl
  rw [if_neg c1]
  obtain ⟨p, hp, rfl, hpc⟩ := kr4_q c1
  have n1 : ¬ ¬ (¬ nI p < 0 ∧ ¬ 3 < nI p) := fun z => c1 ((kr4 (nI p)).mpr z)
  by_cases c2 : m < 1 ∨ 24 < m
  · rw [if_pos c2]
    unfold Ff_X7_ifTaken
    rw [if_neg n1, if_neg (fun z => c2.elim z.1.1 z.1.2)]
    exact kTh (i := 1) hF rfl rfl
  rw [if_neg c2]
  by_cases c3 : w < 0 ∨ 2 < w
  · rw [if_pos c3]
    unfold Ff_X7_ifTaken
    rw [if_neg n1, if_neg (fun z => c3.elim z.2.1 z.2.2)]
    exact kTh (i := 1) hF rfl rfl
  rw [if_neg c3]
  have n2 : (¬ m < 1 ∧ ¬ 24 < m) ∧ (¬ w < 0 ∧ ¬ 2 < w) := ⟨⟨fun y => c2 (Or.inl y), fun y => c2 (Or.inr y)⟩, fun y => c3 (Or.inl y), fun y => c3 (Or.inr y)⟩
  obtain ⟨w', hw, rfl⟩ := nI_of2 (M := 2) (n := 2) (by decide) (fun z => c3 (Or.inl z)) (ji_le.mpr fun z => c3 (Or.inr z))
  rw [jAl_F G hp, nI_clamp (n := w') (by omega)]
  have hls := jLs_A σ x p m
  have hv := kAl hR hI hp (w := w') (by omega) m
  have eS : (jAl σ x p m).1 (x + 233 + 1) = σ.1 (x + 233 + 1) := hls.2 _ (by omega)
  show kRes G (c + 1) σ x _ (.inl (some (.int ((jAl σ x p m).1 (x + 232) (if w' = 0 then 1 else if w' = 1 then 0 else 3)))), jAl σ x p m) (Ff_X7_ifTaken G (x + 233) (nI p) m (nI w') (jAl σ x p m))
  generalize jAl σ x p m = τ at *
  have e9 : Ff_X7_ifTaken G (x + 233) (nI p) m (nI w') τ = (.inl (some (.int (mTV (σ.1 (x + 233 + 1)) p (mroom (σ.1 (x + 233 + 1)) (nI p) m) (nI w')))), mTI (jwI τ (x + 233) 0 0) (x + 233) p (mroom (σ.1 (x + 233 + 1)) (nI p) m)) := by
    unfold Ff_X7_ifTaken
    rw [if_neg n1, if_pos n2, eS, hpc]
  rw [e9]
  exact kLk hF hls (mTI_sm (by rw [mth_S, eS]; exact h24)) hv
theorem kc_ifPassed (hF : kF G c σ x) (u w : Int32) : kRes G (c + 1) σ x ["java/lang/IllegalArgumentException"] (Ff_X6_ifPassed G x u w σ) (Ff_X7_ifPassed G (x + 233) u w (Ff_X6_ifPassed G x u w σ).2) := by
  have hR := hF.2.2.1
  have hI := hF.2.2.2.1
  have h24 := hI.1.2
  unfold Ff_X6_ifPassed
  by_cases c1 : u < 0 ∨ 200 < u
  · rw [if_pos c1]
    unfold Ff_X7_ifPassed
    rw [if_neg (fun z => c1.elim z.1.1 z.1.2)]
    exact kTh (i := 0) hF rfl rfl
  rw [if_neg c1]
  by_cases c2 : w < 0 ∨ 1 < w
  · rw [if_pos c2]
    unfold Ff_X7_ifPassed
    rw [if_neg (fun z => c2.elim z.2.1 z.2.2)]
    exact kTh (i := 0) hF rfl rfl
  rw [if_neg c2]
  have n2 : (¬ u < 0 ∧ ¬ 200 < u) ∧ (¬ w < 0 ∧ ¬ 1 < w) := ⟨⟨fun y => c1 (Or.inl y), fun y => c1 (Or.inr y)⟩, fun y => c2 (Or.inl y), fun y => c2 (Or.inr y)⟩
  obtain ⟨j, hj, rfl⟩ := nI_of2 (M := 200) (n := 200) (by decide) n2.1.1 (ji_le.mpr n2.1.2)
  have hjc : (nI j).toNatClampNeg = j := nI_clamp (by omega)
  have eV : (if w = 0 then Ff_X5_holdsEndedBy G (x + 1) (σ.1 (x + 1) 4 + nI j) σ else Ff_X5_deadBy G (x + 1) (σ.1 (x + 1) 4 + nI j) σ) = (.inl (some (.int (jipV σ (x + 1) (nI j) w))), σ) := by
    unfold jipV
    by_cases z : w = 0
    · rw [if_pos z, if_pos z]; rfl
    · rw [if_neg z, if_neg z]; rfl
  rw [eV]
  show kRes G (c + 1) σ x _ _ (Ff_X7_ifPassed G (x + 233) (nI j) w σ)
  have e9 : Ff_X7_ifPassed G (x + 233) (nI j) w σ = (.inl (some (.int (mPV (σ.1 (x + 233 + 1)) j w))), mPI (jwI σ (x + 233) 0 0) (x + 233) j) := by
    unfold Ff_X7_ifPassed
    rw [if_pos n2, hjc]
  rw [e9]
  exact kLk hF (jLs_r x σ) (mPI_sm (by rw [mth_S]; exact hI.1) (by rw [mth_S]; exact kI_ho hI)) (kip hR hI (by omega) w)
theorem kc_freest (hF : kF G c σ x) : kRes G (c + 1) σ x [] (Ff_X6_freest G x σ) (Ff_X7_freest G (x + 233) (Ff_X6_freest G x σ).2) := by
  have hR := hF.2.2.1
  have hI := hF.2.2.2.1
  have h24 := hI.1.2
  have hls := jfG_ls σ x 4
  have hv := (kfG hR hI 4 (Nat.le_refl _)).1
  have eS : (jfG σ x 4).2.2.1 (x + 233 + 1) = σ.1 (x + 233 + 1) := hls.2 _ (by omega)
  show kRes G (c + 1) σ x _ (.inl (some (.int (jfG σ x 4).1)), (jfG σ x 4).2.2) (Ff_X7_freest G (x + 233) (jfG σ x 4).2.2)
  generalize (jfG σ x 4).2.2 = τ at *
  have e9 : Ff_X7_freest G (x + 233) τ = (.inl (some (.int (mfb (σ.1 (x + 233 + 1)) 4).1)), mfs (jwI τ (x + 233) 0 0) (x + 233) 4) := by
    unfold Ff_X7_freest
    rw [eS]
  rw [e9]
  exact kLk hF hls (mfs_sm (by rw [mth_S, eS]; exact h24) 4) hv
/-- a call that answers with a double or a long -/
def kRe (G : jgG) (d : Nat) (σ : jgS) (x : Nat) (v : Value) (r1 r2 : jgR) : Prop := r1.1 = .inl (some v) ∧ r2.1 = .inl (some v) ∧ kFr σ r1.2 x ∧ r2.2.2 = r1.2.2 ∧ kF G d r2.2 x
theorem kc_fairness (hF : kF G c σ x) : kRe G (c + 1) σ x (.double (jfr σ (x + 1))) (Ff_X6_fairness G x σ) (Ff_X7_fairness G (x + 233) (Ff_X6_fairness G x σ).2) := by
  have hR := hF.2.2.1
  have h := (kLk (ex := []) (v := 0) (w := 0) hF (jLs_r x σ) (mSm_r _ _) rfl).2
  have e1 : Ff_X6_fairness G x σ = (.inl (some (.double (jfr σ (x + 1)))), σ) := rfl
  rw [e1]
  show kRe G (c + 1) σ x _ _ (Ff_X7_fairness G (x + 233) σ)
  have e9 : Ff_X7_fairness G (x + 233) σ = (.inl (some (.double (jfr σ (x + 1)))), jwI σ (x + 233) 0 0) := by
    unfold Ff_X7_fairness jfr
    rw [kgs hR]
  rw [e9]
  exact ⟨rfl, rfl, h⟩
theorem kc_digest (hF : kF G c σ x) (hc : c ≤ 512) : ∃ v, kRe G (c + 1) σ x (.long v) (Ff_X6_digest G x σ) (Ff_X7_digest G (x + 233) (Ff_X6_digest G x σ).2) := by
  have hR := hF.2.2.1
  have hI := hF.2.2.2.1
  have h24 := hI.1.2
  have e6 := hF.2.2.2.2.2.1
  have e7 := hF.2.2.2.2.2.2
  obtain ⟨l, hl61, hl⟩ := vp_in_of hF.1.2.2.2.1.2.2.2 (by decide)
  have hlm : σ.1 (x + 233) 6 = nI l := e6.symm.trans hl
  have hlc : (nI l).toNatClampNeg = l := nI_clamp (by omega)
  have hB : jBn σ (x + 227) = l := by unfold jBn; rw [hl]; exact hlc
  have hls : jLs x σ (jd4 (jd2 σ x) x).2 := jLs_t (jd2_ls σ x) (jd4_ls (jd2 σ x) x)
  have hv := kdig (z := σ.1 (x + 33) 2) (L := σ.1 (x + 227) 1) (B := σ.1 (x + 227 + 1)) hc hR hI rfl rfl hl hl61 (fun i _ => rfl)
  have e1 : Ff_X6_digest G x σ = (.inl (some (.long (jd5 (jd4 (jd2 σ x) x) x))), (jd4 (jd2 σ x) x).2) := rfl
  rw [e1, hv]
  have m1 : (jd4 (jd2 σ x) x).2.1 (x + 233 + 1) = σ.1 (x + 233 + 1) := hls.2 _ (by omega)
  have m4 : (jd4 (jd2 σ x) x).2.1 (x + 233) 4 = σ.1 (x + 33) 2 := by rw [hls.2 _ (by omega)]; exact hF.2.2.2.2.1.1.symm
  have m6 : (jd4 (jd2 σ x) x).2.1 (x + 233) 6 = σ.1 (x + 227) 1 := by rw [hls.2 _ (by omega)]; exact e6.symm
  have mb : (jd4 (jd2 σ x) x).2.1 (x + 233 + 4) = σ.1 (x + 227 + 1) := by rw [hls.2 _ (by omega)]; exact e7.symm
  generalize (jd4 (jd2 σ x) x).2 = τ at *
  refine ⟨mdig (σ.1 (x + 233 + 1)) (σ.1 (x + 33) 2) (σ.1 (x + 227) 1) (σ.1 (x + 227 + 1)), ?_⟩
  have e9 : Ff_X7_digest G (x + 233) τ = (.inl (some (.long (mdig (σ.1 (x + 233 + 1)) (σ.1 (x + 33) 2) (σ.1 (x + 227) 1) (σ.1 (x + 227 + 1))))), mdE τ (x + 233)) := by
    unfold Ff_X7_digest
    rw [m1, m4, m6, mb]
  show kRe G (c + 1) σ x _ _ (Ff_X7_digest G (x + 233) τ)
  rw [e9]
  have t0 : (jwI τ (x + 233) 0 0).1 (x + 233 + 1) = σ.1 (x + 233 + 1) := by rw [mth_S, m1]
  have s1 := mdS_sm (σ := jwI τ (x + 233) 0 0) (m := x + 233) (by rw [t0]; exact h24) 4
  have s2 := mSm_t s1 (mPI_sm (u := 10) (by rw [mSm_S s1, t0]; exact hI.1) (by rw [mSm_S s1, t0]; exact kI_ho hI))
  have s3 := mSm_t s2 (mPI_sm (u := 10) (by rw [mSm_S s2, t0]; exact hI.1) (by rw [mSm_S s2, t0]; exact kI_ho hI))
  have s4 := mSm_t s3 (mfs_sm (by rw [mSm_S s3, t0]; exact h24) 4)
  have h := (kLk (ex := []) (v := 0) (w := 0) (σ2 := mdE τ (x + 233)) hF hls s4 rfl).2
  exact ⟨rfl, rfl, h⟩
theorem pp_digest (hF : kF G c σ x) (hc : c ≤ 512) : Pp_X6_digest G x σ := ⟨hF.1, fun τ hls => by
  have hR' := kLs (S := σ.1 (x + 233 + 1)) hls hF.2.2.2.1.1.2 hF.2.2.1
  obtain ⟨h1, h2, _⟩ := kfair hc hR' hF.2.2.2.1
  exact ⟨h1, h2⟩⟩
theorem pp_digest7 {σ1 : jgS} (hF : kF G c σ x) (hr : kFr σ σ1 x) (hc : c ≤ 512) : Pp_X7_digest G (x + 233) σ1 := by
  obtain ⟨h1, h2, h3, h4, h5, h6⟩ := jMO_cg hr (kMO hF)
  refine ⟨h1, h2, h3, h4, h6, ?_⟩
  rw [hr.2 (x + 233 + 1) (by omega)]
  exact (kfair hc hF.2.2.1 hF.2.2.2.1).2.2.2
theorem pp_fairness (hF : kF G c σ x) (hc : c ≤ 512) : Pp_X6_fairness G x σ := ⟨hF.1, (kfair hc hF.2.2.1 hF.2.2.2.1).1⟩
theorem pp_fairness7 {σ1 : jgS} (hF : kF G c σ x) (hr : kFr σ σ1 x) (hc : c ≤ 512) : Pp_X7_fairness G (x + 233) σ1 := by
  obtain ⟨h1, h2, h3, h4, h5, h6⟩ := jMO_cg hr (kMO hF)
  have h := (kfair hc hF.2.2.1 hF.2.2.2.1).1
  unfold jFair jfr at h
  rw [kgs hF.2.2.1] at h
  refine ⟨h1, h2, ?_⟩
  rw [hr.2 (x + 233 + 1) (by omega)]
  exact h
theorem pp_freest7 {σ1 : jgS} (hF : kF G c σ x) (hr : kFr σ σ1 x) : Pp_X7_freest G (x + 233) σ1 := by
  obtain ⟨h1, h2, h3, h4, h5, h6⟩ := jMO_cg hr (kMO hF)
  exact ⟨h1, h2, h3⟩
end KC6
