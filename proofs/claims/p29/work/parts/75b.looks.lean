/-! what the class's looks answer, in the numbers -/
/-- the freest: best and most when i readers are looked at -/
def mfb (S : Nat → Int32) (i : Nat) : Int32 × Int32 := jfd (fun r s => if s.2 < mTV S r (mroom S (nI r) 24) 0 then (nI r, mTV S r (mroom S (nI r) 24) 0) else s) i (-1, 0)
theorem mfb_s (S : Nat → Int32) (i : Nat) : mfb S (i + 1) = if (mfb S i).2 < mTV S i (mroom S (nI i) 24) 0 then (nI i, mTV S i (mroom S (nI i) 24) 0) else mfb S i := rfl
/-- a look -/
def mLst (S : Nat → Int32) (r : Nat) (M : Int32) (k : Nat) (s : jLS) : jLS := if s.2.1 < M then jLm s (nI (mord S k)) (mCan S r (mord S k)) else s
def mLG (S : Nat → Int32) (r : Nat) (M : Int32) (k : Nat) : jLS := jfd (mLst S r M) k jL0
theorem mLG_s (S : Nat → Int32) (r : Nat) (M : Int32) (k : Nat) : mLG S r M (k + 1) = mLst S r M k (mLG S r M k) := rfl
def mLk (S : Nat → Int32) (r : Nat) (m : Int32) : jLS := mLG S r (mroom S (nI r) m) (mTot S)
theorem jwL_jwL (σ : jgS) (L : Nat) (s t : jLS) : jwL (jwL σ L s) L t = jwL σ L t := by
  refine Prod.ext (funext fun a => funext fun k => ?_) rfl
  show (if _ then _ else if _ then _ else _) = (if _ then _ else _)
  by_cases c : a = L ∧ k < 5
  · rw [if_pos c, if_pos c]
  · rw [if_neg c, if_neg c, if_neg c]
section NL
variable {G : jgG} {c x : Nat} {σ : jgS} {S : Nat → Int32}
theorem mLG_j (hR : kR σ (x + 1) S) (hI : kI c S) {r : Nat} (hr : r < 4) {M : Int32} : ∀ k, k ≤ mTot S → jLG σ (x + 1) r M k = mLG S r M k := by
  intro k
  induction k with
  | zero => exact fun _ => Eq.trans (show jLG σ (x + 1) r M 0 = jL0 from rfl) (show jL0 = mLG S r M 0 from rfl)
  | succ k ih =>
    intro hk
    have ih := ih (by omega)
    obtain ⟨g1, _, _⟩ := mord_k (S := S) (k := k) (by omega)
    rw [jLG_s, mLG_s, ih]
    unfold jLst mLst
    rw [kord hR hI, kcan hR hI hr g1]
theorem mLk_j (hF : nF G c σ x S) {r : Nat} (hr : r < 4) (m : Int32) : jAl σ x r m = jwL σ (x + 232) (mLk S r m) := by
  have hR := hF.2.1
  have hI := hF.2.2
  have h24 := hI.1.2
  unfold jAl mLk
  rw [kopc hR hI, kroom hR, mLG_j hR hI hr _ (Nat.le_refl _)]
theorem mLk_T (hF : nF G c σ x S) {r : Nat} (hr : r < 4) (m : Int32) : (mLk S r m).2.1 = (mTG S r (mroom S (nI r) m) (mTot S)).2.1 ∧ (mLk S r m).1 = (mTG S r (mroom S (nI r) m) (mTot S)).2.2.1 ∧ (mLk S r m).2.2.2.1 = (mTG S r (mroom S (nI r) m) (mTot S)).2.2.2 := by
  have hR := hF.2.1
  have hI := hF.2.2
  have h24 := hI.1.2
  have h := (klk hR hI hr m).1
  rw [kopc hR hI, kroom hR, mLG_j hR hI hr _ (Nat.le_refl _)] at h
  exact h
theorem kLs {τ : jgS} (hls : jLs x σ τ) (hn : mN S ≤ 24) (hR : kR σ (x + 1) S) : kR τ (x + 1) S := kR_cg (fun a h1 h2 => hls.2 a (by omega)) hn hR
theorem kAl (hR : kR σ (x + 1) S) (hI : kI c S) {r w : Nat} (hr : r < 4) (hw : w < 3) (m : Int32) : (jAl σ x r m).1 (x + 232) (if w = 0 then 1 else if w = 1 then 0 else 3) = mTV S r (mroom S (nI r) m) (nI w) := by
  obtain ⟨⟨a1, a2, a3⟩, _⟩ := klk hR hI hr m
  unfold jAl mTV
  rcases (show w = 0 ∨ w = 1 ∨ w = 2 by omega) with rfl | rfl | rfl
  · exact (jwL_1 _ _ _).trans a1
  · rw [if_neg (by decide), if_pos rfl, if_neg (by decide), if_pos (show nI 1 = 1 from rfl)]
    exact ((if_pos ⟨rfl, by decide⟩).trans (if_pos rfl)).trans a2
  · rw [if_neg (by decide), if_neg (by decide), if_neg (by decide), if_neg (by decide)]
    exact ((if_pos ⟨rfl, by decide⟩).trans ((if_neg (by decide)).trans ((if_neg (by decide)).trans ((if_neg (by decide)).trans (if_pos rfl))))).trans a3
theorem kfG (hR : kR σ (x + 1) S) (hI : kI c S) : ∀ i, i ≤ 4 → (jfG σ x i).1 = (mfb S i).1 ∧ (jfG σ x i).2.1 = (mfb S i).2
  | 0, _ => ⟨rfl, rfl⟩
  | i + 1, hi => by
    obtain ⟨e1, e2⟩ := kfG hR hI i (by omega)
    have hls := jfG_ls σ x i
    have hR' := kLs (S := S) hls hI.1.2 hR
    have e3 := kAl hR' hI (r := i) (w := 0) (by omega) (by omega) 24
    rw [if_pos rfl] at e3
    have e3 : (jAl (jfG σ x i).2.2 x i 24).1 (x + 232) 1 = mTV S i (mroom S (nI i) 24) 0 := e3
    rw [jfG_s, mfb_s]
    unfold jfT
    rw [e3, e2]
    by_cases z : (mfb S i).2 < mTV S i (mroom S (nI i) 24) 0
    · rw [if_pos z, if_pos z]
      exact ⟨rfl, rfl⟩
    · rw [if_neg z, if_neg z]
      exact ⟨e1, rfl⟩
theorem jfG_st (hF : nF G c σ x S) : ∀ i, i < 4 → (jfG σ x (i + 1)).2.2 = jwL σ (x + 232) (mLk S i 24)
  | 0, _ => by
    rw [jfG_s]
    have e := mLk_j hF (r := 0) (by decide) 24
    unfold jfT
    rw [show (jfG σ x 0).2.2 = σ from rfl]
    split
    · exact e
    · exact e
  | i + 1, hi => by
    have ih := jfG_st hF i (by omega)
    have hF' := nF_ls hF (jfG_ls σ x (i + 1))
    have e := mLk_j hF' (r := i + 1) hi 24
    rw [jfG_s]
    unfold jfT
    rw [ih] at e
    split
    · dsimp only
      rw [ih, e, jwL_jwL]
    · dsimp only
      rw [ih, e, jwL_jwL]
theorem nl_row (hF : nF G c σ x S) {q w : Nat} (hq : q < mN S) (hw : w < 11) : Ff_X6_row G x (nI q) (nI w) σ = (.inl (some (.int (mrowV S q w))), σ) := by
  have hR := hF.2.1
  have hI := hF.2.2
  have h24 := hI.1.2
  have c1 : ¬ (nI q < 0 ∨ ¬ nI q < σ.1 (x + 1) 3) := by rw [hR.1.1, hI.1.1]; exact nix hq (by omega)
  have c2 : ¬ (nI w < 0 ∨ 10 < nI w) := nrng (m := 10) (vp_in_nI hw (by decide)) (by decide)
  unfold Ff_X6_row
  rw [if_neg c1, if_neg c2, nI_clamp (by omega), nI_clamp (by omega), krow hR hI hq hw]
theorem nl_reader (hF : nF G c σ x S) {r w : Nat} (hr : r < 4) (hw : w < 6) : Ff_X6_reader G x (nI r) (nI w) σ = (.inl (some (.int (mrdV S r w))), σ) := by
  have hR := hF.2.1
  have hI := hF.2.2
  have h24 := hI.1.2
  have c1 : ¬ (nI r < 0 ∨ ¬ nI r < 4) := nix (n := 4) hr (by decide)
  have c2 : ¬ (nI w < 0 ∨ 6 < nI w) := nrng (m := 6) (vp_in_nI (by omega) (by decide)) (by decide)
  have c3 : ¬ nI w = 6 := fun z => by have := nI_inj (b := 6) (by omega) (by decide) z; omega
  unfold Ff_X6_reader
  rw [if_neg c1, if_neg c2, if_neg c3, nI_clamp (by omega), nI_clamp (by omega), krd hR hI hr (by omega)]
theorem nl_reader6 (hF : nF G c σ x S) {r : Nat} (hr : r < 4) : Ff_X6_reader G x (nI r) 6 σ = (.inl (some (.int (mLk S r 1).2.2.2.2)), jwL σ (x + 232) (mLk S r 1)) := by
  have hR := hF.2.1
  have hI := hF.2.2
  have h24 := hI.1.2
  have c1 : ¬ (nI r < 0 ∨ ¬ nI r < 4) := nix (n := 4) hr (by decide)
  have c2 : ¬ ((6 : Int32) < 0 ∨ (6 : Int32) < 6) := by decide
  have e := mLk_j hF hr 1
  have e2 : (Ff_X2_along G (x + 232) (x + 1) (nI r) 1 σ).2 = jAl σ x r 1 := by rw [jAl_F G hr]
  unfold Ff_X6_reader
  rw [if_neg c1, if_neg c2, if_pos rfl, e2, e, nI_clamp (by omega), show (6 : Int32).toNatClampNeg = 6 from by decide]
  have e3 : jrdV σ (x + 1) r 6 = (jLG σ (x + 1) r (jroom σ (x + 1) (nI r) 1) (jct (fun j => σ.1 (x + 1 + 4 + j) 4 = 0 ∨ σ.1 (x + 1 + 4 + j) 4 = 1) (jn σ (x + 1)))).2.2.2.2 := rfl
  rw [e3, kopc hR hI, kroom hR, mLG_j hR hI hr _ (Nat.le_refl _)]
  rfl
theorem nl_ifTaken (hF : nF G c σ x S) {r w : Nat} (hr : r < 4) (hw : w < 3) : Ff_X6_ifTaken G x (nI r) 24 (nI w) σ = (.inl (some (.int (mTV S r (mroom S (nI r) 24) (nI w)))), jwL σ (x + 232) (mLk S r 24)) := by
  have hR := hF.2.1
  have hI := hF.2.2
  have h24 := hI.1.2
  have c1 : ¬ (nI r < 0 ∨ ¬ nI r < 4) := nix (n := 4) hr (by decide)
  have c2 : ¬ (nI w < 0 ∨ 2 < nI w) := nrng (m := 2) (vp_in_nI hw (by decide)) (by decide)
  have c3 : ¬ ((24 : Int32) < 1 ∨ (24 : Int32) < 24) := by decide
  have e2 : (Ff_X2_along G (x + 232) (x + 1) (nI r) 24 σ).2 = jAl σ x r 24 := by rw [jAl_F G hr]
  unfold Ff_X6_ifTaken
  rw [if_neg c1, if_neg c3, if_neg c2, e2, nI_clamp (by omega), kAl hR hI hr hw, mLk_j hF hr]
theorem nl_ifPassed (hF : nF G c σ x S) {w : Nat} (hw : w < 2) : Ff_X6_ifPassed G x 7 (nI w) σ = (.inl (some (.int (mPV S 7 (nI w)))), σ) := by
  have hR := hF.2.1
  have hI := hF.2.2
  have h24 := hI.1.2
  have c1 : ¬ ((7 : Int32) < 0 ∨ (200 : Int32) < 7) := by decide
  have c2 : ¬ (nI w < 0 ∨ 1 < nI w) := nrng (m := 1) (vp_in_nI hw (by decide)) (by decide)
  have e := kip hR hI (u := 7) (by omega) (nI w)
  rw [← e]
  unfold Ff_X6_ifPassed jipV
  rw [if_neg c1, if_neg c2]
  by_cases z : nI w = 0
  · rw [if_pos z, if_pos z]
    rfl
  · rw [if_neg z, if_neg z]
    rfl
theorem nl_freest (hF : nF G c σ x S) : Ff_X6_freest G x σ = (.inl (some (.int (mfb S 4).1)), jwL σ (x + 232) (mLk S 3 24)) := by
  have hR := hF.2.1
  have hI := hF.2.2
  have h24 := hI.1.2
  unfold Ff_X6_freest
  rw [(kfG hR hI 4 (Nat.le_refl _)).1, jfG_st hF 3 (by decide)]
/-- a count, in the numbers -/
def lctV (S : Nat → Int32) (w : Nat) : Int32 := match w with
  | 0 => S 3
  | 1 => S 0
  | 2 => nI (jct (fun i => S (25 + 9 * i + 3) = 0) (mN S))
  | 3 => nI (jct (fun i => S (25 + 9 * i + 3) = 1) (mN S))
  | 4 => nI (jct (fun i => S (25 + 9 * i + 3) = 2) (mN S))
  | 5 => nI (jct (fun i => S (25 + 9 * i + 3) = 3) (mN S))
  | 6 => S 1
  | 7 => S 2
  | 8 => nI (jct (fun i => S (25 + 9 * i + 3) = 0 ∧ ¬ mBlk S i = 0) (mN S))
  | 9 => S 4
  | _ => jfi (jfs (fun i => S (25 + 9 * i + 3) = 0) (mN S))
theorem nl_count (hF : nF G c σ x S) {w : Nat} (hw : w < 10 ∨ w = 11) : Ff_X6_count G x (nI w) σ = (.inl (some (.int (lctV S w))), σ) := by
  have hR := hF.2.1
  have hI := hF.2.2
  have h24 := hI.1.2
  have c2 : ¬ (nI w < 0 ∨ 12 < nI w) := nrng (m := 12) (vp_in_nI (by omega) (by decide)) (by decide)
  unfold Ff_X6_count
  rw [if_neg c2, nI_clamp (by omega)]
  refine congrArg (fun z => ((.inl (some (.int z)), σ) : jgR)) ?_
  rcases (show w = 0 ∨ w = 1 ∨ w = 2 ∨ w = 3 ∨ w = 4 ∨ w = 5 ∨ w = 6 ∨ w = 7 ∨ w = 8 ∨ w = 9 ∨ w = 11 by omega) with rfl | rfl | rfl | rfl | rfl | rfl | rfl | rfl | rfl | rfl | rfl
  · exact hR.1.2.1
  · exact hR.1.1
  · exact congrArg nI (kst hR 0)
  · exact congrArg nI (kst hR 1)
  · exact congrArg nI (kst hR 2)
  · exact congrArg nI (kst hR 3)
  · exact hR.1.2.2.1
  · exact hR.1.2.2.2.1
  · exact congrArg nI (kbw hR hI)
  · exact hR.1.2.2.2.2
  · show jfi (jfs (fun i => σ.1 (x + 1 + 4 + i) 4 = 0) (jn σ (x + 1))) = jfi (jfs (fun i => S (25 + 9 * i + 3) = 0) (mN S))
    rw [kn hR, jfs_cg (q := fun i => S (25 + 9 * i + 3) = 0) (fun i hi => by rw [kf4 hR hi])]
theorem nl_setting (hF : nF G c σ x S) {s : Nat} (hs : s < 4) : Ff_X6_setting G x (nI s) σ = (.inl (some (.int (S (5 + s)))), σ) := by
  have hR := hF.2.1
  have hI := hF.2.2
  have h24 := hI.1.2
  have c1 : ¬ (nI s < 0 ∨ ¬ nI s < 4) := nix (n := 4) hs (by decide)
  unfold Ff_X6_setting
  rw [if_neg c1, nI_clamp (by omega), hR.2.1 s hs]
theorem nl_fair (hF : nF G c σ x S) (hc : c < 64) : ∃ k, k < 64 ∧ mgS S = nI k ∧ Pp_X6_fairness G x σ ∧ Ff_X6_fairness G x σ = (.inl (some (.double (kd2 k))), σ) := by
  have hR := hF.2.1
  have hI := hF.2.2
  have h24 := hI.1.2
  obtain ⟨k, hk, ek⟩ := kI_gs (by omega) hI
  obtain ⟨b1, b2, _⟩ := kbit (k := k) (by omega)
  have e : jgk σ (x + 1) = nI k := (kgs hR).trans ek
  unfold jgk at e
  refine ⟨k, by omega, ek, ⟨hF.1, ?_, ?_⟩, ?_⟩
  · rw [e]; exact b1
  · rw [e]; exact b2
  · unfold Ff_X6_fairness
    rw [e]
    rfl
end NL
/-! numbers that agree as far as seven rows reach -/
section N8
variable {G : jgG} {c x h : Nat} {σ : jgS} {S S' : Nat → Int32}
theorem n8_N (e : ∀ k, k < 88 → S' k = S k) : mN S' = mN S := by unfold mN; rw [e 0 (by decide)]
theorem n8_R (e : ∀ k, k < 88 → S' k = S k) (h7 : mN S ≤ 7) (hR : kR σ h S) : kR σ h S' := by
  obtain ⟨h1, h2, h3, h4⟩ := hR
  refine ⟨by rw [e 0 (by decide), e 1 (by decide), e 2 (by decide), e 3 (by decide), e 4 (by decide)]; exact h1, fun k hk => (h2 k hk).trans (e _ (by omega)).symm, fun r hr p hp => (h3 r hr p hp).trans (e _ (by omega)).symm, fun i hi => ?_⟩
  rw [n8_N e] at hi
  exact kRw_g (g := fun p => S (25 + 9 * i + p)) (fun p hp => e _ (by omega)) (h4 i hi)
theorem n8_I (e : ∀ k, k < 88 → S' k = S k) (h7 : mN S ≤ 7) (hI : kI c S) : kI c S' := by
  obtain ⟨hO, P, T, D, h1, h2, h3, h4, h5, h6, hr, hq, h8⟩ := hI
  have hn := n8_N e
  have ek : ∀ i, i < mN S → kmk S' i = kmk S i := fun i hi => by unfold kmk; rw [e _ (by omega)]
  refine ⟨⟨by rw [hn, e 0 (by decide)]; exact hO.1, by rw [hn]; exact hO.2⟩, P, T, D, by rw [e 1 (by decide)]; exact h1, h2, by rw [e 3 (by decide)]; exact h3, h4, by rw [e 5 (by decide)]; exact h5, by rw [e 8 (by decide)]; exact h6, fun i hi => ?_, fun i hi => ?_, fun i j hij hj => ?_⟩
  · rw [hn] at hi
    exact kRo_g (g := fun p => S (25 + 9 * i + p)) (fun p hp => e _ (by omega)) (hr i hi)
  · rw [hn] at hi
    rw [ek i hi, e _ (by omega)]
    exact hq i hi
  · rw [hn] at hj
    rw [ek i (by omega), ek j hj]
    exact h8 i j hij hj
theorem n8_O (e : ∀ k, k < 88 → S' k = S k) (hO : lOr S) : lOr S' := by
  obtain ⟨h1, h2, h3, h4⟩ := hO
  have hn := n8_N e
  have h7 := h1.2
  have ek : ∀ i, i < mN S → kmk S' i = kmk S i := fun i hi => by unfold kmk; rw [e _ (by omega)]
  refine ⟨⟨by rw [hn, e 0 (by decide)]; exact h1.1, by rw [hn]; exact h7⟩, fun j hj => ?_, fun j hj => ?_, fun i j hij hj => ?_⟩
  · rw [hn] at hj
    rw [e _ (by omega)]
    exact h2 j hj
  · rw [hn] at hj
    rw [e _ (by omega), ek j hj]
    exact h3 j hj
  · rw [hn] at hj
    rw [ek i (by omega), ek j hj]
    exact h4 i j hij hj
theorem n8_F (e : ∀ k, k < 88 → S' k = S k) (h7 : mN S ≤ 7) (hF : nF G c σ x S) : nF G c σ x S' := ⟨hF.1, n8_R e h7 hF.2.1, n8_I e h7 hF.2.2⟩
theorem lmix_e (S T : Nat → Int32) : ∀ k, k < 88 → lmix S T k = S k := fun k hk => if_pos hk
end N8
