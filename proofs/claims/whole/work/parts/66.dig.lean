/-! the digest's value, both ways -/
section KX
variable {σ : jgS} {x c : Nat} {S : Nat → Int32}
theorem kLs {τ : jgS} (hls : jLs x σ τ) (hn : mN S ≤ 24) (hR : kR σ (x + 1) S) : kR τ (x + 1) S := kR_cg (fun a h1 h2 => hls.2 a (by omega)) hn hR
theorem kAl (hR : kR σ (x + 1) S) (hI : kI c S) {r w : Nat} (hr : r < 4) (hw : w < 3) (m : Int32) : (jAl σ x r m).1 (x + 232) (if w = 0 then 1 else if w = 1 then 0 else 3) = mTV S r (mroom S (nI r) m) (nI w) := by
  obtain ⟨⟨a1, a2, a3⟩, _⟩ := klk hR hI hr m
  unfold jAl mTV
  rcases (show w = 0 ∨ w = 1 ∨ w = 2 by omega) with rfl | rfl | rfl
  · exact (jwL_1 _ _ _).trans a1
  · rw [if_neg (by decide), if_pos rfl, if_neg (by decide), if_pos (show nI 1 = 1 from rfl)]
    exact ((if_pos ⟨rfl, by decide⟩).trans (if_pos rfl)).trans a2
  · rw [if_neg (by decide), if_neg (by decide), if_neg (by decide), if_neg (by decide)]
    exact ((if_pos ⟨rfl, by decide⟩).trans ((if_neg (by decide)).trans ((if_neg (by decide)).trans ((if_neg (by decide)).trans (if_pos rfl))))).trans a3
theorem kdG (hR : kR σ (x + 1) S) (hI : kI c S) {r : Nat} (hr : r < 4) (p : Int64) : ∀ i, i ≤ 3 → (jdG x r i (p, σ)).1 = mhf (fun w => mTV S r (mroom S (nI r) 24) (nI w)) i p
  | 0, _ => rfl
  | i + 1, hi => by
    have ih := kdG hR hI hr p i (by omega)
    have hls := jdG_ls x r (p, σ) i
    rw [jdG_s, mhf_s, ← ih]
    unfold jdT
    dsimp only
    rw [kAl (kLs hls hI.1.2 hR) hI hr (by omega)]
theorem kdr (hR : kR σ (x + 1) S) (hI : kI c S) {r : Nat} (hr : r < 4) (p : Int64) : (jdr x r (p, σ)).1 = mhR S r p := by
  unfold jdr mhR
  dsimp only
  rw [kdG (kLs (jLs_A σ x r 1) hI.1.2 hR) hI hr _ 3 (Nat.le_refl _), mhf_cg (g := mrdV S r) (fun w hw => krd hR hI hr hw)]
theorem kds (hR : kR σ (x + 1) S) (hI : kI c S) (p : Int64) : ∀ n, n ≤ 4 → (jds x (p, σ) n).1 = mh4 S n p
  | 0, _ => rfl
  | n + 1, hn => by
    have ih := kds hR hI p n (by omega)
    have hls := jds_ls x (p, σ) n
    have e : mh4 S (n + 1) p = mhR S n (mh4 S n p) := rfl
    rw [jds_s, e, ← ih]
    have hR' := kLs (S := S) hls hI.1.2 hR
    exact kdr hR' hI (by omega) (jds x (p, σ) n).1
theorem kfG (hR : kR σ (x + 1) S) (hI : kI c S) : ∀ i, i ≤ 4 → (jfG σ x i).1 = (mfb S i).1 ∧ (jfG σ x i).2.1 = (mfb S i).2
  | 0, _ => ⟨rfl, rfl⟩
  | i + 1, hi => by
    obtain ⟨e1, e2⟩ := kfG hR hI i (by omega)
    have hls := jfG_ls σ x i
    have hR' := kLs (S := S) hls hI.1.2 hR
    have e3 := kAl hR' hI (r := i) (w := 0) (by omega) (by omega) 24
    rw [if_pos rfl] at e3
    have e3 : (jAl (jfG σ x i).2.2 x i 24).1 (x + 232) 1 = mTV S i (mroom S (nI i) 24) 0 := e3
    rw [jfG_s, mfb_s]
    unfold jfT
    rw [e3, e2]
    by_cases z : (mfb S i).2 < mTV S i (mroom S (nI i) 24) 0
    · rw [if_pos z, if_pos z]
      exact ⟨rfl, rfl⟩
    · rw [if_neg z, if_neg z]
      exact ⟨e1, rfl⟩
theorem kh3 (hR : kR σ (x + 1) S) (hI : kI c S) (p : Int64) (n : Nat) (hn : n ≤ mN S) : jh3 σ (x + 1) n p = mh3 S n p := by
  unfold jh3 mh3
  exact jfd_cg fun q hq s => mhf_cg fun w hw => krow hR hI (by omega) hw
theorem kh5 (hR : kR σ (x + 1) S) (p : Int64) (n : Nat) : jh5 σ (x + 1) n p = mh5 S n p := by
  unfold jh5 mh5
  exact jfd_cg fun q hq s => mhf_cg fun w hw => kgrp hR _ _ _
theorem kfair (hc : c ≤ 512) (hR : kR σ (x + 1) S) (hI : kI c S) : jFair σ (x + 1) ∧ jbp (jfr σ (x + 1)) ∧ jbV (jfr σ (x + 1)) = mbV (1 + (mgS S).toInt64) ∧ ¬ lg_cmp (mb1 (1 + (mgS S).toInt64) 10).1 (1 + (mgS S).toInt64) < 0 := by
  obtain ⟨k, hk, ek⟩ := kI_gs (by omega) hI
  obtain ⟨b1, b2, b3, b4, b5⟩ := kbit (k := k) (by omega)
  have e : jgk σ (x + 1) = nI k := (kgs hR).trans ek
  have ef : jfr σ (x + 1) = kd2 k := by unfold jfr kd2 kd1; rw [e]
  unfold jFair
  rw [ef, ek, e]
  exact ⟨⟨b1, b2⟩, b3, b5, b4⟩
theorem kdig (hc : c ≤ 512) (hR : kR σ (x + 1) S) (hI : kI c S) {z L : Int32} {B : Nat → Int32} {l : Nat} (hz : σ.1 (x + 33) 2 = z) (hL : σ.1 (x + 227) 1 = L) (hl : L = nI l) (hl61 : l < 61) (hB : ∀ i, i < l → σ.1 (x + 227 + 1) i = B i) : jd5 (jd4 (jd2 σ x) x) x = mdig S z L B := by
  have h24 := hI.1.2
  have e1 : jd1 σ x = mh1 S z := by
    unfold jd1 mh1
    rw [mhf_cg (g := mtl S z) (fun w hw => kct hR hI hz hw)]
    exact mhf_cg fun k hk => hR.2.1 k hk
  have e2 : (jd2 σ x).1 = mh4 S 4 (mh3 S (mN S) (mh1 S z)) := by
    unfold jd2
    rw [kds hR hI _ 4 (Nat.le_refl _), kn hR, kh3 hR hI _ _ (Nat.le_refl _), e1]
  have l2 := jd2_ls σ x
  have hR2 := kLs (S := S) l2 h24 hR
  have e3 : ∀ p, jd3 (jd2 σ x).2 x p = mh6 S (mh5 S 8 p) := by
    intro p
    unfold jd3
    rw [kh5 hR2]
    show mhf (fun w => jipV (jd2 σ x).2 (x + 1) (nI 10) (nI w)) 2 (mh5 S 8 p) = _
    rw [mhf_cg (g := fun w => mPV S 10 (nI w)) (fun w _ => kip hR2 hI (by omega) _)]
    rfl
  have l4 := jLs_t l2 (jd4_ls (jd2 σ x) x)
  have hR4 := kLs (S := S) l4 h24 hR
  have e4 : (jd4 (jd2 σ x) x).1 = 31 * mh6 S (mh5 S 8 (mh4 S 4 (mh3 S (mN S) (mh1 S z)))) + (mfb S 4).1.toInt64 := by
    unfold jd4
    dsimp only
    rw [e3, e2, (kfG hR2 hI 4 (Nat.le_refl _)).1]
  obtain ⟨_, _, e5, _⟩ := kfair hc hR4 hI
  have b1 : (jd4 (jd2 σ x) x).2.1 (x + 227) = σ.1 (x + 227) := l4.2 _ (by omega)
  have b2 : (jd4 (jd2 σ x) x).2.1 (x + 227 + 1) = σ.1 (x + 227 + 1) := l4.2 _ (by omega)
  have b3 : jBn (jd4 (jd2 σ x) x).2 (x + 227) = l := by unfold jBn; rw [b1, hL, hl]; exact nI_clamp (by omega)
  unfold jd5 mdig
  rw [b3, e5, e4, b1, b2, hL, show L.toNatClampNeg = l from by rw [hl]; exact nI_clamp (by omega)]
  exact mhf_cg hB
end KX
