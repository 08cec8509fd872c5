/-! the operations of the numbers -/
theorem kro {S : Nat → Int32} (hO : mOk S) (v : Int32) : (v < 0 ∨ ¬ v < S 0) ↔ ¬ (¬ v < 0 ∧ ¬ S 0 - 1 < v) := by
  obtain ⟨hn, h24⟩ := hO
  by_cases h0 : v < 0
  · exact ⟨fun _ z => z.1 h0, fun _ => Or.inl h0⟩
  · obtain ⟨j, hj, rfl⟩ := nI_of h0
    have e : S 0 - 1 < nI j ↔ ¬ nI j < S 0 := by
      rw [hn, nI_ltI hj (by omega)]
      rcases Nat.eq_zero_or_pos (mN S) with z | z
      · rw [z]
        refine ⟨fun _ => by omega, fun _ => ?_⟩
        show (-1 : Int32) < nI j
        rw [Int32.lt_iff_toInt_lt, nI_toInt hj]
        have : (-1 : Int32).toInt = -1 := by decide
        omega
      · obtain ⟨y, hy⟩ : ∃ y, mN S = y + 1 := ⟨mN S - 1, by omega⟩
        rw [hy, nI_pred, nI_ltI (by omega) hj]
        omega
    constructor
    · intro z y
      rcases z with z | z
      · exact h0 z
      · exact y.2 (e.mpr z)
    · intro z
      exact Or.inr (fun y => z ⟨h0, fun w => e.mp w y⟩)
theorem kro_q {S : Nat → Int32} (hO : mOk S) {v : Int32} (h : ¬ (v < 0 ∨ ¬ v < S 0)) : ∃ q, q < mN S ∧ v = nI q ∧ v.toNatClampNeg = q := by
  have h2 : ¬ v < 0 ∧ ¬ S 0 - 1 < v := Classical.byContradiction fun z => h ((kro hO v).mpr z)
  obtain ⟨q, hq, rfl⟩ := vp_in_of (mrow_in hO h2) (by have := hO.2; omega)
  exact ⟨q, hq, rfl, nI_clamp (by have := hO.2; omega)⟩
def kIb (c b : Nat) (S : Nat → Int32) : Prop := mOk S ∧ ∃ P T D : Nat, S 1 = nI P ∧ P ≤ b ∧ S 3 = nI T ∧ T ≤ 9999 ∧ (S 5 = nI D ∧ 1 ≤ D ∧ D ≤ 99) ∧ vp_in (S 8) 25 ∧ (∀ i, i < mN S → kRo c T (fun p => S (25 + 9 * i + p))) ∧ (∀ i, i < mN S → S (25 + 9 * i + 2) = nI (kmk S i) ∧ kmk S i < P) ∧ ∀ i j, i < j → j < mN S → kmk S i < kmk S j
theorem kIb_I {c b : Nat} {S : Nat → Int32} (hb : b ≤ 24 * c + 24) (h : kIb c b S) : kI (c + 1) S := by
  obtain ⟨hO, P, T, D, h1, h2, h3, h4, h5, h6, hr, h7, h8⟩ := h
  exact ⟨hO, P, T, D, h1, by omega, h3, h4, h5, h6, fun i hi => ⟨(hr i hi).1, (hr i hi).2.1, (hr i hi).2.2.1, (hr i hi).2.2.2.1, vp_in_mono (by omega) (hr i hi).2.2.2.2⟩, h7, h8⟩
theorem mPut_r {S : Nat → Int32} {k u : Int32} {p : Nat} (hp : p < 9) : mPut S k u (25 + 9 * mN S + p) = if p = 0 then k else if p = 1 then u else if p = 2 then S 1 else if p = 8 then S 3 else 0 := by
  unfold mPut
  rw [if_neg (by omega), if_neg (by omega), if_pos (by omega), show 25 + 9 * mN S + p - (25 + 9 * mN S) = p by omega]
theorem mPut_o {S : Nat → Int32} {k u : Int32} {a : Nat} (h0 : ¬ a = 0) (h1 : ¬ a = 1) (h2 : ¬ (25 + 9 * mN S ≤ a ∧ a < 25 + 9 * mN S + 9)) : mPut S k u a = S a := by
  unfold mPut
  rw [if_neg h0, if_neg h1, if_neg h2]
theorem kAdd_R {τ : jgS} {h : Nat} {S : Nat → Int32} {k u : Int32} (hR : kR τ h S) (hO : mOk S) (hn : mN S < 24) : kR (jAdd τ h k u) h (mPut S k u) := by
  obtain ⟨hN, _⟩ := mPut_N k u hO hn
  have en := kn hR
  have row : ∀ a j, ¬ a = h → ¬ (a = h + 4 + mN S ∧ j < 9) → (jAdd τ h k u).1 a j = τ.1 a j := fun a j h1 h2 => by
    unfold jAdd
    rw [jI_wI, if_neg (fun z => h1 z.1), jI_wI, if_neg (fun z => h1 z.1), en, jbg_out h2]
  have hh : ∀ j, ¬ j = 3 → ¬ j = 5 → (jAdd τ h k u).1 h j = τ.1 h j := fun j h1 h2 => by
    unfold jAdd
    rw [jI_wI, if_neg (fun z => h2 z.2), jI_wI, if_neg (fun z => h1 z.2), jbg_out (by omega)]
  have h3 : (jAdd τ h k u).1 h 3 = nI (mN S) + 1 := by
    unfold jAdd
    rw [jI_wI, if_neg (by omega), jI_wI, if_pos ⟨rfl, rfl⟩, en]
  have h5 : (jAdd τ h k u).1 h 5 = τ.1 h 5 + 1 := by
    unfold jAdd
    rw [jI_wI, if_pos ⟨rfl, rfl⟩]
  have new : ∀ j, j < 9 → (jAdd τ h k u).1 (h + 4 + mN S) j = if j = 0 then k else if j = 1 then u else if j = 2 then τ.1 h 5 else if j = 3 then τ.1 h 4 else if j = 4 then 0 else if j = 5 then -1 else if j = 6 then -1 else 0 := fun j hj => by
    unfold jAdd
    rw [jI_wI, if_neg (by omega), jI_wI, if_neg (by omega), en]
    exact if_pos ⟨rfl, hj⟩
  obtain ⟨g1, g2, g3, g4⟩ := hR
  refine ⟨⟨?_, ?_, ?_, ?_, ?_⟩, fun s hs => ?_, fun r hr p hp => ?_, fun i hi => ?_⟩
  · rw [h3, ← hO.1]; rfl
  · rw [hh 4 (by decide) (by decide), mPut_o (by decide) (by decide) (by omega)]; exact g1.2.1
  · rw [h5, g1.2.2.1]; rfl
  · rw [hh 6 (by decide) (by decide), mPut_o (by decide) (by decide) (by omega)]; exact g1.2.2.2.1
  · rw [hh 7 (by decide) (by decide), mPut_o (by decide) (by decide) (by omega)]; exact g1.2.2.2.2
  · rw [row _ _ (by omega) (by omega), mPut_o (by omega) (by omega) (by omega)]; exact g2 s hs
  · rw [row _ _ (by omega) (by omega), mPut_o (by omega) (by omega) (by omega)]; exact g3 r hr p hp
  · rw [hN] at hi
    by_cases e : i = mN S
    · subst e
      unfold kRw
      rw [new 0 (by decide), new 1 (by decide), new 2 (by decide), new 3 (by decide), new 4 (by decide), new 5 (by decide), new 6 (by decide), new 7 (by decide), new 8 (by decide)]
      dsimp only
      rw [mPut_r (p := 0) (by decide), mPut_r (p := 1) (by decide), mPut_r (p := 2) (by decide), mPut_r (p := 8) (by decide), mPut_r (p := 6) (by decide), mPut_r (p := 7) (by decide)]
      have e3 : mPut S k u (25 + 9 * mN S + 3) = 0 := mPut_r (p := 3) (by decide)
      rw [if_neg (show ¬ mPut S k u (25 + 9 * mN S + 3) = 1 from by rw [e3]; decide), if_neg (show ¬ mPut S k u (25 + 9 * mN S + 3) = 1 from by rw [e3]; decide), e3]
      exact ⟨rfl, rfl, g1.2.2.1, g1.2.1, rfl, rfl, rfl, rfl, rfl⟩
    · refine kRw_f (f := τ.1 (h + 4 + i)) (fun p hp => row _ _ (by omega) (by omega)) ?_
      exact kRw_g (g := fun p => S (25 + 9 * i + p)) (fun p hp => mPut_o (by omega) (by omega) (by omega)) (g4 i (by omega))
theorem kAdd_I {c b : Nat} {S : Nat → Int32} {k u : Int32} (hI : kIb c b S) (hn : mN S < 24) (hb : b ≤ 100000) (hk : vp_in k 8) (hu : vp_in u 10) : kIb c (b + 1) (mPut S k u) := by
  obtain ⟨hO, P, T, D, g1, g2, g3, g4, g5, g6, gr, g7, g8⟩ := hI
  obtain ⟨hN, hO'⟩ := mPut_N k u hO hn
  have old : ∀ i p, i < mN S → p < 9 → mPut S k u (25 + 9 * i + p) = S (25 + 9 * i + p) := fun i p hi hp => mPut_o (by omega) (by omega) (by omega)
  have ek : ∀ i, i < mN S → kmk (mPut S k u) i = kmk S i := fun i hi => by unfold kmk; rw [old i 2 hi (by decide)]
  have e2 : mPut S k u (25 + 9 * mN S + 2) = nI P := (mPut_r (by decide)).trans g1
  have ekn : kmk (mPut S k u) (mN S) = P := by unfold kmk; rw [e2]; exact nI_clamp (by omega)
  refine ⟨hO', P + 1, T, D, ?_, by omega, by rw [mPut_o (by decide) (by decide) (by omega)]; exact g3, g4, by rw [mPut_o (by decide) (by decide) (by omega)]; exact g5, by rw [mPut_o (by decide) (by decide) (by omega)]; exact g6, fun i hi => ?_, fun i hi => ?_, fun i j hij hj => ?_⟩
  · show S 1 + 1 = _
    rw [g1, nI_1]
  · rw [hN] at hi
    by_cases e : i = mN S
    · subst e
      have e3 : mPut S k u (25 + 9 * mN S + 3) = 0 := mPut_r (p := 3) (by decide)
      refine ⟨show vp_in (mPut S k u (25 + 9 * mN S + 0)) 8 from by rw [mPut_r (by decide)]; exact hk, show vp_in (mPut S k u (25 + 9 * mN S + 1)) 10 from by rw [mPut_r (by decide)]; exact hu, show vp_in (mPut S k u (25 + 9 * mN S + 3)) 4 from by rw [e3]; exact vp_in_nI (n := 0) (by decide) (by decide), fun z => ?_, show vp_in (mPut S k u (25 + 9 * mN S + 7)) (c + 1) from ?_⟩
      · have z : mPut S k u (25 + 9 * mN S + 3) = 1 := z
        rw [e3] at z
        exact absurd z (by decide)
      · have e7 : mPut S k u (25 + 9 * mN S + 7) = 0 := mPut_r (p := 7) (by decide)
        rw [e7]
        exact vp_in_mono (Nat.succ_le_succ (Nat.zero_le c)) (vp_in_nI (n := 0) (N := 1) (by decide) (by decide))
    · exact kRo_g (g := fun p => S (25 + 9 * i + p)) (fun p hp => old i p (by omega) hp) (gr i (by omega))
  · rw [hN] at hi
    by_cases e : i = mN S
    · subst e
      rw [ekn]
      exact ⟨e2, by omega⟩
    · rw [ek i (by omega), old i 2 (by omega) (by decide)]
      exact ⟨(g7 i (by omega)).1, by have := (g7 i (by omega)).2; omega⟩
  · rw [hN] at hj
    by_cases e : j = mN S
    · subst e
      rw [ekn, ek i hij]
      exact (g7 i hij).2
    · rw [ek i (by omega), ek j (by omega)]
      exact g8 i j hij (by omega)
theorem kvp {v : Int32} {m : Nat} (h : ¬ (v < 0 ∨ nI m < v)) (hm : m < 1000) : vp_in v (m + 1) := by
  obtain ⟨w', hw, rfl⟩ := nI_of2 (M := nI m) (n := m) (by rw [nI_toInt (by omega)]) (fun z => h (Or.inl z)) (ji_le.mpr fun z => h (Or.inr z))
  exact vp_in_nI (by omega) (by omega)
theorem kr4 (r : Int32) : (r < 0 ∨ ¬ r < 4) ↔ ¬ (¬ r < 0 ∧ ¬ 3 < r) := by
  simp only [Int32.lt_iff_toInt_lt]
  have h0 : (0 : Int32).toInt = 0 := by decide
  have h4 : (4 : Int32).toInt = 4 := by decide
  have h3 : (3 : Int32).toInt = 3 := by decide
  omega
theorem kr4_q {r : Int32} (h : ¬ (r < 0 ∨ ¬ r < 4)) : ∃ p, p < 4 ∧ r = nI p ∧ r.toNatClampNeg = p := by
  have h2 : ¬ r < 0 ∧ ¬ 3 < r := Classical.byContradiction fun z => h ((kr4 r).mpr z)
  obtain ⟨p, hp, rfl⟩ := vp_in_of (mle3 h2) (by decide)
  exact ⟨p, hp, rfl, nI_clamp (by omega)⟩
theorem kRw_nh {f f' g g' : Nat → Int32} {t : Int32} (h : kRw f g) (ht : ¬ t = 1) (e4 : f' 4 = t) (s3 : g' 3 = t) (e5 : f' 5 = -1) (e6 : f' 6 = -1) (e7 : f' 7 = g' 6) (e : ∀ k, k < 9 → ¬ k = 4 → ¬ k = 5 → ¬ k = 6 → ¬ k = 7 → f' k = f k) (s : ∀ p, p < 9 → ¬ p = 3 → ¬ p = 4 → ¬ p = 5 → ¬ p = 6 → g' p = g p) : kRw f' g' := by
  obtain ⟨h0, h1, h2, h3, _, _, _, _, h8⟩ := h
  refine ⟨?_, ?_, ?_, ?_, e4.trans s3.symm, ?_, ?_, e7, ?_⟩
  · rw [e 0 (by decide) (by decide) (by decide) (by decide) (by decide), s 0 (by decide) (by decide) (by decide) (by decide) (by decide)]; exact h0
  · rw [e 1 (by decide) (by decide) (by decide) (by decide) (by decide), s 1 (by decide) (by decide) (by decide) (by decide) (by decide)]; exact h1
  · rw [e 2 (by decide) (by decide) (by decide) (by decide) (by decide), s 2 (by decide) (by decide) (by decide) (by decide) (by decide)]; exact h2
  · rw [e 3 (by decide) (by decide) (by decide) (by decide) (by decide), s 8 (by decide) (by decide) (by decide) (by decide) (by decide)]; exact h3
  · rw [e5, if_neg (by rw [s3]; exact ht)]
  · rw [e6, if_neg (by rw [s3]; exact ht)]
  · rw [e 8 (by decide) (by decide) (by decide) (by decide) (by decide), s 7 (by decide) (by decide) (by decide) (by decide) (by decide)]; exact h8
theorem kRo_nh {c T : Nat} {g g' : Nat → Int32} {t : Int32} (h : kRo c T g) (ht : ¬ t = 1) (hv : vp_in t 4) (s3 : g' 3 = t) (s : ∀ p, p < 9 → ¬ p = 3 → ¬ p = 4 → ¬ p = 5 → ¬ p = 6 → g' p = g p) : kRo c T g' := by
  obtain ⟨r0, r1, r3, rh, r7⟩ := h
  refine ⟨?_, ?_, by rw [s3]; exact hv, fun z => absurd (s3.symm.trans z) ht, ?_⟩
  · rw [s 0 (by decide) (by decide) (by decide) (by decide) (by decide)]; exact r0
  · rw [s 1 (by decide) (by decide) (by decide) (by decide) (by decide)]; exact r1
  · rw [s 7 (by decide) (by decide) (by decide) (by decide) (by decide)]; exact r7
section KC2
variable {G : jgG} {c x : Nat} {σ : jgS} {S : Nat → Int32}
theorem kend (hF : nF G c σ x S) {q : Nat} (hq : q < mN S) {t : Int32} (ht : ¬ t = 1) (hv : vp_in t 4) : kR (jwI (jwI (jwI (jHkeep σ (x + 33) (x + 1)) (x + 1 + 4 + q) 4 t) (x + 1 + 4 + q) 5 (-1)) (x + 1 + 4 + q) 6 (-1)) (x + 1) (jup1 S (25 + 9 * q + 3) t) ∧ kI c (jup1 S (25 + 9 * q + 3) t) := by
  have hR := hF.2.1
  have hI := hF.2.2
  have h24 := hI.1.2
  have so : ∀ p, p < 9 → ¬ p = 3 → ¬ p = 4 → ¬ p = 5 → ¬ p = 6 → jup1 S (25 + 9 * q + 3) t (25 + 9 * q + p) = S (25 + 9 * q + p) := fun p _ h3 _ _ h6 => jup1_ne (by omega)
  have s6 : jup1 S (25 + 9 * q + 3) t (25 + 9 * q + 6) = S (25 + 9 * q + 6) := jup1_ne (by omega)
  have hr := (kRK hF).2.2.2 q hq
  refine ⟨kR_row (kRK hF) hq h24 (fun a _ _ ha => funext fun k => by rw [jI_wI, if_neg (fun z => ha z.1), jI_wI, if_neg (fun z => ha z.1), jI_wI, if_neg (fun z => ha z.1)]) (fun k hk => jup1_ne (by omega)) ?_, kI_row hI hq (fun k hk => jup1_ne (by omega)) (so 2 (by decide) (by decide) (by decide) (by decide) (by decide)) (fun T _ _ hr => kRo_nh hr ht hv (jup1_at _ _ _) so)⟩
  refine kRw_nh hr ht ?_ (jup1_at _ _ _) ?_ ?_ ?_ (fun k _ h4 h5 h6 _ => by rw [jI_wI, if_neg (fun z => h6 z.2), jI_wI, if_neg (fun z => h5 z.2), jI_wI, if_neg (fun z => h4 z.2)]) so
  · rw [jI_wI, if_neg (by omega), jI_wI, if_neg (by omega), jI_wI, if_pos ⟨rfl, rfl⟩]
  · rw [jI_wI, if_neg (by omega), jI_wI, if_pos ⟨rfl, rfl⟩]
  · rw [jI_wI, if_pos ⟨rfl, rfl⟩]
  · rw [jI_wI, if_neg (by omega), jI_wI, if_neg (by omega), jI_wI, if_neg (by omega)]
    exact hr.2.2.2.2.2.2.2.1.trans s6.symm
theorem kRw_l {f f' g g' : Nat → Int32} {L : Int32} (h : kRw f g) (h3 : g 3 = 1) (e6 : f' 6 = L) (s5 : g' 5 = L) (e : ∀ k, k < 9 → ¬ k = 6 → f' k = f k) (s : ∀ p, p < 9 → ¬ p = 5 → g' p = g p) : kRw f' g' := by
  obtain ⟨r0, r1, r2, r3, r4, r5, r6, r7, r8⟩ := h
  unfold kRw
  rw [e 0 (by decide) (by decide), e 1 (by decide) (by decide), e 2 (by decide) (by decide), e 3 (by decide) (by decide), e 4 (by decide) (by decide), e 5 (by decide) (by decide), e6, e 7 (by decide) (by decide), e 8 (by decide) (by decide), s 0 (by decide) (by decide), s 1 (by decide) (by decide), s 2 (by decide) (by decide), s 8 (by decide) (by decide), s 3 (by decide) (by decide), s 4 (by decide) (by decide), s 6 (by decide) (by decide), s 7 (by decide) (by decide), s5, if_pos h3, if_pos h3]
  rw [if_pos h3] at r5
  exact ⟨r0, r1, r2, r3, r4, r5, rfl, r7, r8⟩
theorem kren_R (hF : nF G c σ x S) (r : Int32) : kR (jmp (jHkeep σ (x + 33) (x + 1)) (x + 1) (jn (jHkeep σ (x + 33) (x + 1)) (x + 1)) (jvP (jHkeep σ (x + 33) (x + 1)) (x + 1) r)) (x + 1) (mRN S r (mN S)) := by
  have hR := hF.2.1
  have hI := hF.2.2
  have h24 := hI.1.2
  have hRK := kRK hF
  have hjn := kn hRK
  have ho : ∀ a, ¬ (x + 1 + 4 ≤ a ∧ a < x + 1 + 4 + mN S) → (jmp (jHkeep σ (x + 33) (x + 1)) (x + 1) (jn (jHkeep σ (x + 33) (x + 1)) (x + 1)) (jvP (jHkeep σ (x + 33) (x + 1)) (x + 1) r)).1 a = (jHkeep σ (x + 33) (x + 1)).1 a := fun a ha => funext fun k => jmp_out (by rw [hjn]; omega)
  obtain ⟨hOr, hNr⟩ := mRN_ok (r := r) (i := mN S) hI.1
  have sl : ∀ k, (∀ j, ¬ k = 25 + 9 * j + 5) → mRN S r (mN S) k = S k := fun k hk => mRN_ne hk
  obtain ⟨g1, g2, g3, g4⟩ := hRK
  refine ⟨by rw [ho _ (by omega), sl 0 (by omega), sl 1 (by omega), sl 2 (by omega), sl 3 (by omega), sl 4 (by omega)]; exact g1, fun k hk => by rw [ho _ (by omega), sl _ (by omega)]; exact g2 k hk, fun q hq p hp => by rw [ho _ (by omega), sl _ (by omega)]; exact g3 q hq p hp, fun i hi => ?_⟩
  rw [hNr] at hi
  have hrow := g4 i hi
  have er : ∀ k, k < 9 → (jmp (jHkeep σ (x + 33) (x + 1)) (x + 1) (jn (jHkeep σ (x + 33) (x + 1)) (x + 1)) (jvP (jHkeep σ (x + 33) (x + 1)) (x + 1) r)).1 (x + 1 + 4 + i) k = jvP (jHkeep σ (x + 33) (x + 1)) (x + 1) r i k := fun k hk => jmp_in (by omega) hk
  have hhe := khe (kRK hF) (r := r) hi
  have so : ∀ p, p < 9 → ¬ p = 5 → mRN S r (mN S) (25 + 9 * i + p) = S (25 + 9 * i + p) := fun p hp h5 => sl _ (fun j => by omega)
  by_cases hb : S (25 + 9 * i + 3) = 1 ∧ S (25 + 9 * i + 4) = r
  · have hb' := hhe.mpr hb
    have s5 : mRN S r (mN S) (25 + 9 * i + 5) = S 3 + S 5 := by rw [mRN_at, if_pos ⟨hi, hb⟩]
    have eo : ∀ k, k < 9 → ¬ k = 6 → (jmp (jHkeep σ (x + 33) (x + 1)) (x + 1) (jn (jHkeep σ (x + 33) (x + 1)) (x + 1)) (jvP (jHkeep σ (x + 33) (x + 1)) (x + 1) r)).1 (x + 1 + 4 + i) k = (jHkeep σ (x + 33) (x + 1)).1 (x + 1 + 4 + i) k := fun k hk h6 => by rw [er k hk]; unfold jvP; rw [if_neg (fun z => h6 z.1)]
    have e6 : (jmp (jHkeep σ (x + 33) (x + 1)) (x + 1) (jn (jHkeep σ (x + 33) (x + 1)) (x + 1)) (jvP (jHkeep σ (x + 33) (x + 1)) (x + 1) r)).1 (x + 1 + 4 + i) 6 = S 3 + S 5 := by
      rw [er 6 (by decide)]
      unfold jvP
      rw [if_pos ⟨rfl, hb'⟩, g1.2.1, g2 0 (by decide)]
    exact kRw_l (g := fun p => S (25 + 9 * i + p)) (g' := fun p => mRN S r (mN S) (25 + 9 * i + p)) hrow hb.1 e6 s5 eo so
  · have s5 : mRN S r (mN S) (25 + 9 * i + 5) = S (25 + 9 * i + 5) := by rw [mRN_at, if_neg (fun z => hb z.2)]
    refine kRw_f (f := (jHkeep σ (x + 33) (x + 1)).1 (x + 1 + 4 + i)) (fun k hk => by rw [er k hk]; unfold jvP; rw [if_neg (fun z => hb (hhe.mp z.2))]) (kRw_g (g := fun p => S (25 + 9 * i + p)) (fun p hp => ?_) hrow)
    by_cases h5 : p = 5
    · subst h5; exact s5
    · exact so p hp h5
theorem kren_I (hF : nF G c σ x S) (r : Int32) : kI c (mRN S r (mN S)) := by
  have hR := hF.2.1
  have hI := hF.2.2
  have h24 := hI.1.2
  have hRK := kRK hF
  have hjn := kn hRK
  have ho : ∀ a, ¬ (x + 1 + 4 ≤ a ∧ a < x + 1 + 4 + mN S) → (jmp (jHkeep σ (x + 33) (x + 1)) (x + 1) (jn (jHkeep σ (x + 33) (x + 1)) (x + 1)) (jvP (jHkeep σ (x + 33) (x + 1)) (x + 1) r)).1 a = (jHkeep σ (x + 33) (x + 1)).1 a := fun a ha => funext fun k => jmp_out (by rw [hjn]; omega)
  obtain ⟨hOr, hNr⟩ := mRN_ok (r := r) (i := mN S) hI.1
  have sl : ∀ k, (∀ j, ¬ k = 25 + 9 * j + 5) → mRN S r (mN S) k = S k := fun k hk => mRN_ne hk
  obtain ⟨hO, P, T, D, g1, g2, g3, g4, g5, g6, gr, g7, g8⟩ := hI
  have so : ∀ i p, p < 9 → ¬ p = 5 → mRN S r (mN S) (25 + 9 * i + p) = S (25 + 9 * i + p) := fun i p hp h5 => sl _ (fun j => by omega)
  have ek : ∀ i, kmk (mRN S r (mN S)) i = kmk S i := fun i => by unfold kmk; rw [so i 2 (by decide) (by decide)]
  refine ⟨hOr, P, T, D, by rw [sl 1 (by omega)]; exact g1, g2, by rw [sl 3 (by omega)]; exact g3, g4, by rw [sl 5 (by omega)]; exact g5, by rw [sl 8 (by omega)]; exact g6, fun i hi => ?_, fun i hi => ?_, fun i j hij hj => ?_⟩
  · rw [hNr] at hi
    obtain ⟨r0, r1, r3, rh, r7⟩ := gr i hi
    refine ⟨show vp_in (mRN S r (mN S) (25 + 9 * i + 0)) 8 from by rw [so i 0 (by decide) (by decide)]; exact r0, show vp_in (mRN S r (mN S) (25 + 9 * i + 1)) 10 from by rw [so i 1 (by decide) (by decide)]; exact r1, show vp_in (mRN S r (mN S) (25 + 9 * i + 3)) 4 from by rw [so i 3 (by decide) (by decide)]; exact r3, fun z => ?_, show vp_in (mRN S r (mN S) (25 + 9 * i + 7)) (c + 1) from by rw [so i 7 (by decide) (by decide)]; exact r7⟩
    have z : mRN S r (mN S) (25 + 9 * i + 3) = 1 := z
    rw [so i 3 (by decide) (by decide)] at z
    obtain ⟨v4, L, e5, l1, l2⟩ := rh z
    refine ⟨show vp_in (mRN S r (mN S) (25 + 9 * i + 4)) 4 from by rw [so i 4 (by decide) (by decide)]; exact v4, ?_⟩
    show ∃ L : Nat, mRN S r (mN S) (25 + 9 * i + 5) = nI L ∧ T < L ∧ L ≤ 10098
    rw [mRN_at]
    by_cases hb : i < mN S ∧ S (25 + 9 * i + 3) = 1 ∧ S (25 + 9 * i + 4) = r
    · rw [if_pos hb, g3, g5.1, nI_add]
      exact ⟨T + D, rfl, by omega, by omega⟩
    · rw [if_neg hb]
      exact ⟨L, e5, l1, l2⟩
  · rw [hNr] at hi
    rw [ek, so i 2 (by decide) (by decide)]
    exact g7 i hi
  · rw [hNr] at hj
    rw [ek, ek]
    exact g8 i j hij hj
theorem kren_C (hF : nF G c σ x S) (r : Int32) : kCop σ (jmp (jHkeep σ (x + 33) (x + 1)) (x + 1) (jn (jHkeep σ (x + 33) (x + 1)) (x + 1)) (jvP (jHkeep σ (x + 33) (x + 1)) (x + 1) r)) x := by
  have hjn := kn (kRK hF)
  have h24 := hF.2.2.1.2
  exact kCop_c (kCop_K σ x) (jmp_2 _ _ _ _) (fun a h1 _ => funext fun k => jmp_out (by omega))
theorem jct_sur {p : Nat → Prop} [DecidablePred p] : ∀ {n i : Nat}, i < jct p n → ∃ j, j < n ∧ p j ∧ jct p j = i
  | 0, i, h => absurd h (by show ¬ i < 0; omega)
  | n + 1, i, h => by
    by_cases hp : p n
    · rw [jct_y hp] at h
      by_cases e : i = jct p n
      · exact ⟨n, by omega, hp, e.symm⟩
      · obtain ⟨j, h1, h2, h3⟩ := jct_sur (p := p) (n := n) (i := i) (by omega)
        exact ⟨j, by omega, h2, h3⟩
    · rw [jct_n hp] at h
      obtain ⟨j, h1, h2, h3⟩ := jct_sur (p := p) (n := n) (i := i) h
      exact ⟨j, by omega, h2, h3⟩
theorem mSw_at {S : Nat → Int32} {j p : Nat} (hp : p < 9) (hn : ¬ S (25 + 9 * j + 3) = 2) : ∀ i, j < i → mSw S i (25 + 9 * mSc S j + p) = S (25 + 9 * j + p)
  | 0, h => absurd h (by omega)
  | i + 1, h => by
    rw [mSw_s]
    have hle : mSc S i ≤ i := jct_le _ _
    by_cases e : j = i
    · subst e
      rw [if_pos hn]
      unfold mSp
      rw [if_pos (by omega)]
      exact congrArg S (by omega)
    · have hm : mSc S (j + 1) ≤ mSc S i := jct_mono _ (by omega)
      have hj : mSc S (j + 1) = mSc S j + 1 := jct_y hn
      have ih := mSw_at hp hn i (by omega)
      split
      · unfold mSp
        rw [if_neg (by omega)]
        exact ih
      · exact ih
theorem kswp_R (hF : nF G c σ x S) : kR (jwI (jmp (jHkeep σ (x + 33) (x + 1)) (x + 1) (mSc S (mN S)) (jvD (jHkeep σ (x + 33) (x + 1)) (x + 1))) (x + 1) 3 (nI (mSc S (mN S)))) (x + 1) (mSW S) := by
  have hR := hF.2.1
  have hI := hF.2.2
  have h24 := hI.1.2
  have hRK := kRK hF
  have hjn := kn hRK
  have ecd : ∀ i, i ≤ mN S → jct (fun j => ¬ (jHkeep σ (x + 33) (x + 1)).1 (x + 1 + 4 + j) 4 = 2) i = mSc S i := fun i hi => jct_cg fun j hj => by rw [kf4 hRK (by omega)]
  have hcle : mSc S (mN S) ≤ mN S := jct_le _ _
  have hcc : (nI (mSc S (mN S))).toNatClampNeg = mSc S (mN S) := nI_clamp (by omega)
  have hN' : mN (mSW S) = mSc S (mN S) := by unfold mN mSW; rw [jup1_at]; exact hcc
  have s9 : ∀ i, i < mSc S (mN S) → ∃ j, j < mN S ∧ mSc S j = i ∧ (¬ S (25 + 9 * j + 3) = 2) ∧ ∀ p, p < 9 → mSW S (25 + 9 * i + p) = S (25 + 9 * j + p) := by
    intro i hi
    obtain ⟨j, h1, h2, h3⟩ := jct_sur hi
    refine ⟨j, h1, h3, h2, fun p hp => ?_⟩
    have h3 : mSc S j = i := h3
    unfold mSW
    rw [jup1_ne (by omega), ← h3]
    exact mSw_at hp h2 _ h1
  have slo : ∀ k, k < 25 → ¬ k = 0 → mSW S k = S k := fun k h1 h2 => (jup1_ne h2).trans (mSw_lo h1)
  obtain ⟨g1, g2, g3, g4⟩ := id hRK
  have o : ∀ a, ¬ a = x + 1 → ¬ (x + 1 + 4 ≤ a ∧ a < x + 1 + 4 + mSc S (mN S)) → (jwI (jmp (jHkeep σ (x + 33) (x + 1)) (x + 1) (mSc S (mN S)) (jvD (jHkeep σ (x + 33) (x + 1)) (x + 1))) (x + 1) 3 (nI (mSc S (mN S)))).1 a = (jHkeep σ (x + 33) (x + 1)).1 a := fun a h1 h2 => funext fun k => by rw [jI_wI, if_neg (fun z => h1 z.1), jmp_out (by omega)]
  have oh : ∀ k, ¬ k = 3 → (jwI (jmp (jHkeep σ (x + 33) (x + 1)) (x + 1) (mSc S (mN S)) (jvD (jHkeep σ (x + 33) (x + 1)) (x + 1))) (x + 1) 3 (nI (mSc S (mN S)))).1 (x + 1) k = (jHkeep σ (x + 33) (x + 1)).1 (x + 1) k := fun k h => by rw [jI_wI, if_neg (fun z => h z.2), jmp_h]
  refine ⟨⟨?_, ?_, ?_, ?_, ?_⟩, fun k hk => by rw [o _ (by omega) (by omega), slo _ (by omega) (by omega)]; exact g2 k hk, fun r hr p hp => by rw [o _ (by omega) (by omega), slo _ (by omega) (by omega)]; exact g3 r hr p hp, fun i hi => ?_⟩
  · rw [jI_wI, if_pos ⟨rfl, rfl⟩]; unfold mSW; rw [jup1_at]
  · rw [oh 4 (by decide), slo 3 (by decide) (by decide)]; exact g1.2.1
  · rw [oh 5 (by decide), slo 1 (by decide) (by decide)]; exact g1.2.2.1
  · rw [oh 6 (by decide), slo 2 (by decide) (by decide)]; exact g1.2.2.2.1
  · rw [oh 7 (by decide), slo 4 (by decide) (by decide)]; exact g1.2.2.2.2
  · rw [hN'] at hi
    obtain ⟨j, h1, h2, h3, h4⟩ := s9 i hi
    refine kRw_f (f := (jHkeep σ (x + 33) (x + 1)).1 (x + 1 + 4 + j)) (fun k hk => ?_) (kRw_g (g := fun p => S (25 + 9 * j + p)) h4 (g4 j h1))
    rw [jI_wI, if_neg (by omega), jmp_in hi hk]
    unfold jvD
    have e1 : jct (fun j => ¬ (jHkeep σ (x + 33) (x + 1)).1 (x + 1 + 4 + j) 4 = 2) j = i := (ecd j (by omega)).trans h2
    have e2 := jnth_at (p := fun j => ¬ (jHkeep σ (x + 33) (x + 1)).1 (x + 1 + 4 + j) 4 = 2) (i := j) (n := jn (jHkeep σ (x + 33) (x + 1)) (x + 1)) (by omega) (by rw [kf4 hRK h1]; exact h3)
    rw [e1] at e2
    rw [e2]
theorem kswp_I (hF : nF G c σ x S) : kI c (mSW S) := by
  have hR := hF.2.1
  have hI := hF.2.2
  have h24 := hI.1.2
  have hRK := kRK hF
  have hjn := kn hRK
  have ecd : ∀ i, i ≤ mN S → jct (fun j => ¬ (jHkeep σ (x + 33) (x + 1)).1 (x + 1 + 4 + j) 4 = 2) i = mSc S i := fun i hi => jct_cg fun j hj => by rw [kf4 hRK (by omega)]
  have hcle : mSc S (mN S) ≤ mN S := jct_le _ _
  have hcc : (nI (mSc S (mN S))).toNatClampNeg = mSc S (mN S) := nI_clamp (by omega)
  have hN' : mN (mSW S) = mSc S (mN S) := by unfold mN mSW; rw [jup1_at]; exact hcc
  have s9 : ∀ i, i < mSc S (mN S) → ∃ j, j < mN S ∧ mSc S j = i ∧ (¬ S (25 + 9 * j + 3) = 2) ∧ ∀ p, p < 9 → mSW S (25 + 9 * i + p) = S (25 + 9 * j + p) := by
    intro i hi
    obtain ⟨j, h1, h2, h3⟩ := jct_sur hi
    refine ⟨j, h1, h3, h2, fun p hp => ?_⟩
    have h3 : mSc S j = i := h3
    unfold mSW
    rw [jup1_ne (by omega), ← h3]
    exact mSw_at hp h2 _ h1
  have slo : ∀ k, k < 25 → ¬ k = 0 → mSW S k = S k := fun k h1 h2 => (jup1_ne h2).trans (mSw_lo h1)
  obtain ⟨hO, P, T, D, g1, g2, g3, g4, g5, g6, gr, g7, g8⟩ := hI
  have ek : ∀ i, i < mSc S (mN S) → ∃ j, j < mN S ∧ mSc S j = i ∧ kmk (mSW S) i = kmk S j ∧ mSW S (25 + 9 * i + 2) = S (25 + 9 * j + 2) := fun i hi => by
    obtain ⟨j, h1, h2, h3, h4⟩ := s9 i hi
    exact ⟨j, h1, h2, by unfold kmk; rw [h4 2 (by decide)], h4 2 (by decide)⟩
  refine ⟨⟨by rw [hN']; unfold mSW; rw [jup1_at], by rw [hN']; omega⟩, P, T, D, by rw [slo 1 (by decide) (by decide)]; exact g1, g2, by rw [slo 3 (by decide) (by decide)]; exact g3, g4, by rw [slo 5 (by decide) (by decide)]; exact g5, by rw [slo 8 (by decide) (by decide)]; exact g6, fun i hi => ?_, fun i hi => ?_, fun i i' hij hj => ?_⟩
  · rw [hN'] at hi
    obtain ⟨j, h1, h2, h3, h4⟩ := s9 i hi
    exact kRo_g (g := fun p => S (25 + 9 * j + p)) h4 (gr j h1)
  · rw [hN'] at hi
    obtain ⟨j, h1, h2, h3, h4⟩ := ek i hi
    rw [h3, h4]
    exact g7 j h1
  · rw [hN'] at hj
    obtain ⟨j, h1, h2, h3, h4⟩ := ek i (by omega)
    obtain ⟨j', h1', h2', h3', h4'⟩ := ek i' hj
    rw [h3, h3']
    refine g8 j j' ?_ h1'
    rcases Nat.lt_or_ge j j' with z | z
    · exact z
    · have : mSc S j' ≤ mSc S j := jct_mono _ z
      omega
theorem kswp_C (hF : nF G c σ x S) : kCop σ (jwI (jmp (jHkeep σ (x + 33) (x + 1)) (x + 1) (mSc S (mN S)) (jvD (jHkeep σ (x + 33) (x + 1)) (x + 1))) (x + 1) 3 (nI (mSc S (mN S)))) x := by
  have hR := hF.2.1
  have hI := hF.2.2
  have h24 := hI.1.2
  have hcle : mSc S (mN S) ≤ mN S := jct_le _ _
  exact kCop_w (kCop_c (kCop_K σ x) (jmp_2 _ _ _ _) (fun a h1 _ => funext fun k => jmp_out (by omega))) (by omega) (by omega)
theorem kswp_E (hF : nF G c σ x S) : Ff_X6_sweep G x σ = (.inl (some (.int (nI (jn (jHkeep σ (x + 33) (x + 1)) (x + 1)) - nI (mSc S (mN S))))), jwI (jmp (jHkeep σ (x + 33) (x + 1)) (x + 1) (mSc S (mN S)) (jvD (jHkeep σ (x + 33) (x + 1)) (x + 1))) (x + 1) 3 (nI (mSc S (mN S)))) := by
  have hR := hF.2.1
  have hI := hF.2.2
  have h24 := hI.1.2
  have hRK := kRK hF
  have hjn := kn hRK
  have ecd : ∀ i, i ≤ mN S → jct (fun j => ¬ (jHkeep σ (x + 33) (x + 1)).1 (x + 1 + 4 + j) 4 = 2) i = mSc S i := fun i hi => jct_cg fun j hj => by rw [kf4 hRK (by omega)]
  unfold Ff_X6_sweep Ff_X5_dropDoneRows
  rw [ecd _ (by omega), hjn]
theorem ktk {κ : jgS} {p : Nat} {s : jLS} {T : mTT} (hR : kR κ (x + 1) S) (h24 : mN S ≤ 24) (hL : kLT S p (mTot S) s T) : kR (jsS (jwL κ (x + 232) s) (x + 1) (x + 232) (nI p) (mN S)) (x + 1) (jup1 T.1 4 (T.1 4 + T.2.2.2)) := by
  obtain ⟨⟨a1, a2, a3⟩, t1, t2, t3, t4, t5⟩ := hL
  obtain ⟨g1, g2, g3, g4⟩ := hR
  have l0 : (jwL κ (x + 232) s).1 (x + 232) 0 = s.1 := (if_pos ⟨rfl, by decide⟩).trans (if_pos rfl)
  have l2 : (jwL κ (x + 232) s).1 (x + 232) 2 = s.2.2.1 := (if_pos ⟨rfl, by decide⟩).trans ((if_neg (by decide)).trans ((if_neg (by decide)).trans (if_pos rfl)))
  have lo : ∀ a k, ¬ a = x + 232 → (jwL κ (x + 232) s).1 a k = κ.1 a k := fun a k h => jwL_out h
  have lo1 : ∀ k, k < 25 → ¬ k = 4 → jup1 T.1 4 (T.1 4 + T.2.2.2) k = S k := fun k h1 h2 => (jup1_ne h2).trans (t1 k h1)
  have hN : mN (jup1 T.1 4 (T.1 4 + T.2.2.2)) = mN S := by unfold mN; rw [lo1 0 (by decide) (by decide)]
  have htk : ∀ j, j < 24 → (((jwL κ (x + 232) s).1 (x + 232) 0 >>> (nI j &&& 31)) &&& 1 = 1 ↔ bt s.1 j = true) := fun j hj => by rw [l0]; exact b_tst _ hj
  have hsk : ∀ j, j < 24 → (((jwL κ (x + 232) s).1 (x + 232) 2 >>> (nI j &&& 31)) &&& 1 = 1 ↔ bt s.2.2.1 j = true) := fun j hj => by rw [l2]; exact b_tst _ hj
  refine ⟨⟨?_, ?_, ?_, ?_, ?_⟩, fun k hk => ?_, fun r hr q hq => ?_, fun i hi => ?_⟩
  · rw [jsS_h _ _ _ _ _ _ (by decide), lo _ _ (by omega), lo1 0 (by decide) (by decide)]; exact g1.1
  · rw [jsS_h _ _ _ _ _ _ (by decide), lo _ _ (by omega), lo1 3 (by decide) (by decide)]; exact g1.2.1
  · rw [jsS_h _ _ _ _ _ _ (by decide), lo _ _ (by omega), lo1 1 (by decide) (by decide)]; exact g1.2.2.1
  · rw [jsS_h _ _ _ _ _ _ (by decide), lo _ _ (by omega), lo1 2 (by decide) (by decide)]; exact g1.2.2.2.1
  · rw [jsS_h7, lo _ _ (by omega), jup1_at, t1 4 (by decide), ← a3, t5, g1.2.2.2.2]
    refine congrArg (fun z => S 4 + nI z) (jct_cg fun j hj => ?_)
    rw [htk j (by omega), hsk j (by omega)]
  · rw [jsS_3, lo _ _ (by omega), lo1 _ (by omega) (by omega)]; exact g2 k hk
  · have e : (jsS (jwL κ (x + 232) s) (x + 1) (x + 232) (nI p) (mN S)).1 (x + 1 + 28 + r) q = (jwL κ (x + 232) s).1 (x + 1 + 28 + r) q := by
      unfold jsS
      rw [jmp_out (by omega), jI_wI, if_neg (by omega)]
    rw [e, lo _ _ (by omega), lo1 _ (by omega) (by omega)]; exact g3 r hr q hq
  · rw [hN] at hi
    have er : ∀ k, k < 9 → (jsS (jwL κ (x + 232) s) (x + 1) (x + 232) (nI p) (mN S)).1 (x + 1 + 4 + i) k = jvS (jwL κ (x + 232) s) (x + 1) (x + 232) (nI p) i k := fun k hk => jmp_in hi hk
    have es : ∀ q, q < 9 → jup1 T.1 4 (T.1 4 + T.2.2.2) (25 + 9 * i + q) = kLc S p s i q := fun q hq => (jup1_ne (by omega)).trans (t2 i q (by omega) hq)
    have hrow := g4 i hi
    by_cases h1 : bt s.1 i = true
    · have h1' := (htk i (by omega)).mpr h1
      have ev : ∀ k, jvS (jwL κ (x + 232) s) (x + 1) (x + 232) (nI p) i k = if k = 4 then 1 else if k = 5 then nI p else if k = 6 then S 3 + S 5 else κ.1 (x + 1 + 4 + i) k := fun k => by
        unfold jvS
        rw [if_pos h1', lo _ _ (by omega), lo _ _ (by omega), lo _ _ (by omega), g1.2.1, g2 0 (by decide)]
      have ec : ∀ q, kLc S p s i q = if q = 3 then 1 else if q = 4 then nI p else if q = 5 then S 3 + S 5 else S (25 + 9 * i + q) := fun q => if_pos h1
      obtain ⟨r0, r1, r2, r3, r4, r5, r6, r7, r8⟩ := hrow
      refine kRw_g (g := fun q => if q = 3 then 1 else if q = 4 then nI p else if q = 5 then S 3 + S 5 else S (25 + 9 * i + q)) (fun q hq => (es q hq).trans (ec q)) (kRw_f (f := fun k => if k = 4 then 1 else if k = 5 then nI p else if k = 6 then S 3 + S 5 else κ.1 (x + 1 + 4 + i) k) (fun k hk => (er k hk).trans (ev k)) ?_)
      exact ⟨r0, r1, r2, r3, rfl, rfl, rfl, r7, r8⟩
    · have h1' := fun z => h1 ((htk i (by omega)).mp z)
      by_cases h2 : bt s.2.2.1 i = true
      · have h2' := (hsk i (by omega)).mpr h2
        have ev : ∀ k, jvS (jwL κ (x + 232) s) (x + 1) (x + 232) (nI p) i k = if k = 8 then κ.1 (x + 1 + 4 + i) 8 + 1 else κ.1 (x + 1 + 4 + i) k := fun k => by
          unfold jvS
          rw [if_neg h1', if_pos h2', lo _ _ (by omega), lo _ _ (by omega)]
        have ec : ∀ q, kLc S p s i q = if q = 7 then S (25 + 9 * i + 7) + 1 else S (25 + 9 * i + q) := fun q => by
          unfold kLc
          rw [if_neg h1]
          by_cases z : q = 7
          · rw [if_pos ⟨h2, z⟩, if_pos z]
          · rw [if_neg (fun y => z y.2), if_neg z]
        obtain ⟨r0, r1, r2, r3, r4, r5, r6, r7, r8⟩ := hrow
        refine kRw_g (g := fun q => if q = 7 then S (25 + 9 * i + 7) + 1 else S (25 + 9 * i + q)) (fun q hq => (es q hq).trans (ec q)) (kRw_f (f := fun k => if k = 8 then κ.1 (x + 1 + 4 + i) 8 + 1 else κ.1 (x + 1 + 4 + i) k) (fun k hk => (er k hk).trans (ev k)) ?_)
        exact ⟨r0, r1, r2, r3, r4, r5, r6, r7, congrArg (fun z => z + 1) r8⟩
      · have h2' := fun z => h2 ((hsk i (by omega)).mp z)
        refine kRw_g (g := fun q => S (25 + 9 * i + q)) (fun q hq => (es q hq).trans ?_) (kRw_f (f := κ.1 (x + 1 + 4 + i)) (fun k hk => (er k hk).trans ?_) hrow)
        · unfold kLc
          rw [if_neg h1, if_neg (fun z => h2 z.1)]
        · unfold jvS
          rw [if_neg h1', if_neg h2', lo _ _ (by omega)]
theorem ktkI {p : Nat} {s : jLS} {T : mTT} (hc : c ≤ 600) (hI : kI c S) (hp : p < 4) (hL : kLT S p (mTot S) s T) : kI (c + 1) (jup1 T.1 4 (T.1 4 + T.2.2.2)) := by
  obtain ⟨⟨a1, a2, a3⟩, t1, t2, t3, t4, t5⟩ := hL
  obtain ⟨hO, P, Tm, D, g1, g2, g3, g4, g5, g6, gr, g7, g8⟩ := hI
  have h24 := hO.2
  have lo1 : ∀ k, k < 25 → ¬ k = 4 → jup1 T.1 4 (T.1 4 + T.2.2.2) k = S k := fun k h1 h2 => (jup1_ne h2).trans (t1 k h1)
  have hN : mN (jup1 T.1 4 (T.1 4 + T.2.2.2)) = mN S := by unfold mN; rw [lo1 0 (by decide) (by decide)]
  have es : ∀ i q, i < mN S → q < 9 → jup1 T.1 4 (T.1 4 + T.2.2.2) (25 + 9 * i + q) = kLc S p s i q := fun i q hi hq => (jup1_ne (by omega)).trans (t2 i q (by omega) hq)
  have ec2 : ∀ i q, ¬ q = 3 → ¬ q = 4 → ¬ q = 5 → ¬ q = 7 → kLc S p s i q = S (25 + 9 * i + q) := fun i q h3 h4 h5 h7 => by
    unfold kLc
    by_cases z : bt s.1 i = true
    · rw [if_pos z, if_neg h3, if_neg h4, if_neg h5]
    · rw [if_neg z, if_neg (fun y => h7 y.2)]
  have ek : ∀ i, i < mN S → kmk (jup1 T.1 4 (T.1 4 + T.2.2.2)) i = kmk S i := fun i hi => by unfold kmk; rw [es i 2 hi (by decide), ec2 i 2 (by decide) (by decide) (by decide) (by decide)]
  refine ⟨⟨by rw [hN, lo1 0 (by decide) (by decide)]; exact hO.1, by rw [hN]; exact hO.2⟩, P, Tm, D, by rw [lo1 1 (by decide) (by decide)]; exact g1, by omega, by rw [lo1 3 (by decide) (by decide)]; exact g3, g4, by rw [lo1 5 (by decide) (by decide)]; exact g5, by rw [lo1 8 (by decide) (by decide)]; exact g6, fun i hi => ?_, fun i hi => ?_, fun i j hij hj => ?_⟩
  · rw [hN] at hi
    refine kRo_g (g := kLc S p s i) (fun q hq => es i q hi hq) ?_
    obtain ⟨r0, r1, r3, rh, r7⟩ := gr i hi
    have e0 := ec2 i 0 (by decide) (by decide) (by decide) (by decide)
    have e1 := ec2 i 1 (by decide) (by decide) (by decide) (by decide)
    unfold kRo
    rw [e0, e1]
    by_cases h1 : bt s.1 i = true
    · have e3 : kLc S p s i 3 = 1 := (if_pos h1).trans (if_pos rfl)
      have e4 : kLc S p s i 4 = nI p := (if_pos h1).trans ((if_neg (by decide)).trans (if_pos rfl))
      have e5 : kLc S p s i 5 = nI (Tm + D) := (if_pos h1).trans ((if_neg (by decide)).trans ((if_neg (by decide)).trans ((if_pos rfl).trans (by rw [g3, g5.1, nI_add]))))
      have e7 : kLc S p s i 7 = S (25 + 9 * i + 7) := (if_pos h1).trans ((if_neg (by decide)).trans ((if_neg (by decide)).trans (if_neg (by decide))))
      rw [e3, e4, e5, e7]
      exact ⟨r0, r1, vp_in_nI (n := 1) (by decide) (by decide), fun _ => ⟨vp_in_nI hp (by decide), Tm + D, rfl, by omega, by omega⟩, vp_in_mono (by omega) r7⟩
    · have eo : ∀ q, ¬ q = 7 → kLc S p s i q = S (25 + 9 * i + q) := fun q h7 => by
        unfold kLc
        rw [if_neg h1, if_neg (fun z => h7 z.2)]
      rw [eo 3 (by decide), eo 4 (by decide), eo 5 (by decide)]
      refine ⟨r0, r1, r3, rh, ?_⟩
      unfold kLc
      rw [if_neg h1]
      by_cases h2 : bt s.2.2.1 i = true
      · rw [if_pos ⟨h2, rfl⟩]
        obtain ⟨m, hm, em⟩ := vp_in_of r7 (by omega)
        have em : S (25 + 9 * i + 7) = nI m := em
        rw [em, nI_1]
        exact vp_in_nI (by omega) (by omega)
      · rw [if_neg (fun z => h2 z.1)]
        exact vp_in_mono (by omega) r7
  · rw [hN] at hi
    rw [ek i hi, es i 2 hi (by decide), ec2 i 2 (by decide) (by decide) (by decide) (by decide)]
    exact g7 i hi
  · rw [hN] at hj
    rw [ek i (by omega), ek j hj]
    exact g8 i j hij hj
end KC2
