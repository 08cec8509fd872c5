/-! the calls that change the table, both sides -/
theorem kro {S : Nat → Int32} (hO : mOk S) (v : Int32) : (v < 0 ∨ ¬ v < S 0) ↔ ¬ (¬ v < 0 ∧ ¬ S 0 - 1 < v) := by
  obtain ⟨hn, h24⟩ := hO
  by_cases h0 : v < 0
  · exact ⟨fun _ z => z.1 h0, fun _ => Or.inl h0⟩
  · obtain ⟨j, hj, rfl⟩ := nI_of h0
    have e : S 0 - 1 < nI j ↔ ¬ nI j < S 0 := by
      rw [hn, nI_ltI hj (by omega)]
      rcases Nat.eq_zero_or_pos (mN S) with z | z
      · rw [z]
        refine ⟨fun _ => by omega, fun _ => ?_⟩
        show (-1 : Int32) < nI j
        rw [Int32.lt_iff_toInt_lt, nI_toInt hj]
        have : (-1 : Int32).toInt = -1 := by decide
        omega
      · obtain ⟨y, hy⟩ : ∃ y, mN S = y + 1 := ⟨mN S - 1, by omega⟩
        rw [hy, nI_pred, nI_ltI (by omega) hj]
        omega
    constructor
    · intro z y
      rcases z with z | z
      · exact h0 z
      · exact y.2 (e.mpr z)
    · intro z
      exact Or.inr (fun y => z ⟨h0, fun w => e.mp w y⟩)
theorem kro_q {S : Nat → Int32} (hO : mOk S) {v : Int32} (h : ¬ (v < 0 ∨ ¬ v < S 0)) : ∃ q, q < mN S ∧ v = nI q ∧ v.toNatClampNeg = q := by
  have h2 : ¬ v < 0 ∧ ¬ S 0 - 1 < v := Classical.byContradiction fun z => h ((kro hO v).mpr z)
  obtain ⟨q, hq, rfl⟩ := vp_in_of (mrow_in hO h2) (by have := hO.2; omega)
  exact ⟨q, hq, rfl, nI_clamp (by have := hO.2; omega)⟩
def kIb (c b : Nat) (S : Nat → Int32) : Prop := mOk S ∧ ∃ P T D : Nat, S 1 = nI P ∧ P ≤ b ∧ S 3 = nI T ∧ T ≤ 9999 ∧ (S 5 = nI D ∧ 1 ≤ D ∧ D ≤ 99) ∧ vp_in (S 8) 25 ∧ (∀ i, i < mN S → kRo c T (fun p => S (25 + 9 * i + p))) ∧ (∀ i, i < mN S → S (25 + 9 * i + 2) = nI (kmk S i) ∧ kmk S i < P) ∧ ∀ i j, i < j → j < mN S → kmk S i < kmk S j
theorem kIb_I {c b : Nat} {S : Nat → Int32} (hb : b ≤ 24 * c + 24) (h : kIb c b S) : kI (c + 1) S := by
  obtain ⟨hO, P, T, D, h1, h2, h3, h4, h5, h6, hr, h7, h8⟩ := h
  exact ⟨hO, P, T, D, h1, by omega, h3, h4, h5, h6, fun i hi => ⟨(hr i hi).1, (hr i hi).2.1, (hr i hi).2.2.1, (hr i hi).2.2.2.1, vp_in_mono (by omega) (hr i hi).2.2.2.2⟩, h7, h8⟩
theorem mPut_r {S : Nat → Int32} {k u : Int32} {p : Nat} (hp : p < 9) : mPut S k u (25 + 9 * mN S + p) = if p = 0 then k else if p = 1 then u else if p = 2 then S 1 else if p = 8 then S 3 else 0 := by
  unfold mPut
  rw [if_neg (by omega), if_neg (by omega), if_pos (by omega), show 25 + 9 * mN S + p - (25 + 9 * mN S) = p by omega]
theorem mPut_o {S : Nat → Int32} {k u : Int32} {a : Nat} (h0 : ¬ a = 0) (h1 : ¬ a = 1) (h2 : ¬ (25 + 9 * mN S ≤ a ∧ a < 25 + 9 * mN S + 9)) : mPut S k u a = S a := by
  unfold mPut
  rw [if_neg h0, if_neg h1, if_neg h2]
theorem kAdd_R {τ : jgS} {h : Nat} {S : Nat → Int32} {k u : Int32} (hR : kR τ h S) (hO : mOk S) (hn : mN S < 24) : kR (jAdd τ h k u) h (mPut S k u) := by
  obtain ⟨hN, _⟩ := mPut_N k u hO hn
  have en := kn hR
  have row : ∀ a j, ¬ a = h → ¬ (a = h + 4 + mN S ∧ j < 9) → (jAdd τ h k u).1 a j = τ.1 a j := fun a j h1 h2 => by
    unfold jAdd
    rw [jI_wI, if_neg (fun z => h1 z.1), jI_wI, if_neg (fun z => h1 z.1), en, jbg_out h2]
  have hh : ∀ j, ¬ j = 3 → ¬ j = 5 → (jAdd τ h k u).1 h j = τ.1 h j := fun j h1 h2 => by
    unfold jAdd
    rw [jI_wI, if_neg (fun z => h2 z.2), jI_wI, if_neg (fun z => h1 z.2), jbg_out (by omega)]
  have h3 : (jAdd τ h k u).1 h 3 = nI (mN S) + 1 := by
    unfold jAdd
    rw [jI_wI, if_neg (by omega), jI_wI, if_pos ⟨rfl, rfl⟩, en]
  have h5 : (jAdd τ h k u).1 h 5 = τ.1 h 5 + 1 := by
    unfold jAdd
    rw [jI_wI, if_pos ⟨rfl, rfl⟩]
  have new : ∀ j, j < 9 → (jAdd τ h k u).1 (h + 4 + mN S) j = if j = 0 then k else if j = 1 then u else if j = 2 then τ.1 h 5 else if j = 3 then τ.1 h 4 else if j = 4 then 0 else if j = 5 then -1 else if j = 6 then -1 else 0 := fun j hj => by
    unfold jAdd
    rw [jI_wI, if_neg (by omega), jI_wI, if_neg (by omega), en]
    exact if_pos ⟨rfl, hj⟩
  obtain ⟨g1, g2, g3, g4⟩ := hR
  refine ⟨⟨?_, ?_, ?_, ?_, ?_⟩, fun s hs => ?_, fun r hr p hp => ?_, fun i hi => ?_⟩
  · rw [h3, ← hO.1]; rfl
  · rw [hh 4 (by decide) (by decide), mPut_o (by decide) (by decide) (by omega)]; exact g1.2.1
  · rw [h5, g1.2.2.1]; rfl
  · rw [hh 6 (by decide) (by decide), mPut_o (by decide) (by decide) (by omega)]; exact g1.2.2.2.1
  · rw [hh 7 (by decide) (by decide), mPut_o (by decide) (by decide) (by omega)]; exact g1.2.2.2.2
  · rw [row _ _ (by omega) (by omega), mPut_o (by omega) (by omega) (by omega)]; exact g2 s hs
  · rw [row _ _ (by omega) (by omega), mPut_o (by omega) (by omega) (by omega)]; exact g3 r hr p hp
  · rw [hN] at hi
    by_cases e : i = mN S
    · subst e
      unfold kRw
      rw [new 0 (by decide), new 1 (by decide), new 2 (by decide), new 3 (by decide), new 4 (by decide), new 5 (by decide), new 6 (by decide), new 7 (by decide), new 8 (by decide)]
      dsimp only
      rw [mPut_r (p := 0) (by decide), mPut_r (p := 1) (by decide), mPut_r (p := 2) (by decide), mPut_r (p := 8) (by decide), mPut_r (p := 6) (by decide), mPut_r (p := 7) (by decide)]
      have e3 : mPut S k u (25 + 9 * mN S + 3) = 0 := mPut_r (p := 3) (by decide)
      rw [if_neg (show ¬ mPut S k u (25 + 9 * mN S + 3) = 1 from by rw [e3]; decide), if_neg (show ¬ mPut S k u (25 + 9 * mN S + 3) = 1 from by rw [e3]; decide), e3]
      exact ⟨rfl, rfl, g1.2.2.1, g1.2.1, rfl, rfl, rfl, rfl, rfl⟩
    · refine kRw_f (f := τ.1 (h + 4 + i)) (fun p hp => row _ _ (by omega) (by omega)) ?_
      exact kRw_g (g := fun p => S (25 + 9 * i + p)) (fun p hp => mPut_o (by omega) (by omega) (by omega)) (g4 i (by omega))
theorem kAdd_I {c b : Nat} {S : Nat → Int32} {k u : Int32} (hI : kIb c b S) (hn : mN S < 24) (hb : b ≤ 100000) (hk : vp_in k 8) (hu : vp_in u 10) : kIb c (b + 1) (mPut S k u) := by
  obtain ⟨hO, P, T, D, g1, g2, g3, g4, g5, g6, gr, g7, g8⟩ := hI
  obtain ⟨hN, hO'⟩ := mPut_N k u hO hn
  have old : ∀ i p, i < mN S → p < 9 → mPut S k u (25 + 9 * i + p) = S (25 + 9 * i + p) := fun i p hi hp => mPut_o (by omega) (by omega) (by omega)
  have ek : ∀ i, i < mN S → kmk (mPut S k u) i = kmk S i := fun i hi => by unfold kmk; rw [old i 2 hi (by decide)]
  have e2 : mPut S k u (25 + 9 * mN S + 2) = nI P := (mPut_r (by decide)).trans g1
  have ekn : kmk (mPut S k u) (mN S) = P := by unfold kmk; rw [e2]; exact nI_clamp (by omega)
  refine ⟨hO', P + 1, T, D, ?_, by omega, by rw [mPut_o (by decide) (by decide) (by omega)]; exact g3, g4, by rw [mPut_o (by decide) (by decide) (by omega)]; exact g5, by rw [mPut_o (by decide) (by decide) (by omega)]; exact g6, fun i hi => ?_, fun i hi => ?_, fun i j hij hj => ?_⟩
  · show S 1 + 1 = _
    rw [g1, nI_1]
  · rw [hN] at hi
    by_cases e : i = mN S
    · subst e
      have e3 : mPut S k u (25 + 9 * mN S + 3) = 0 := mPut_r (p := 3) (by decide)
      refine ⟨show vp_in (mPut S k u (25 + 9 * mN S + 0)) 8 from by rw [mPut_r (by decide)]; exact hk, show vp_in (mPut S k u (25 + 9 * mN S + 1)) 10 from by rw [mPut_r (by decide)]; exact hu, show vp_in (mPut S k u (25 + 9 * mN S + 3)) 4 from by rw [e3]; exact vp_in_nI (n := 0) (by decide) (by decide), fun z => ?_, show vp_in (mPut S k u (25 + 9 * mN S + 7)) (c + 1) from ?_⟩
      · have z : mPut S k u (25 + 9 * mN S + 3) = 1 := z
        rw [e3] at z
        exact absurd z (by decide)
      · have e7 : mPut S k u (25 + 9 * mN S + 7) = 0 := mPut_r (p := 7) (by decide)
        rw [e7]
        exact vp_in_mono (Nat.succ_le_succ (Nat.zero_le c)) (vp_in_nI (n := 0) (N := 1) (by decide) (by decide))
    · exact kRo_g (g := fun p => S (25 + 9 * i + p)) (fun p hp => old i p (by omega) hp) (gr i (by omega))
  · rw [hN] at hi
    by_cases e : i = mN S
    · subst e
      rw [ekn]
      exact ⟨e2, by omega⟩
    · rw [ek i (by omega), old i 2 (by omega) (by decide)]
      exact ⟨(g7 i (by omega)).1, by have := (g7 i (by omega)).2; omega⟩
  · rw [hN] at hj
    by_cases e : j = mN S
    · subst e
      rw [ekn, ek i hij]
      exact (g7 i hij).2
    · rw [ek i (by omega), ek j (by omega)]
      exact g8 i j hij (by omega)
theorem kvp {v : Int32} {m : Nat} (h : ¬ (v < 0 ∨ nI m < v)) (hm : m < 1000) : vp_in v (m + 1) := by
  obtain ⟨w', hw, rfl⟩ := nI_of2 (M := nI m) (n := m) (by rw [nI_toInt (by omega)]) (fun z => h (Or.inl z)) (ji_le.mpr fun z => h (Or.inr z))
  exact vp_in_nI (by omega) (by omega)
section KC
variable {G : jgG} {c x : Nat} {σ : jgS}
/-- the reference's state is still the one before -/
theorem kS1 {σ1 : jgS} (hF : kF G c σ x) (hC : kCop σ σ1 x) : σ1.1 (x + 233 + 1) = σ.1 (x + 233 + 1) := by
  have hn : jn σ (x + 1) ≤ 24 := hF.1.2.1.2.2
  rw [hC.2 _ (by omega) (by omega)]
  exact funext fun k => jHk_out hn (by omega) (by omega)
theorem kc_put (hF : kF G c σ x) (hc : c ≤ 600) (k u : Int32) : kRes G (c + 1) σ x ["java/lang/IllegalArgumentException", "java/lang/IllegalStateException"] (Ff_X6_put G x k u σ) (Ff_X7_put G (x + 233) k u (Ff_X6_put G x k u σ).2) := by
  have hR := hF.2.2.1
  have hI := hF.2.2.2.1
  unfold Ff_X6_put
  by_cases c1 : k < 0 ∨ 7 < k
  · rw [if_pos c1]
    unfold Ff_X7_put
    rw [if_pos (Or.inl (fun z => c1.elim z.1 z.2))]
    exact kTh (i := 0) hF rfl rfl
  rw [if_neg c1]
  by_cases c2 : u < 0 ∨ 9 < u
  · rw [if_pos c2]
    unfold Ff_X7_put
    rw [if_pos (Or.inr (fun z => c2.elim z.1 z.2))]
    exact kTh (i := 0) hF rfl rfl
  rw [if_neg c2]
  have nc : ¬ (¬ (¬ k < 0 ∧ ¬ 7 < k) ∨ ¬ (¬ u < 0 ∧ ¬ 9 < u)) := fun z => z.elim (fun y => y ⟨fun w => c1 (Or.inl w), fun w => c1 (Or.inr w)⟩) (fun y => y ⟨fun w => c2 (Or.inl w), fun w => c2 (Or.inr w)⟩)
  have e24 : 24 < σ.1 (x + 1) 3 + 1 ↔ σ.1 (x + 233 + 1) 0 = 24 := by
    rw [hR.1.1, hI.1.1, nI_1, show (24 : Int32) = nI 24 from rfl, nI_ltI (by decide) (by have := hI.1.2; omega)]
    constructor
    · intro z
      rw [show mN (σ.1 (x + 233 + 1)) = 24 by have := hI.1.2; omega]
    · intro z
      have := nI_inj (by have := hI.1.2; omega) (by decide) z
      omega
  by_cases c3 : 24 < σ.1 (x + 1) 3 + 1
  · rw [if_pos c3]
    unfold Ff_X7_put
    rw [if_neg nc, if_pos (show (jwh σ 6).1 (x + 233 + 1) 0 = 24 from e24.mp c3)]
    exact kTh (i := 1) hF rfl rfl
  rw [if_neg c3]
  have hC : kCop σ (jAdd (jHkeep σ (x + 33) (x + 1)) (x + 1) k u) x := by
    have hRK := kRK hF
    have hlt := mN_lt hI.1 (fun z => c3 (e24.mpr z))
    refine kCop_c (kCop_K σ x) rfl (fun a h1 h2 => funext fun j => ?_)
    unfold jAdd
    rw [jI_wI, if_neg (by omega), jI_wI, if_neg (by omega), jbg_out (by rw [kn hRK]; omega)]
  have eS := kS1 hF hC
  have hlt := mN_lt hI.1 (fun z => c3 (e24.mpr z))
  show kRes G (c + 1) σ x _ (.inl (some (.int (nI (jn σ (x + 1)) + 1 - 1))), jAdd (jHkeep σ (x + 33) (x + 1)) (x + 1) k u) (Ff_X7_put G (x + 233) k u (jAdd (jHkeep σ (x + 33) (x + 1)) (x + 1) k u))
  unfold Ff_X7_put
  rw [if_neg nc, eS, if_neg (fun z => c3 (e24.mpr z))]
  refine kOp hF hC (kMop_S _ _ _) (kAdd_R (kRK hF) hI.1 hlt) (kIb_I (b := 24 * c + 1) (by omega) (kAdd_I hI hlt (by omega) (kvp (m := 7) c1 (by decide)) (kvp (m := 9) c2 (by decide)))) ?_
  rw [kn hR, nI_1, nI_pred]
  exact hI.1.1.symm
theorem kc_urge (hF : kF G c σ x) (v u : Int32) : kRes G (c + 1) σ x ["java/lang/IndexOutOfBoundsException", "java/lang/IllegalArgumentException", "java/lang/IllegalStateException"] (Ff_X6_urge G x v u σ) (Ff_X7_urge G (x + 233) v u (Ff_X6_urge G x v u σ).2) := by
  have hR := hF.2.2.1
  have hI := hF.2.2.2.1
  have h24 := hI.1.2
  unfold Ff_X6_urge
  by_cases c1 : v < 0 ∨ ¬ v < σ.1 (x + 1) 3
  · rw [if_pos c1]
    unfold Ff_X7_urge
    rw [if_pos (show ¬ (¬ v < 0 ∧ ¬ (jwh σ 6).1 (x + 233 + 1) 0 - 1 < v) from (kro hI.1 v).mp (by rw [← hR.1.1]; exact c1))]
    exact kTh (i := 0) hF rfl rfl
  rw [if_neg c1]
  have n1 : ¬ ¬ (¬ v < 0 ∧ ¬ σ.1 (x + 233 + 1) 0 - 1 < v) := fun z => c1 (by rw [hR.1.1]; exact (kro hI.1 v).mpr z)
  by_cases c2 : u < 0 ∨ 9 < u
  · rw [if_pos c2]
    unfold Ff_X7_urge
    rw [if_neg (show ¬ ¬ (¬ v < 0 ∧ ¬ (jwh σ 6).1 (x + 233 + 1) 0 - 1 < v) from n1), if_pos (fun z => c2.elim z.1 z.2)]
    exact kTh (i := 1) hF rfl rfl
  rw [if_neg c2]
  have n2 : ¬ ¬ (¬ u < 0 ∧ ¬ 9 < u) := fun z => z ⟨fun w => c2 (Or.inl w), fun w => c2 (Or.inr w)⟩
  obtain ⟨q, hq, rfl, hqc⟩ := kro_q hI.1 (v := v) (by rw [← hR.1.1]; exact c1)
  rw [hqc]
  have hop := kop hR hI hq
  by_cases c3 : σ.1 (x + 1 + 4 + q) 4 = 0 ∨ σ.1 (x + 1 + 4 + q) 4 = 1
  · rw [if_pos c3]
    have hC : kCop σ (jwI (jHkeep σ (x + 33) (x + 1)) (x + 1 + 4 + q) 1 u) x := kCop_w (kCop_K σ x) (by omega) (by omega)
    have eS := kS1 hF hC
    show kRes G (c + 1) σ x _ _ (Ff_X7_urge G (x + 233) (nI q) u (jwI (jHkeep σ (x + 33) (x + 1)) (x + 1 + 4 + q) 1 u))
    unfold Ff_X7_urge
    rw [eS, hqc, if_neg n1, if_neg n2, if_pos (hop.mp c3)]
    have hu := kvp (m := 9) c2 (by decide)
    refine kOp hF hC (kMop_S _ _ _) (kR_row (kRK hF) hq h24 (fun a _ _ ha => funext fun k => by rw [jI_wI, if_neg (fun z => ha z.1)]) (fun k hk => jup1_ne (by omega)) ?_) (kI_mono (Nat.le_succ c) (kI_row hI hq (fun k hk => jup1_ne (by omega)) (jup1_ne (by omega)) (fun T _ _ hr => ?_))) (kf1 hR hq)
    · have hr := (kRK hF).2.2.2 q hq
      unfold kRw at *
      simp only [jI_wI, true_and]
      simp only [jup1, show ¬ (0 : Nat) = 1 from by decide, show ¬ (2 : Nat) = 1 from by decide, show ¬ (3 : Nat) = 1 from by decide, show ¬ (4 : Nat) = 1 from by decide, show ¬ (5 : Nat) = 1 from by decide, show ¬ (6 : Nat) = 1 from by decide, show ¬ (7 : Nat) = 1 from by decide, show ¬ (8 : Nat) = 1 from by decide, Nat.add_left_cancel_iff, if_false, if_true]
      exact ⟨hr.1, trivial, hr.2.2⟩
    · obtain ⟨r0, r1, r3, rh, r7⟩ := hr
      have o : ∀ p, ¬ p = 1 → jup1 (σ.1 (x + 233 + 1)) (25 + 9 * q + 1) u (25 + 9 * q + p) = σ.1 (x + 233 + 1) (25 + 9 * q + p) := fun p hp => jup1_ne (by omega)
      unfold kRo
      dsimp only
      rw [o 0 (by decide), o 3 (by decide), o 4 (by decide), o 5 (by decide), o 7 (by decide), jup1_at]
      exact ⟨r0, hu, r3, rh, r7⟩
  · rw [if_neg c3]
    show kRes G (c + 1) σ x _ _ (Ff_X7_urge G (x + 233) (nI q) u (jwh σ 6))
    unfold Ff_X7_urge
    rw [hqc, if_neg (show ¬ ¬ (¬ nI q < 0 ∧ ¬ (jwh σ 6).1 (x + 233 + 1) 0 - 1 < nI q) from n1), if_neg n2, if_neg (show ¬ ¬ 1 < (jwh σ 6).1 (x + 233 + 1) (25 + 9 * q + 3) from fun z => c3 (hop.mpr z))]
    exact kTh (i := 2) hF rfl rfl
end KC
