/-! the whole relation; what is saved -/
theorem mN_g {S S' : Nat → Int32} (e : ∀ k, k < 241 → S' k = S k) : mN S' = mN S := by unfold mN; rw [e 0 (by decide)]
theorem kRo_g {c T : Nat} {g g' : Nat → Int32} (e : ∀ p, p < 9 → g' p = g p) (h : kRo c T g) : kRo c T g' := by
  unfold kRo at *
  rw [e 0 (by decide), e 1 (by decide), e 3 (by decide), e 4 (by decide), e 5 (by decide), e 7 (by decide)]
  exact h
theorem kR_g {σ : jgS} {h : Nat} {S S' : Nat → Int32} (hn : mN S ≤ 24) (e : ∀ k, k < 241 → S' k = S k) (hR : kR σ h S) : kR σ h S' := by
  obtain ⟨h1, h2, h3, h4⟩ := hR
  refine ⟨by rw [e 0 (by decide), e 1 (by decide), e 2 (by decide), e 3 (by decide), e 4 (by decide)]; exact h1, fun k hk => (h2 k hk).trans (e _ (by omega)).symm, fun r hr p hp => (h3 r hr p hp).trans (e _ (by omega)).symm, fun i hi => ?_⟩
  rw [mN_g e] at hi
  exact kRw_g (g := fun p => S (25 + 9 * i + p)) (fun p hp => e _ (by omega)) (h4 i hi)
theorem kI_g {c : Nat} {S S' : Nat → Int32} (e : ∀ k, k < 241 → S' k = S k) (hI : kI c S) : kI c S' := by
  obtain ⟨hO, P, T, D, h1, h2, h3, h4, h5, h6, hr, h7, h8⟩ := hI
  have hn := mN_g e
  have h24 := hO.2
  have ek : ∀ i, i < mN S → kmk S' i = kmk S i := fun i hi => by unfold kmk; rw [e _ (by omega)]
  refine ⟨⟨by rw [hn, e 0 (by decide)]; exact hO.1, by rw [hn]; exact h24⟩, P, T, D, by rw [e 1 (by decide)]; exact h1, h2, by rw [e 3 (by decide)]; exact h3, h4, by rw [e 5 (by decide)]; exact h5, by rw [e 8 (by decide)]; exact h6, fun i hi => ?_, fun i hi => ?_, fun i j hij hj => ?_⟩
  · rw [hn] at hi
    exact kRo_g (g := fun p => S (25 + 9 * i + p)) (fun p hp => e _ (by omega)) (hr i hi)
  · rw [hn] at hi
    rw [ek i hi, e _ (by omega)]
    exact h7 i hi
  · rw [hn] at hj
    rw [ek i (by omega), ek j hj]
    exact h8 i j hij hj
def kH (c : Nat) (σ : jgS) (x : Nat) : Prop := σ.1 (x + 33) 2 = σ.1 (x + 233) 4 ∧ ∀ j, j < jHz σ (x + 33) → kR σ (x + 33 + 2 + 32 * ((jHo σ (x + 33) + j) % 6)) (fun k => σ.1 (x + 233 + 3) (241 * j + k)) ∧ kI c (fun k => σ.1 (x + 233 + 3) (241 * j + k))
/-- class and reference side by side, c calls made -/
def kF (G : jgG) (c : Nat) (σ : jgS) (x : Nat) : Prop := jSR G σ x ∧ jMs G σ.2.1 (jwt σ) (x + 233) ∧ kR σ (x + 1) (σ.1 (x + 233 + 1)) ∧ kI c (σ.1 (x + 233 + 1)) ∧ kH c σ x ∧ σ.1 (x + 227) 1 = σ.1 (x + 233) 6 ∧ σ.1 (x + 227 + 1) = σ.1 (x + 233 + 4)
/-- the same references, the world as long -/
def kE (σ τ : jgS) : Prop := τ.2.1 = σ.2.1 ∧ jwt τ = jwt σ
theorem kE_r (σ : jgS) : kE σ σ := ⟨rfl, rfl⟩
theorem kE_t {σ τ υ : jgS} (h1 : kE σ τ) (h2 : kE τ υ) : kE σ υ := ⟨h2.1.trans h1.1, h2.2.trans h1.2⟩
theorem kE_2 {σ τ : jgS} (h : τ.2 = σ.2) : kE σ τ := ⟨by rw [h], by unfold jwt; rw [h]⟩
theorem kE_h (σ : jgS) (n : Nat) : kE σ (jwh σ n) := ⟨rfl, rfl⟩
theorem kMO {G : jgG} {c : Nat} {σ : jgS} {x : Nat} (h : kF G c σ x) : jMO G σ (x + 233) := by
  obtain ⟨h1, h2, h3, h4, h5, h6, h7⟩ := h
  refine ⟨h2, h4.1, kI_ur h4, kI_ho h4, ?_, ?_⟩
  · rw [← h5.1]; exact h1.2.2.1.2.2.2.2
  · rw [← h6]; exact h1.2.2.2.1.2.2.2
theorem jT_cgE {G : jgG} {σ τ : jgS} {h : Nat} (hE : kE σ τ) (e : τ.1 h 3 = nI (jn τ h) ∧ jn τ h ≤ 24) (hT : jT G σ h) : jT G τ h := by
  obtain ⟨h1, _, _⟩ := hT
  exact ⟨by rw [hE.1, hE.2]; exact h1, e.1, e.2⟩
theorem jSR_mk {G : jgG} {c : Nat} {σ τ : jgS} {x : Nat} {S : Nat → Int32} (hp : jSR G σ x) (hE : kE σ τ) (hR : kR τ (x + 1) S) (hI : kI c S) (hs : ∀ i, i < 6 → τ.1 (x + 33 + 2 + 32 * i) 3 = nI (jn τ (x + 33 + 2 + 32 * i)) ∧ jn τ (x + 33 + 2 + 32 * i) ≤ 24) (h1 : vp_in (τ.1 (x + 33) 1) 6) (h2 : vp_in (τ.1 (x + 33) 2) 7) (hb : vp_in (τ.1 (x + 227) 1) 61) : jSR G τ x := by
  obtain ⟨g1, hT, hH, hB, hL, g4, hu, hh⟩ := hp
  obtain ⟨b1, b2, b3, b4⟩ := hB
  obtain ⟨c1, c2, c3, c4, c5⟩ := hH
  have en := kn hR
  refine ⟨by rw [hE.1, hE.2]; exact g1, jT_cgE hE ⟨by rw [en, hR.1.1]; exact hI.1.1, by rw [en]; exact hI.1.2⟩ hT, ⟨by rw [hE.1, hE.2]; exact c1, by rw [hE.1]; exact c2, fun i hi => jT_cgE hE (hs i hi) (c3 i hi), h1, h2⟩, ⟨by rw [hE.2]; exact b1, by rw [hE.1]; exact b2, by rw [hE.2]; exact b3, hb⟩, by rw [hE.2]; exact hL, g4, fun j hj => ?_, fun j hj z => ?_⟩
  · rw [en] at hj
    rw [kf1 hR hj]
    exact kI_ur hI j hj
  · rw [en] at hj
    rw [kf4 hR hj] at z
    rw [kf5 hR hj, if_pos z]
    exact kI_ho hI j hj z
/-- nothing that counts is changed -/
theorem kF_ro {G : jgG} {c : Nat} {σ τ : jgS} {x : Nat} (hF : kF G c σ x) (hE : kE σ τ) (h1 : ∀ a, a < x + 227 → τ.1 a = σ.1 a) (h2 : τ.1 (x + 227) 1 = σ.1 (x + 227) 1) (h3 : τ.1 (x + 227 + 1) = σ.1 (x + 227 + 1)) (h4 : τ.1 (x + 233) 4 = σ.1 (x + 233) 4) (h5 : τ.1 (x + 233) 6 = σ.1 (x + 233) 6) (h6 : τ.1 (x + 233 + 1) = σ.1 (x + 233 + 1)) (h7 : τ.1 (x + 233 + 3) = σ.1 (x + 233 + 3)) (h8 : τ.1 (x + 233 + 4) = σ.1 (x + 233 + 4)) : kF G c τ x := by
  obtain ⟨g1, g2, g3, g4, ⟨g5, g5'⟩, g6, g7⟩ := hF
  have hH : τ.1 (x + 33) = σ.1 (x + 33) := h1 _ (by omega)
  have hn24 := g4.1.2
  have r1 : kR τ (x + 1) (σ.1 (x + 233 + 1)) := kR_cg (fun a _ _ => h1 a (by omega)) hn24 g3
  have ez : jHz τ (x + 33) = jHz σ (x + 33) := by unfold jHz; rw [hH]
  have eo : jHo τ (x + 33) = jHo σ (x + 33) := by unfold jHo; rw [hH]
  refine ⟨jSR_mk (S := σ.1 (x + 233 + 1)) g1 hE r1 g4 (fun i hi => ?_) (by rw [hH]; exact g1.2.2.1.2.2.2.1) (by rw [hH]; exact g1.2.2.1.2.2.2.2) (by rw [h2]; exact g1.2.2.2.1.2.2.2), by rw [hE.1, hE.2]; exact g2, by rw [h6]; exact r1, by rw [h6]; exact g4, ⟨by rw [hH, h4]; exact g5, fun j hj => ?_⟩, by rw [h2, h5]; exact g6, by rw [h3, h8]; exact g7⟩
  · have e := h1 (x + 33 + 2 + 32 * i) (by omega)
    unfold jn
    rw [e]
    exact (g1.2.2.1.2.2.1 i hi).2
  · rw [ez] at hj
    obtain ⟨q1, q2⟩ := g5' j hj
    rw [eo, h7]
    exact ⟨kR_cg (fun a _ ha => h1 a (by omega)) q2.1.2 q1, q2⟩
/-- a copied table -/
theorem kR_cp {σ : jgS} {g h : Nat} {S : Nat → Int32} (hn : mN S ≤ 24) (hd : h + 32 ≤ g ∨ g + 32 ≤ h) (hR : kR σ g S) : kR (jcp σ g h (jn σ g) 4 4 5) h S := by
  have en := kn hR
  obtain ⟨h1, h2, h3, h4⟩ := hR
  have e0 : ∀ k, 3 ≤ k → k < 8 → (jcp σ g h (jn σ g) 4 4 5).1 h k = σ.1 g k := fun k a b => by
    unfold jcp
    dsimp only
    rw [if_pos (Or.inr (Or.inr (Or.inr ⟨rfl, a, by omega⟩))), show h + g - h = g by omega]
  refine ⟨by rw [e0 3 (by omega) (by omega), e0 4 (by omega) (by omega), e0 5 (by omega) (by omega), e0 6 (by omega) (by omega), e0 7 (by omega) (by omega)]; exact h1, fun k hk => ?_, fun r hr p hp => ?_, fun i hi => ?_⟩
  · unfold jcp
    dsimp only
    rw [if_pos (Or.inr (Or.inr (Or.inl ⟨rfl, hk⟩))), show h + 3 + g - h = g + 3 by omega]
    exact h2 k hk
  · unfold jcp
    dsimp only
    rw [if_pos (Or.inr (Or.inl ⟨by omega, by omega, hp⟩)), show h + 28 + r + g - h = g + 28 + r by omega]
    exact h3 r hr p hp
  · refine kRw_f (f := σ.1 (g + 4 + i)) (fun p hp => ?_) (h4 i hi)
    unfold jcp
    dsimp only
    rw [if_pos (Or.inl ⟨by omega, by omega, hp⟩), show h + 4 + i + g - h = g + 4 + i by omega]
/-- what keep does -/
theorem kkeep {G : jgG} {c : Nat} {σ : jgS} {x : Nat} (hF : kF G c σ x) : jHz (jHkeep σ (x + 33) (x + 1)) (x + 33) = jHz1 σ (x + 33) + 1 ∧ jHo (jHkeep σ (x + 33) (x + 1)) (x + 33) = jHo1 σ (x + 33) ∧ (jHkeep σ (x + 33) (x + 1)).1 (x + 33) 1 = nI (jHo1 σ (x + 33)) ∧ (jHkeep σ (x + 33) (x + 1)).1 (x + 33) 2 = nI (jHz1 σ (x + 33) + 1) ∧ jHo1 σ (x + 33) < 6 ∧ jHz1 σ (x + 33) < 6 ∧ kR (jHkeep σ (x + 33) (x + 1)) (x + 33 + 2 + 32 * ((jHo1 σ (x + 33) + jHz1 σ (x + 33)) % 6)) (σ.1 (x + 233 + 1)) ∧ ∀ i, i < 6 → ¬ i = (jHo1 σ (x + 33) + jHz1 σ (x + 33)) % 6 → ∀ a, x + 33 + 2 + 32 * i ≤ a → a < x + 33 + 2 + 32 * i + 32 → (jHkeep σ (x + 33) (x + 1)).1 a = σ.1 a := by
  obtain ⟨g1, g2, g3, g4, ⟨g5, g5'⟩, g6, g7⟩ := hF
  obtain ⟨_, hT, ⟨c1, c2, c3, c4, c5⟩, _⟩ := g1
  have hn24 := g4.1.2
  have ejn : jn σ (x + 1) = mN (σ.1 (x + 233 + 1)) := kn g3
  obtain ⟨o, ho, eo⟩ := vp_in_of c4 (by decide)
  obtain ⟨z, hz, ez⟩ := vp_in_of c5 (by decide)
  have ho' : jHo σ (x + 33) = o := by unfold jHo; rw [eo]; exact nI_clamp (by omega)
  have hz' : jHz σ (x + 33) = z := by unfold jHz; rw [ez]; exact nI_clamp (by omega)
  have lo : jHo1 σ (x + 33) < 6 := by unfold jHo1; rw [ho']; split <;> omega
  have lz : jHz1 σ (x + 33) < 6 := by unfold jHz1; rw [hz']; split <;> omega
  have e1 : (jHkeep σ (x + 33) (x + 1)).1 (x + 33) 1 = nI (jHo1 σ (x + 33)) := by
    unfold jHkeep
    rw [jI_wI, if_neg (by omega), jcp_n (by omega) (by omega)]
    unfold jH1
    rw [jI_wI, if_neg (by omega), jI_wI, if_pos ⟨rfl, rfl⟩]
  have e2 : (jHkeep σ (x + 33) (x + 1)).1 (x + 33) 2 = nI (jHz1 σ (x + 33) + 1) := by
    unfold jHkeep
    rw [jI_wI, if_pos ⟨rfl, rfl⟩]
  have out : ∀ a, ¬ a = x + 33 → ¬ (x + 33 + 2 + 32 * ((jHo1 σ (x + 33) + jHz1 σ (x + 33)) % 6) ≤ a ∧ a < x + 33 + 2 + 32 * ((jHo1 σ (x + 33) + jHz1 σ (x + 33)) % 6) + 32) → (jHkeep σ (x + 33) (x + 1)).1 a = σ.1 a := by
    intro a ha hb
    funext k
    unfold jHkeep
    rw [jI_wI, if_neg (fun z => ha z.1), jcp_n hb (by omega)]
    unfold jH1
    rw [jI_wI, if_neg (fun z => ha z.1), jI_wI, if_neg (fun z => ha z.1)]
  refine ⟨by unfold jHz; rw [e2]; exact nI_clamp (by omega), by unfold jHo; rw [e1]; exact nI_clamp (by omega), e1, e2, lo, lz, ?_, fun i hi hne a ha1 ha2 => out a (by omega) (by omega)⟩
  have hr0 : kR (jH1 σ (x + 33) (jHo1 σ (x + 33)) (jHz1 σ (x + 33))) (x + 1) (σ.1 (x + 233 + 1)) := by
    refine kR_cg (fun a h1 h2 => funext fun k => ?_) hn24 g3
    unfold jH1
    rw [jI_wI, if_neg (by omega), jI_wI, if_neg (by omega)]
  have hn0 : jn (jH1 σ (x + 33) (jHo1 σ (x + 33)) (jHz1 σ (x + 33))) (x + 1) = jn σ (x + 1) := by rw [kn hr0, ejn]
  have hr1 := kR_cp (h := x + 33 + 2 + 32 * ((jHo1 σ (x + 33) + jHz1 σ (x + 33)) % 6)) hn24 (by omega) hr0
  rw [hn0] at hr1
  refine kR_cg (fun a h1 h2 => funext fun k => ?_) hn24 hr1
  unfold jHkeep
  rw [jI_wI, if_neg (by omega)]
theorem mkeep_lo {σ : jgS} {m j k : Nat} (hz : mz σ m < 7) (hj : j < mz1 σ m) (hk : k < 241) : (mKeep σ m).1 (m + 3) (241 * j + k) = σ.1 (m + 3) (241 * (if mz σ m = 6 then j + 1 else j) + k) := by
  unfold mKeep
  rw [jI_wI, if_neg (by omega)]
  have e : (jcc (jwI (msh σ m (if mz σ m = 6 then 1205 else 0)) m 4 (nI (mz1 σ m))) (m + 1) 0 (m + 3) (241 * mz1 σ m) 241).1 (m + 3) (241 * j + k) = (jwI (msh σ m (if mz σ m = 6 then 1205 else 0)) m 4 (nI (mz1 σ m))).1 (m + 3) (241 * j + k) := if_neg (by omega)
  rw [e, jI_wI, if_neg (by omega)]
  unfold mz1 at hj
  by_cases h6 : mz σ m = 6
  · rw [if_pos h6] at hj
    rw [if_pos h6, if_pos h6]
    exact (if_pos ⟨rfl, by omega⟩).trans (congrArg _ (by omega))
  · rw [if_neg h6, if_neg h6]
    exact if_neg (by omega)
theorem mkeep_at {σ : jgS} {m k : Nat} (hk : k < 241) : (mKeep σ m).1 (m + 3) (241 * mz1 σ m + k) = σ.1 (m + 1) k := by
  unfold mKeep
  rw [jI_wI, if_neg (by omega)]
  have e : (jcc (jwI (msh σ m (if mz σ m = 6 then 1205 else 0)) m 4 (nI (mz1 σ m))) (m + 1) 0 (m + 3) (241 * mz1 σ m) 241).1 (m + 3) (241 * mz1 σ m + k) = (jwI (msh σ m (if mz σ m = 6 then 1205 else 0)) m 4 (nI (mz1 σ m))).1 (m + 1) (241 * mz1 σ m + k - 241 * mz1 σ m + 0) := if_pos ⟨rfl, by omega, by omega⟩
  rw [e, jI_wI, if_neg (by omega), msh_ne (by omega)]
  exact congrArg _ (by omega)
theorem mkeep_4 (σ : jgS) (m : Nat) : (mKeep σ m).1 m 4 = nI (mz1 σ m + 1) := by
  unfold mKeep
  rw [jI_wI, if_pos ⟨rfl, rfl⟩]
/-- both keep, and then only the table is changed -/
theorem kF_op {G : jgG} {c d : Nat} {σ τ : jgS} {x : Nat} {S' : Nat → Int32} (hF : kF G c σ x) (hcd : c ≤ d) (hE : kE σ τ) (hH : ∀ a, x + 33 ≤ a → a < x + 227 → τ.1 a = (jHkeep σ (x + 33) (x + 1)).1 a) (hS : τ.1 (x + 233 + 1) = S') (hR : kR τ (x + 1) S') (hI : kI d S') (h3 : ∀ k, τ.1 (x + 233 + 3) k = (mKeep σ (x + 233)).1 (x + 233 + 3) k) (h4 : τ.1 (x + 233) 4 = (mKeep σ (x + 233)).1 (x + 233) 4) (hb1 : vp_in (τ.1 (x + 227) 1) 61) (hb2 : τ.1 (x + 227) 1 = τ.1 (x + 233) 6) (hb3 : τ.1 (x + 227 + 1) = τ.1 (x + 233 + 4)) : kF G d τ x := by
  obtain ⟨k1, k2, k3, k4, k5, k6, k7, k8⟩ := kkeep hF
  obtain ⟨g1, g2, g3, g4, ⟨g5, g5'⟩, g6, g7⟩ := hF
  obtain ⟨_, hT, ⟨c1, c2, c3, c4, c5⟩, _⟩ := id g1
  obtain ⟨o, ho, eo⟩ := vp_in_of c4 (by decide)
  obtain ⟨z, hz, ez⟩ := vp_in_of c5 (by decide)
  have ho' : jHo σ (x + 33) = o := by unfold jHo; rw [eo]; exact nI_clamp (by omega)
  have hz' : jHz σ (x + 33) = z := by unfold jHz; rw [ez]; exact nI_clamp (by omega)
  have hmz : mz σ (x + 233) = z := by unfold mz; rw [← g5, ez]; exact nI_clamp (by omega)
  have hz1 : mz1 σ (x + 233) = jHz1 σ (x + 33) := by unfold mz1 jHz1; rw [hmz, hz']
  have eH : τ.1 (x + 33) = (jHkeep σ (x + 33) (x + 1)).1 (x + 33) := hH _ (by omega) (by omega)
  have jz : jHz τ (x + 33) = jHz1 σ (x + 33) + 1 := by unfold jHz; rw [eH]; exact k1
  have jo' : jHo τ (x + 33) = jHo1 σ (x + 33) := by unfold jHo; rw [eH]; exact k2
  generalize hs : (jHo1 σ (x + 33) + jHz1 σ (x + 33)) % 6 = s at *
  have tab : ∀ (i : Nat) (S : Nat → Int32), i < 6 → mN S ≤ 24 → kR (jHkeep σ (x + 33) (x + 1)) (x + 33 + 2 + 32 * i) S → kR τ (x + 33 + 2 + 32 * i) S := fun i S hi hn h => kR_cg (fun a h1 h2 => hH a (by omega) (by omega)) hn h
  refine ⟨jSR_mk (S := S') g1 hE hR hI (fun i hi => ?_) (by rw [eH, k3]; exact vp_in_nI k5 (by decide)) (by rw [eH, k4]; exact vp_in_nI (by omega) (by decide)) hb1, by rw [hE.1, hE.2]; exact g2, by rw [hS]; exact hR, by rw [hS]; exact hI, ⟨by rw [eH, k4, h4, mkeep_4, hz1], fun j hj => ?_⟩, hb2, hb3⟩
  · by_cases e : i = s
    · subst e
      have hr := tab i _ hi g4.1.2 k7
      rw [kn hr, hr.1.1]
      exact g4.1
    · have e1 := (hH (x + 33 + 2 + 32 * i) (by omega) (by omega)).trans (k8 i hi e _ (Nat.le_refl _) (by omega))
      unfold jn
      rw [e1]
      exact (c3 i hi).2
  · rw [jz] at hj
    rw [jo']
    have e3 : ∀ k, τ.1 (x + 233 + 3) (241 * j + k) = (mKeep σ (x + 233)).1 (x + 233 + 3) (241 * j + k) := fun k => h3 _
    by_cases e : j = jHz1 σ (x + 33)
    · subst e
      rw [hs]
      have e4 : ∀ k, k < 241 → τ.1 (x + 233 + 3) (241 * jHz1 σ (x + 33) + k) = σ.1 (x + 233 + 1) k := fun k hk => by rw [e3, ← hz1, mkeep_at hk]
      exact ⟨kR_g (S := σ.1 (x + 233 + 1)) g4.1.2 e4 (tab s _ (by omega) g4.1.2 k7), kI_g (S := σ.1 (x + 233 + 1)) e4 (kI_mono hcd g4)⟩
    · have hj1 : j < jHz1 σ (x + 33) := by omega
      have e4 : ∀ k, k < 241 → τ.1 (x + 233 + 3) (241 * j + k) = σ.1 (x + 233 + 3) (241 * (if mz σ (x + 233) = 6 then j + 1 else j) + k) := fun k hk => by rw [e3, mkeep_lo (by omega) (by omega) hk]
      rw [hmz] at e4
      have hjj : (if z = 6 then j + 1 else j) < jHz σ (x + 33) := by
        unfold jHz1 at hj1
        rw [hz'] at hj1 ⊢
        by_cases h6 : z = 6
        · rw [if_pos h6] at hj1 ⊢; omega
        · rw [if_neg h6] at hj1 ⊢; omega
      obtain ⟨q1, q2⟩ := g5' _ hjj
      have es : (jHo1 σ (x + 33) + j) % 6 = (jHo σ (x + 33) + (if z = 6 then j + 1 else j)) % 6 := by
        unfold jHo1
        rw [hz', ho']
        by_cases h6 : z = 6
        · rw [if_pos h6, if_pos h6]; omega
        · rw [if_neg h6, if_neg h6]
      have ens : ¬ (jHo σ (x + 33) + (if z = 6 then j + 1 else j)) % 6 = s := by
        rw [← es, ← hs]
        omega
      rw [es]
      refine ⟨kR_g (S := fun k => σ.1 (x + 233 + 3) (241 * (if z = 6 then j + 1 else j) + k)) q2.1.2 e4 ?_, kI_g (S := fun k => σ.1 (x + 233 + 3) (241 * (if z = 6 then j + 1 else j) + k)) e4 (kI_mono hcd q2)⟩
      refine tab _ _ (by omega) q2.1.2 ?_
      exact kR_cg (fun a h1 h2 => k8 _ (by omega) ens a h1 (by omega)) q2.1.2 q1
