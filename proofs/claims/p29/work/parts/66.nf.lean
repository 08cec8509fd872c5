/-! class and numbers side by side -/
theorem mN_g {S S' : Nat → Int32} (e : ∀ k, k < 241 → S' k = S k) : mN S' = mN S := by unfold mN; rw [e 0 (by decide)]
theorem kRo_g {c T : Nat} {g g' : Nat → Int32} (e : ∀ p, p < 9 → g' p = g p) (h : kRo c T g) : kRo c T g' := by
  unfold kRo at *
  rw [e 0 (by decide), e 1 (by decide), e 3 (by decide), e 4 (by decide), e 5 (by decide), e 7 (by decide)]
  exact h
theorem kR_g {σ : jgS} {h : Nat} {S S' : Nat → Int32} (hn : mN S ≤ 24) (e : ∀ k, k < 241 → S' k = S k) (hR : kR σ h S) : kR σ h S' := by
  obtain ⟨h1, h2, h3, h4⟩ := hR
  refine ⟨by rw [e 0 (by decide), e 1 (by decide), e 2 (by decide), e 3 (by decide), e 4 (by decide)]; exact h1, fun k hk => (h2 k hk).trans (e _ (by omega)).symm, fun r hr p hp => (h3 r hr p hp).trans (e _ (by omega)).symm, fun i hi => ?_⟩
  rw [mN_g e] at hi
  exact kRw_g (g := fun p => S (25 + 9 * i + p)) (fun p hp => e _ (by omega)) (h4 i hi)
theorem kI_g {c : Nat} {S S' : Nat → Int32} (e : ∀ k, k < 241 → S' k = S k) (hI : kI c S) : kI c S' := by
  obtain ⟨hO, P, T, D, h1, h2, h3, h4, h5, h6, hr, h7, h8⟩ := hI
  have hn := mN_g e
  have h24 := hO.2
  have ek : ∀ i, i < mN S → kmk S' i = kmk S i := fun i hi => by unfold kmk; rw [e _ (by omega)]
  refine ⟨⟨by rw [hn, e 0 (by decide)]; exact hO.1, by rw [hn]; exact h24⟩, P, T, D, by rw [e 1 (by decide)]; exact h1, h2, by rw [e 3 (by decide)]; exact h3, h4, by rw [e 5 (by decide)]; exact h5, by rw [e 8 (by decide)]; exact h6, fun i hi => ?_, fun i hi => ?_, fun i j hij hj => ?_⟩
  · rw [hn] at hi
    exact kRo_g (g := fun p => S (25 + 9 * i + p)) (fun p hp => e _ (by omega)) (hr i hi)
  · rw [hn] at hi
    rw [ek i hi, e _ (by omega)]
    exact h7 i hi
  · rw [hn] at hj
    rw [ek i (by omega), ek j hj]
    exact h8 i j hij hj
def kE (σ τ : jgS) : Prop := τ.2.1 = σ.2.1 ∧ jwt τ = jwt σ
theorem kE_r (σ : jgS) : kE σ σ := ⟨rfl, rfl⟩
theorem kE_t {σ τ υ : jgS} (h1 : kE σ τ) (h2 : kE τ υ) : kE σ υ := ⟨h2.1.trans h1.1, h2.2.trans h1.2⟩
theorem kE_2 {σ τ : jgS} (h : τ.2 = σ.2) : kE σ τ := ⟨by rw [h], by unfold jwt; rw [h]⟩
theorem kE_h (σ : jgS) (n : Nat) : kE σ (jwh σ n) := ⟨rfl, rfl⟩
theorem jT_cgE {G : jgG} {σ τ : jgS} {h : Nat} (hE : kE σ τ) (e : τ.1 h 3 = nI (jn τ h) ∧ jn τ h ≤ 24) (hT : jT G σ h) : jT G τ h := by
  obtain ⟨h1, _, _⟩ := hT
  exact ⟨by rw [hE.1, hE.2]; exact h1, e.1, e.2⟩
theorem jSR_mk {G : jgG} {c : Nat} {σ τ : jgS} {x : Nat} {S : Nat → Int32} (hp : jSR G σ x) (hE : kE σ τ) (hR : kR τ (x + 1) S) (hI : kI c S) (hs : ∀ i, i < 6 → τ.1 (x + 33 + 2 + 32 * i) 3 = nI (jn τ (x + 33 + 2 + 32 * i)) ∧ jn τ (x + 33 + 2 + 32 * i) ≤ 24) (h1 : vp_in (τ.1 (x + 33) 1) 6) (h2 : vp_in (τ.1 (x + 33) 2) 7) (hb : vp_in (τ.1 (x + 227) 1) 61) : jSR G τ x := by
  obtain ⟨g1, hT, hH, hB, hL, g4, hu, hh⟩ := hp
  obtain ⟨b1, b2, b3, b4⟩ := hB
  obtain ⟨c1, c2, c3, c4, c5⟩ := hH
  have en := kn hR
  refine ⟨by rw [hE.1, hE.2]; exact g1, jT_cgE hE ⟨by rw [en, hR.1.1]; exact hI.1.1, by rw [en]; exact hI.1.2⟩ hT, ⟨by rw [hE.1, hE.2]; exact c1, by rw [hE.1]; exact c2, fun i hi => jT_cgE hE (hs i hi) (c3 i hi), h1, h2⟩, ⟨by rw [hE.2]; exact b1, by rw [hE.1]; exact b2, by rw [hE.2]; exact b3, hb⟩, by rw [hE.2]; exact hL, g4, fun j hj => ?_, fun j hj z => ?_⟩
  · rw [en] at hj
    rw [kf1 hR hj]
    exact kI_ur hI j hj
  · rw [en] at hj
    rw [kf4 hR hj] at z
    rw [kf5 hR hj, if_pos z]
    exact kI_ho hI j hj z
theorem kR_cp {σ : jgS} {g h : Nat} {S : Nat → Int32} (hn : mN S ≤ 24) (hd : h + 32 ≤ g ∨ g + 32 ≤ h) (hR : kR σ g S) : kR (jcp σ g h (jn σ g) 4 4 5) h S := by
  have en := kn hR
  obtain ⟨h1, h2, h3, h4⟩ := hR
  have e0 : ∀ k, 3 ≤ k → k < 8 → (jcp σ g h (jn σ g) 4 4 5).1 h k = σ.1 g k := fun k a b => by
    unfold jcp
    dsimp only
    rw [if_pos (Or.inr (Or.inr (Or.inr ⟨rfl, a, by omega⟩))), show h + g - h = g by omega]
  refine ⟨by rw [e0 3 (by omega) (by omega), e0 4 (by omega) (by omega), e0 5 (by omega) (by omega), e0 6 (by omega) (by omega), e0 7 (by omega) (by omega)]; exact h1, fun k hk => ?_, fun r hr p hp => ?_, fun i hi => ?_⟩
  · unfold jcp
    dsimp only
    rw [if_pos (Or.inr (Or.inr (Or.inl ⟨rfl, hk⟩))), show h + 3 + g - h = g + 3 by omega]
    exact h2 k hk
  · unfold jcp
    dsimp only
    rw [if_pos (Or.inr (Or.inl ⟨by omega, by omega, hp⟩)), show h + 28 + r + g - h = g + 28 + r by omega]
    exact h3 r hr p hp
  · refine kRw_f (f := σ.1 (g + 4 + i)) (fun p hp => ?_) (h4 i hi)
    unfold jcp
    dsimp only
    rw [if_pos (Or.inl ⟨by omega, by omega, hp⟩), show h + 4 + i + g - h = g + 4 + i by omega]
/-- the class's object at x holds what S says, c calls made -/
def nF (G : jgG) (c : Nat) (σ : jgS) (x : Nat) (S : Nat → Int32) : Prop := jSR G σ x ∧ kR σ (x + 1) S ∧ kI c S
theorem kkeep {G : jgG} {c : Nat} {σ : jgS} {x : Nat} {S : Nat → Int32} (hF : nF G c σ x S) : jHz (jHkeep σ (x + 33) (x + 1)) (x + 33) = jHz1 σ (x + 33) + 1 ∧ jHo (jHkeep σ (x + 33) (x + 1)) (x + 33) = jHo1 σ (x + 33) ∧ (jHkeep σ (x + 33) (x + 1)).1 (x + 33) 1 = nI (jHo1 σ (x + 33)) ∧ (jHkeep σ (x + 33) (x + 1)).1 (x + 33) 2 = nI (jHz1 σ (x + 33) + 1) ∧ jHo1 σ (x + 33) < 6 ∧ jHz1 σ (x + 33) < 6 ∧ kR (jHkeep σ (x + 33) (x + 1)) (x + 33 + 2 + 32 * ((jHo1 σ (x + 33) + jHz1 σ (x + 33)) % 6)) (S) ∧ ∀ i, i < 6 → ¬ i = (jHo1 σ (x + 33) + jHz1 σ (x + 33)) % 6 → ∀ a, x + 33 + 2 + 32 * i ≤ a → a < x + 33 + 2 + 32 * i + 32 → (jHkeep σ (x + 33) (x + 1)).1 a = σ.1 a := by
  obtain ⟨g1, g3, g4⟩ := hF
  obtain ⟨_, hT, ⟨c1, c2, c3, c4, c5⟩, _⟩ := g1
  have hn24 := g4.1.2
  have ejn : jn σ (x + 1) = mN (S) := kn g3
  obtain ⟨o, ho, eo⟩ := vp_in_of c4 (by decide)
  obtain ⟨z, hz, ez⟩ := vp_in_of c5 (by decide)
  have ho' : jHo σ (x + 33) = o := by unfold jHo; rw [eo]; exact nI_clamp (by omega)
  have hz' : jHz σ (x + 33) = z := by unfold jHz; rw [ez]; exact nI_clamp (by omega)
  have lo : jHo1 σ (x + 33) < 6 := by unfold jHo1; rw [ho']; split <;> omega
  have lz : jHz1 σ (x + 33) < 6 := by unfold jHz1; rw [hz']; split <;> omega
  have e1 : (jHkeep σ (x + 33) (x + 1)).1 (x + 33) 1 = nI (jHo1 σ (x + 33)) := by
    unfold jHkeep
    rw [jI_wI, if_neg (by omega), jcp_n (by omega) (by omega)]
    unfold jH1
    rw [jI_wI, if_neg (by omega), jI_wI, if_pos ⟨rfl, rfl⟩]
  have e2 : (jHkeep σ (x + 33) (x + 1)).1 (x + 33) 2 = nI (jHz1 σ (x + 33) + 1) := by
    unfold jHkeep
    rw [jI_wI, if_pos ⟨rfl, rfl⟩]
  have out : ∀ a, ¬ a = x + 33 → ¬ (x + 33 + 2 + 32 * ((jHo1 σ (x + 33) + jHz1 σ (x + 33)) % 6) ≤ a ∧ a < x + 33 + 2 + 32 * ((jHo1 σ (x + 33) + jHz1 σ (x + 33)) % 6) + 32) → (jHkeep σ (x + 33) (x + 1)).1 a = σ.1 a := by
    intro a ha hb
    funext k
    unfold jHkeep
    rw [jI_wI, if_neg (fun z => ha z.1), jcp_n hb (by omega)]
    unfold jH1
    rw [jI_wI, if_neg (fun z => ha z.1), jI_wI, if_neg (fun z => ha z.1)]
  refine ⟨by unfold jHz; rw [e2]; exact nI_clamp (by omega), by unfold jHo; rw [e1]; exact nI_clamp (by omega), e1, e2, lo, lz, ?_, fun i hi hne a ha1 ha2 => out a (by omega) (by omega)⟩
  have hr0 : kR (jH1 σ (x + 33) (jHo1 σ (x + 33)) (jHz1 σ (x + 33))) (x + 1) (S) := by
    refine kR_cg (fun a h1 h2 => funext fun k => ?_) hn24 g3
    unfold jH1
    rw [jI_wI, if_neg (by omega), jI_wI, if_neg (by omega)]
  have hn0 : jn (jH1 σ (x + 33) (jHo1 σ (x + 33)) (jHz1 σ (x + 33))) (x + 1) = jn σ (x + 1) := by rw [kn hr0, ejn]
  have hr1 := kR_cp (h := x + 33 + 2 + 32 * ((jHo1 σ (x + 33) + jHz1 σ (x + 33)) % 6)) hn24 (by omega) hr0
  rw [hn0] at hr1
  refine kR_cg (fun a h1 h2 => funext fun k => ?_) hn24 hr1
  unfold jHkeep
  rw [jI_wI, if_neg (by omega)]
theorem nF_cg {G : jgG} {c : Nat} {σ τ : jgS} {x : Nat} {S : Nat → Int32} (hF : nF G c σ x S) (hE : kE σ τ) (h1 : ∀ a, a < x + 227 → τ.1 a = σ.1 a) (hb : τ.1 (x + 227) 1 = σ.1 (x + 227) 1) : nF G c τ x S := by
  obtain ⟨g1, g3, g4⟩ := hF
  have r1 : kR τ (x + 1) S := kR_cg (fun a _ _ => h1 a (by omega)) g4.1.2 g3
  refine ⟨jSR_mk (S := S) g1 hE r1 g4 (fun i hi => ?_) (by rw [h1 _ (by omega)]; exact g1.2.2.1.2.2.2.1) (by rw [h1 _ (by omega)]; exact g1.2.2.1.2.2.2.2) (by rw [hb]; exact g1.2.2.2.1.2.2.2), r1, g4⟩
  have e := h1 (x + 33 + 2 + 32 * i) (by omega)
  unfold jn
  rw [e]
  exact (g1.2.2.1.2.2.1 i hi).2
theorem nF_mono {G : jgG} {c d : Nat} {σ : jgS} {x : Nat} {S : Nat → Int32} (h : c ≤ d) (hF : nF G c σ x S) : nF G d σ x S := ⟨hF.1, hF.2.1, kI_mono h hF.2.2⟩
def kCop (σ τ : jgS) (x : Nat) : Prop := τ.2 = σ.2 ∧ ∀ a, ¬ (x + 1 ≤ a ∧ a < x + 33) → ¬ a = x + 232 → τ.1 a = (jHkeep σ (x + 33) (x + 1)).1 a
theorem kCop_K (σ : jgS) (x : Nat) : kCop σ (jHkeep σ (x + 33) (x + 1)) x := ⟨rfl, fun _ _ _ => rfl⟩
theorem kCop_c {σ τ υ : jgS} {x : Nat} (h : kCop σ τ x) (h2 : υ.2 = τ.2) (ho : ∀ a, ¬ (x + 1 ≤ a ∧ a < x + 33) → ¬ a = x + 232 → υ.1 a = τ.1 a) : kCop σ υ x := ⟨h2.trans h.1, fun a h1 h3 => (ho a h1 h3).trans (h.2 a h1 h3)⟩
theorem kCop_w {σ τ : jgS} {x a k : Nat} {v : Int32} (h : kCop σ τ x) (h1 : x + 1 ≤ a) (h2 : a < x + 33) : kCop σ (jwI τ a k v) x := kCop_c h rfl (fun b hb _ => funext fun j => by rw [jI_wI, if_neg (fun z => hb (by omega))])
/-- kept, then the table alone changed -/
theorem nF_op {G : jgG} {c d : Nat} {σ τ : jgS} {x : Nat} {S S' : Nat → Int32} (hF : nF G c σ x S) (hC : kCop σ τ x) (hR : kR τ (x + 1) S') (hI : kI d S') : nF G d τ x S' := by
  obtain ⟨k1, k2, k3, k4, k5, k6, k7, k8⟩ := kkeep hF
  obtain ⟨g1, g3, g4⟩ := hF
  obtain ⟨c2, co⟩ := hC
  have hn : jn σ (x + 1) ≤ 24 := g1.2.1.2.2
  have hH : ∀ a, x + 33 ≤ a → a < x + 227 → τ.1 a = (jHkeep σ (x + 33) (x + 1)).1 a := fun a h1 h2 => co a (by omega) (by omega)
  have eH : τ.1 (x + 33) = (jHkeep σ (x + 33) (x + 1)).1 (x + 33) := hH _ (by omega) (by omega)
  have b1 : τ.1 (x + 227) = σ.1 (x + 227) := (co _ (by omega) (by omega)).trans (funext fun k => jHk_out hn (by omega) (by omega))
  generalize hs : (jHo1 σ (x + 33) + jHz1 σ (x + 33)) % 6 = s at *
  refine ⟨jSR_mk (S := S') g1 (kE_2 c2) hR hI (fun i hi => ?_) (by rw [eH, k3]; exact vp_in_nI k5 (by decide)) (by rw [eH, k4]; exact vp_in_nI (by omega) (by decide)) (by rw [b1]; exact g1.2.2.2.1.2.2.2), hR, hI⟩
  by_cases e : i = s
  · subst e
    have hr : kR τ (x + 33 + 2 + 32 * i) S := kR_cg (fun a h1 h2 => hH a (by omega) (by omega)) g4.1.2 k7
    rw [kn hr, hr.1.1]
    exact g4.1
  · have e1 := (hH (x + 33 + 2 + 32 * i) (by omega) (by omega)).trans (k8 i hi e _ (Nat.le_refl _) (by omega))
    unfold jn
    rw [e1]
    exact (g1.2.2.1.2.2.1 i hi).2
/-- nothing but the look is changed -/
theorem nF_ls {G : jgG} {c : Nat} {σ τ : jgS} {x : Nat} {S : Nat → Int32} (hF : nF G c σ x S) (h : jLs x σ τ) : nF G c τ x S := nF_cg hF (kE_2 h.1) (fun a ha => h.2 a (by omega)) (by rw [h.2 _ (by omega)])
/-- the class's call changes nothing of the law's -/
def nU (σ τ : jgS) (x : Nat) : Prop := τ.2 = σ.2 ∧ ∀ a, x + 233 ≤ a → τ.1 a = σ.1 a
theorem nU_C {G : jgG} {c : Nat} {σ τ : jgS} {x : Nat} {S : Nat → Int32} (hF : nF G c σ x S) (hC : kCop σ τ x) : nU σ τ x := by
  have hn : jn σ (x + 1) ≤ 24 := hF.1.2.1.2.2
  exact ⟨hC.1, fun a ha => (hC.2 a (by omega) (by omega)).trans (funext fun k => jHk_out hn (by omega) (by omega))⟩
theorem nF_h {G : jgG} {c : Nat} {σ : jgS} {x n : Nat} {S : Nat → Int32} (hF : nF G c σ x S) : nF G c (jwh σ n) x S := nF_cg hF (kE_h σ n) (fun _ _ => rfl) rfl
/-! how a change of a table keeps the relation -/
theorem kRK {G : jgG} {c : Nat} {σ : jgS} {x : Nat} {S : Nat → Int32} (hF : nF G c σ x S) : kR (jHkeep σ (x + 33) (x + 1)) (x + 1) (S) := by
  have hn : jn σ (x + 1) ≤ 24 := hF.1.2.1.2.2
  exact kR_cg (fun a h1 h2 => funext fun k => jHk_out hn (by omega) (by omega)) hF.2.2.1.2 hF.2.1
theorem kR_row {τ υ : jgS} {h q : Nat} {S S' : Nat → Int32} (hR : kR τ h S) (hq : q < mN S) (hn : mN S ≤ 24) (ht : ∀ a, h ≤ a → a < h + 32 → ¬ a = h + 4 + q → υ.1 a = τ.1 a) (hs : ∀ k, ¬ (25 + 9 * q ≤ k ∧ k < 25 + 9 * q + 9) → S' k = S k) (hr : kRw (υ.1 (h + 4 + q)) (fun p => S' (25 + 9 * q + p))) : kR υ h S' := by
  obtain ⟨h1, h2, h3, h4⟩ := hR
  have en : mN S' = mN S := by unfold mN; rw [hs 0 (by omega)]
  refine ⟨by rw [ht h (by omega) (by omega) (by omega), hs 0 (by omega), hs 1 (by omega), hs 2 (by omega), hs 3 (by omega), hs 4 (by omega)]; exact h1, fun k hk => by rw [ht _ (by omega) (by omega) (by omega), hs _ (by omega)]; exact h2 k hk, fun r hr p hp => by rw [ht _ (by omega) (by omega) (by omega), hs _ (by omega)]; exact h3 r hr p hp, fun i hi => ?_⟩
  rw [en] at hi
  by_cases e : i = q
  · subst e; exact hr
  · rw [ht _ (by omega) (by omega) (by omega)]
    exact kRw_g (g := fun p => S (25 + 9 * i + p)) (fun p hp => hs _ (by omega)) (h4 i hi)
theorem kI_row {c q : Nat} {S S' : Nat → Int32} (hI : kI c S) (hq : q < mN S) (hs : ∀ k, ¬ (25 + 9 * q ≤ k ∧ k < 25 + 9 * q + 9) → S' k = S k) (h2 : S' (25 + 9 * q + 2) = S (25 + 9 * q + 2)) (hr : ∀ T : Nat, S 3 = nI T → T ≤ 9999 → kRo c T (fun p => S (25 + 9 * q + p)) → kRo c T (fun p => S' (25 + 9 * q + p))) : kI c S' := by
  obtain ⟨hO, P, T, D, g1, g2, g3, g4, g5, g6, gr, g7, g8⟩ := hI
  have en : mN S' = mN S := by unfold mN; rw [hs 0 (by omega)]
  have e2 : ∀ i, i < mN S → S' (25 + 9 * i + 2) = S (25 + 9 * i + 2) := fun i hi => by
    by_cases e : i = q
    · subst e; exact h2
    · exact hs _ (by omega)
  have ek : ∀ i, i < mN S → kmk S' i = kmk S i := fun i hi => by unfold kmk; rw [e2 i hi]
  refine ⟨⟨by rw [en, hs 0 (by omega)]; exact hO.1, by rw [en]; exact hO.2⟩, P, T, D, by rw [hs 1 (by omega)]; exact g1, g2, by rw [hs 3 (by omega)]; exact g3, g4, by rw [hs 5 (by omega)]; exact g5, by rw [hs 8 (by omega)]; exact g6, fun i hi => ?_, fun i hi => ?_, fun i j hij hj => ?_⟩
  · rw [en] at hi
    by_cases e : i = q
    · subst e; exact hr T g3 g4 (gr i hi)
    · exact kRo_g (g := fun p => S (25 + 9 * i + p)) (fun p hp => hs _ (by omega)) (gr i hi)
  · rw [en] at hi
    rw [ek i hi, e2 i hi]
    exact g7 i hi
  · rw [en] at hj
    rw [ek i (by omega), ek j hj]
    exact g8 i j hij hj
theorem kR_rd {τ : jgS} {h r p : Nat} {v : Int32} {S : Nat → Int32} (hR : kR τ h S) (hn : mN S ≤ 24) (hr : r < 4) (hp : p < 4) : kR (jwI τ (h + 28 + r) p v) h (jup1 S (9 + 4 * r + p) v) := by
  obtain ⟨h1, h2, h3, h4⟩ := hR
  have en : mN (jup1 S (9 + 4 * r + p) v) = mN S := by unfold mN; rw [jup1_ne (by omega)]
  have o : ∀ a, ¬ a = h + 28 + r → (jwI τ (h + 28 + r) p v).1 a = τ.1 a := fun a ha => funext fun k => by rw [jI_wI, if_neg (fun z => ha z.1)]
  refine ⟨by rw [o h (by omega), jup1_ne (by omega), jup1_ne (by omega), jup1_ne (by omega), jup1_ne (by omega), jup1_ne (by omega)]; exact h1, fun k hk => by rw [o _ (by omega), jup1_ne (by omega)]; exact h2 k hk, fun r' hr' p' hp' => ?_, fun i hi => ?_⟩
  · rw [jI_wI]
    by_cases e : r' = r ∧ p' = p
    · obtain ⟨rfl, rfl⟩ := e
      rw [if_pos ⟨rfl, rfl⟩, jup1_at]
    · rw [if_neg (by omega), jup1_ne (by omega)]
      exact h3 r' hr' p' hp'
  · rw [en] at hi
    rw [o _ (by omega)]
    exact kRw_g (g := fun p => S (25 + 9 * i + p)) (fun p hp => jup1_ne (by omega)) (h4 i hi)
theorem kI_lo {c k : Nat} {v : Int32} {S : Nat → Int32} (hI : kI c S) (hk : k = 2 ∨ k = 4 ∨ k = 6 ∨ k = 7 ∨ 9 ≤ k ∧ k < 25) : kI c (jup1 S k v) := by
  obtain ⟨hO, P, T, D, g1, g2, g3, g4, g5, g6, gr, g7, g8⟩ := hI
  have en : mN (jup1 S k v) = mN S := by unfold mN; rw [jup1_ne (by omega)]
  have eo : ∀ i p, jup1 S k v (25 + 9 * i + p) = S (25 + 9 * i + p) := fun i p => jup1_ne (by omega)
  have ek : ∀ i, kmk (jup1 S k v) i = kmk S i := fun i => by unfold kmk; rw [eo]
  refine ⟨⟨by rw [en, jup1_ne (by omega)]; exact hO.1, by rw [en]; exact hO.2⟩, P, T, D, by rw [jup1_ne (by omega)]; exact g1, g2, by rw [jup1_ne (by omega)]; exact g3, g4, by rw [jup1_ne (by omega)]; exact g5, by rw [jup1_ne (by omega)]; exact g6, fun i hi => ?_, fun i hi => ?_, fun i j hij hj => ?_⟩
  · rw [en] at hi
    exact kRo_g (g := fun p => S (25 + 9 * i + p)) (fun p hp => eo i p) (gr i hi)
  · rw [en] at hi
    rw [ek, eo]
    exact g7 i hi
  · rw [en] at hj
    rw [ek, ek]
    exact g8 i j hij hj
theorem kR_d {τ : jgS} {h : Nat} {v : Int32} {S : Nat → Int32} (hR : kR τ h S) (hn : mN S ≤ 24) : kR (jwI τ h 6 v) h (jup1 S 2 v) := by
  obtain ⟨h1, h2, h3, h4⟩ := hR
  have en : mN (jup1 S 2 v) = mN S := by unfold mN; rw [jup1_ne (by decide)]
  have o : ∀ a, ¬ a = h → (jwI τ h 6 v).1 a = τ.1 a := fun a ha => funext fun k => by rw [jI_wI, if_neg (fun z => ha z.1)]
  have oh : ∀ k, ¬ k = 6 → (jwI τ h 6 v).1 h k = τ.1 h k := fun k hk => by rw [jI_wI, if_neg (fun z => hk z.2)]
  refine ⟨⟨by rw [oh 3 (by decide), jup1_ne (by decide)]; exact h1.1, by rw [oh 4 (by decide), jup1_ne (by decide)]; exact h1.2.1, by rw [oh 5 (by decide), jup1_ne (by decide)]; exact h1.2.2.1, by rw [jI_wI, if_pos ⟨rfl, rfl⟩, jup1_at], by rw [oh 7 (by decide), jup1_ne (by decide)]; exact h1.2.2.2.2⟩, fun k hk => by rw [o _ (by omega), jup1_ne (by omega)]; exact h2 k hk, fun r hr p hp => by rw [o _ (by omega), jup1_ne (by omega)]; exact h3 r hr p hp, fun i hi => ?_⟩
  rw [en] at hi
  rw [o _ (by omega)]
  exact kRw_g (g := fun p => S (25 + 9 * i + p)) (fun p hp => jup1_ne (by omega)) (h4 i hi)
theorem kR_set {τ : jgS} {h s : Nat} {v : Int32} {S : Nat → Int32} (hR : kR τ h S) (hn : mN S ≤ 24) (hs : s < 4) : kR (jwI τ (h + 3) s v) h (jup1 S (5 + s) v) := by
  obtain ⟨h1, h2, h3, h4⟩ := hR
  have en : mN (jup1 S (5 + s) v) = mN S := by unfold mN; rw [jup1_ne (by omega)]
  have o : ∀ a, ¬ a = h + 3 → (jwI τ (h + 3) s v).1 a = τ.1 a := fun a ha => funext fun k => by rw [jI_wI, if_neg (fun z => ha z.1)]
  refine ⟨by rw [o h (by omega), jup1_ne (by omega), jup1_ne (by omega), jup1_ne (by omega), jup1_ne (by omega), jup1_ne (by omega)]; exact h1, fun k hk => ?_, fun r hr p hp => by rw [o _ (by omega), jup1_ne (by omega)]; exact h3 r hr p hp, fun i hi => ?_⟩
  · rw [jI_wI]
    by_cases e : k = s
    · subst e
      rw [if_pos ⟨rfl, rfl⟩, jup1_at]
    · rw [if_neg (fun z => e z.2), jup1_ne (by omega)]
      exact h2 k hk
  · rw [en] at hi
    rw [o _ (by omega)]
    exact kRw_g (g := fun p => S (25 + 9 * i + p)) (fun p hp => jup1_ne (by omega)) (h4 i hi)
theorem kI_set0 {c D' : Nat} {S : Nat → Int32} (hI : kI c S) (h1 : 1 ≤ D') (h2 : D' ≤ 99) : kI c (jup1 S 5 (nI D')) := by
  obtain ⟨hO, P, T, D, g1, g2, g3, g4, g5, g6, gr, g7, g8⟩ := hI
  have en : mN (jup1 S 5 (nI D')) = mN S := by unfold mN; rw [jup1_ne (by omega)]
  have eo : ∀ i p, jup1 S 5 (nI D') (25 + 9 * i + p) = S (25 + 9 * i + p) := fun i p => jup1_ne (by omega)
  have ek : ∀ i, kmk (jup1 S 5 (nI D')) i = kmk S i := fun i => by unfold kmk; rw [eo]
  refine ⟨⟨by rw [en, jup1_ne (by omega)]; exact hO.1, by rw [en]; exact hO.2⟩, P, T, D', by rw [jup1_ne (by omega)]; exact g1, g2, by rw [jup1_ne (by omega)]; exact g3, g4, ⟨jup1_at _ _ _, h1, h2⟩, by rw [jup1_ne (by omega)]; exact g6, fun i hi => ?_, fun i hi => ?_, fun i j hij hj => ?_⟩
  · rw [en] at hi
    exact kRo_g (g := fun p => S (25 + 9 * i + p)) (fun p hp => eo i p) (gr i hi)
  · rw [en] at hi
    rw [ek, eo]
    exact g7 i hi
  · rw [en] at hj
    rw [ek, ek]
    exact g8 i j hij hj
theorem kI_set3 {c : Nat} {v : Int32} {S : Nat → Int32} (hI : kI c S) (hv : vp_in v 25) : kI c (jup1 S 8 v) := by
  obtain ⟨hO, P, T, D, g1, g2, g3, g4, g5, g6, gr, g7, g8⟩ := hI
  have en : mN (jup1 S 8 v) = mN S := by unfold mN; rw [jup1_ne (by omega)]
  have eo : ∀ i p, jup1 S 8 v (25 + 9 * i + p) = S (25 + 9 * i + p) := fun i p => jup1_ne (by omega)
  have ek : ∀ i, kmk (jup1 S 8 v) i = kmk S i := fun i => by unfold kmk; rw [eo]
  refine ⟨⟨by rw [en, jup1_ne (by omega)]; exact hO.1, by rw [en]; exact hO.2⟩, P, T, D, by rw [jup1_ne (by omega)]; exact g1, g2, by rw [jup1_ne (by omega)]; exact g3, g4, by rw [jup1_ne (by omega)]; exact g5, by rw [jup1_at]; exact hv, fun i hi => ?_, fun i hi => ?_, fun i j hij hj => ?_⟩
  · rw [en] at hi
    exact kRo_g (g := fun p => S (25 + 9 * i + p)) (fun p hp => eo i p) (gr i hi)
  · rw [en] at hi
    rw [ek, eo]
    exact g7 i hi
  · rw [en] at hj
    rw [ek, ek]
    exact g8 i j hij hj
