/-! what a call comes to, on both sides -/
def kE6 (σ τ : jgS) : Prop := τ.2 = σ.2 ∨ τ.2 = (jwh σ 6).2
theorem kE6_E {σ τ : jgS} (h : kE6 σ τ) : kE σ τ := by
  rcases h with h | h
  · exact kE_2 h
  · exact ⟨by rw [h]; rfl, by unfold jwt; rw [h]; rfl⟩
/-- both answer alike: with a number, or the class throws and the reference says so -/
def kAg (ex : List String) (m : Nat) (r1 r2 : jgR) : Prop := (∃ v, r1.1 = .inl (some (.int v)) ∧ r2.1 = .inl (some (.int v)) ∧ r2.2.1 m 0 = 0) ∨ ∃ (E : String) (i : Nat), r1.1 = .inr E ∧ ex[i]? = some E ∧ r2.2.1 m 0 = nI (i + 1) ∧ ∃ v, r2.1 = .inl (some (.int v))
def kFr (σ τ : jgS) (x : Nat) : Prop := kE6 σ τ ∧ ∀ a, x + 233 ≤ a → τ.1 a = σ.1 a
def kRes (G : jgG) (d : Nat) (σ : jgS) (x : Nat) (ex : List String) (r1 r2 : jgR) : Prop := kAg ex (x + 233) r1 r2 ∧ kFr σ r1.2 x ∧ r2.2.2 = r1.2.2 ∧ kF G d r2.2 x
theorem jMO_cg {G : jgG} {σ τ : jgS} {x : Nat} (h : kFr σ τ x) (hM : jMO G σ (x + 233)) : jMO G τ (x + 233) := by
  obtain ⟨h1, h2, h3, h4, h5, h6⟩ := hM
  have e := kE6_E h.1
  have e1 := h.2 (x + 233 + 1) (by omega)
  have e2 := h.2 (x + 233) (Nat.le_refl _)
  exact ⟨by rw [e.1, e.2]; exact h1, by rw [e1]; exact h2, by rw [e1]; exact h3, by rw [e1]; exact h4, by rw [e2]; exact h5, by rw [e2]; exact h6⟩
theorem mKeep_cg {σ τ : jgS} {m : Nat} (h4 : τ.1 m 4 = σ.1 m 4) (h1 : τ.1 (m + 1) = σ.1 (m + 1)) (h3 : τ.1 (m + 3) = σ.1 (m + 3)) : (∀ k, (mKeep τ m).1 (m + 3) k = (mKeep σ m).1 (m + 3) k) ∧ (mKeep τ m).1 m 4 = (mKeep σ m).1 m 4 := by
  have e1 : mz τ m = mz σ m := by unfold mz; rw [h4]
  have e2 : mz1 τ m = mz1 σ m := by unfold mz1; rw [e1]
  refine ⟨fun k => ?_, by rw [mkeep_4, mkeep_4, e2]⟩
  unfold mKeep
  have n4 : ¬ (m + 3 = m ∧ k = 4) := by omega
  rw [e1, e2, jI_wI, if_neg n4, jI_wI, if_neg n4]
  unfold jcc
  dsimp only
  by_cases c : (m + 3 = m + 3 ∧ 241 * mz1 σ m ≤ k ∧ k < 241 * mz1 σ m + 241)
  · have n1 : ∀ j, ¬ (m + 1 = m ∧ j = 4) := fun j => by omega
    rw [if_pos c, if_pos c, jI_wI, if_neg (n1 _), jI_wI, if_neg (n1 _), msh_ne (by omega), msh_ne (by omega), h1]
  · rw [if_neg c, if_neg c, jI_wI, if_neg n4, jI_wI, if_neg n4]
    unfold msh
    dsimp only
    rw [h3]
/-- the class's side behind keep: only its table and its look are changed -/
def kCop (σ τ : jgS) (x : Nat) : Prop := τ.2 = σ.2 ∧ ∀ a, ¬ (x + 1 ≤ a ∧ a < x + 33) → ¬ a = x + 232 → τ.1 a = (jHkeep σ (x + 33) (x + 1)).1 a
theorem kCop_K (σ : jgS) (x : Nat) : kCop σ (jHkeep σ (x + 33) (x + 1)) x := ⟨rfl, fun _ _ _ => rfl⟩
theorem kCop_c {σ τ υ : jgS} {x : Nat} (h : kCop σ τ x) (h2 : υ.2 = τ.2) (ho : ∀ a, ¬ (x + 1 ≤ a ∧ a < x + 33) → ¬ a = x + 232 → υ.1 a = τ.1 a) : kCop σ υ x := ⟨h2.trans h.1, fun a h1 h3 => (ho a h1 h3).trans (h.2 a h1 h3)⟩
theorem kCop_w {σ τ : jgS} {x a k : Nat} {v : Int32} (h : kCop σ τ x) (h1 : x + 1 ≤ a) (h2 : a < x + 33) : kCop σ (jwI τ a k v) x := kCop_c h rfl (fun b hb _ => funext fun j => by rw [jI_wI, if_neg (fun z => hb (by omega))])
/-- the reference's side: saved, the state is S', thrown is 0 -/
def kMop (σ τ : jgS) (m : Nat) (S' : Nat → Int32) : Prop := τ.2 = σ.2 ∧ (∀ a, a < m → τ.1 a = σ.1 a) ∧ τ.1 (m + 1) = S' ∧ (∀ k, τ.1 (m + 3) k = (mKeep (jwI σ m 0 0) m).1 (m + 3) k) ∧ τ.1 m 4 = (mKeep (jwI σ m 0 0) m).1 m 4 ∧ τ.1 m 6 = σ.1 m 6 ∧ τ.1 (m + 4) = σ.1 (m + 4) ∧ τ.1 m 0 = 0
theorem kMop_S (σ : jgS) (m : Nat) (S' : Nat → Int32) : kMop σ (jwS (mKeep (jwI σ m 0 0) m) m S') m S' := by
  have o : ∀ a k, ¬ a = m + 1 → ¬ (a = m ∧ k = 4) → ¬ a = m + 3 → ¬ (a = m ∧ k = 0) → (jwS (mKeep (jwI σ m 0 0) m) m S').1 a k = σ.1 a k := fun a k h1 h2 h3 h4 => by rw [jwS_ne h1, mKp_ne h2 h3, jI_wI, if_neg h4]
  refine ⟨rfl, fun a ha => funext fun k => o a k (by omega) (by omega) (by omega) (by omega), jwS_S _ _ _, fun k => jwS_ne (by omega) k, jwS_ne (by omega) 4, o m 6 (by omega) (by omega) (by omega) (by omega), funext fun k => o (m + 4) k (by omega) (by omega) (by omega) (by omega), ?_⟩
  rw [jwS_ne (by omega), mKp_ne (by omega) (by omega), jI_wI, if_pos ⟨rfl, rfl⟩]
theorem kF_2 {G : jgG} {c d : Nat} {σ σ1 σ2 : jgS} {x : Nat} {S' : Nat → Int32} (hF : kF G c σ x) (hcd : c ≤ d) (hC : kCop σ σ1 x) (hM : kMop σ1 σ2 (x + 233) S') (hR : kR σ1 (x + 1) S') (hI : kI d S') : kF G d σ2 x ∧ kFr σ σ1 x := by
  obtain ⟨c2, co⟩ := hC
  obtain ⟨m2, mo, m1, m3, m4, m6, mb, m0⟩ := hM
  have hn : jn σ (x + 1) ≤ 24 := hF.1.2.1.2.2
  have hK : ∀ a, (x + 233 ≤ a ∨ a = x + 227 ∨ a = x + 227 + 1) → (jHkeep σ (x + 33) (x + 1)).1 a = σ.1 a := fun a ha => funext fun k => jHk_out hn (by omega) (by omega)
  have s1 : ∀ a, x + 233 ≤ a → σ1.1 a = σ.1 a := fun a ha => (co a (by omega) (by omega)).trans (hK a (Or.inl ha))
  have b1 : σ1.1 (x + 227) = σ.1 (x + 227) := (co _ (by omega) (by omega)).trans (hK _ (by omega))
  have b2 : σ1.1 (x + 227 + 1) = σ.1 (x + 227 + 1) := (co _ (by omega) (by omega)).trans (hK _ (by omega))
  obtain ⟨q3, q4⟩ := mKeep_cg (σ := σ) (τ := jwI σ1 (x + 233) 0 0) (m := x + 233) (by rw [jI_wI, if_neg (by omega), s1 _ (Nat.le_refl _)]) (by rw [mth_S, s1 _ (by omega)]) (funext fun k => by rw [jI_wI, if_neg (by omega), s1 _ (by omega)])
  refine ⟨kF_op hF hcd (kE_2 (m2.trans c2)) (fun a h1 h2 => (mo a (by omega)).trans (co a (by omega) (by omega))) m1 (kR_cg (fun a _ _ => mo a (by omega)) hI.1.2 hR) hI (fun k => (m3 k).trans (q3 k)) (m4.trans q4) ?_ ?_ ?_, Or.inl c2, s1⟩
  · rw [mo _ (by omega), b1]; exact hF.1.2.2.2.1.2.2.2
  · rw [mo _ (by omega), b1, m6, s1 _ (Nat.le_refl _)]; exact hF.2.2.2.2.2.1
  · rw [mo _ (by omega), b2, mb, s1 _ (by omega)]; exact hF.2.2.2.2.2.2
/-- thrown, on both sides -/
theorem kF_th {G : jgG} {c d : Nat} {σ σ1 : jgS} {x : Nat} {t : Int32} (hF : kF G c σ x) (hcd : c ≤ d) (hE : kE σ σ1) (h1 : ∀ a, a < x + 227 → σ1.1 a = σ.1 a) (h2 : σ1.1 (x + 227) 1 = σ.1 (x + 227) 1) (h3 : σ1.1 (x + 227 + 1) = σ.1 (x + 227 + 1)) (h4 : ∀ a, x + 233 ≤ a → σ1.1 a = σ.1 a) : kF G d (jwI σ1 (x + 233) 0 t) x := by
  have o : ∀ a, ¬ a = x + 233 → (jwI σ1 (x + 233) 0 t).1 a = σ1.1 a := fun a ha => funext fun k => by rw [jI_wI, if_neg (fun z => ha z.1)]
  have om : ∀ k, ¬ k = 0 → (jwI σ1 (x + 233) 0 t).1 (x + 233) k = σ1.1 (x + 233) k := fun k hk => by rw [jI_wI, if_neg (fun z => hk z.2)]
  have hF' : kF G c (jwI σ1 (x + 233) 0 t) x := kF_ro hF (kE_t hE (kE_2 rfl)) (fun a ha => (o a (by omega)).trans (h1 a ha)) (by rw [o _ (by omega)]; exact h2) (by rw [o _ (by omega)]; exact h3) ((om 4 (by decide)).trans (by rw [h4 _ (Nat.le_refl _)])) ((om 6 (by decide)).trans (by rw [h4 _ (Nat.le_refl _)])) ((o _ (by omega)).trans (h4 _ (by omega))) ((o _ (by omega)).trans (h4 _ (by omega))) ((o _ (by omega)).trans (h4 _ (by omega)))
  obtain ⟨g1, g2, g3, g4, ⟨g5, g5'⟩, g6, g7⟩ := hF'
  exact ⟨g1, g2, g3, kI_mono hcd g4, ⟨g5, fun j hj => ⟨(g5' j hj).1, kI_mono hcd (g5' j hj).2⟩⟩, g6, g7⟩
theorem kF_mono {G : jgG} {c d : Nat} {σ : jgS} {x : Nat} (hcd : c ≤ d) (hF : kF G c σ x) : kF G d σ x := by
  obtain ⟨g1, g2, g3, g4, ⟨g5, g5'⟩, g6, g7⟩ := hF
  exact ⟨g1, g2, g3, kI_mono hcd g4, ⟨g5, fun j hj => ⟨(g5' j hj).1, kI_mono hcd (g5' j hj).2⟩⟩, g6, g7⟩
/-- the class threw at once, the reference says t -/
theorem kTh {G : jgG} {c : Nat} {σ : jgS} {x i : Nat} {ex : List String} {E : String} {t : Int32} (hF : kF G c σ x) (he : ex[i]? = some E) (ht : t = nI (i + 1)) : kRes G (c + 1) σ x ex (.inr E, jwh σ 6) (.inl (some (.int 0)), jwI (jwh σ 6) (x + 233) 0 t) := by
  refine ⟨Or.inr ⟨E, i, rfl, he, ?_, 0, rfl⟩, ⟨Or.inr rfl, fun _ _ => rfl⟩, rfl, kF_th hF (by omega) (kE_h σ 6) (fun _ _ => rfl) rfl rfl (fun _ _ => rfl)⟩
  show (jwI (jwh σ 6) (x + 233) 0 t).1 (x + 233) 0 = _
  rw [jI_wI, if_pos ⟨rfl, rfl⟩]
  exact ht
/-- both kept and changed their tables alike -/
theorem kOp {G : jgG} {c : Nat} {σ σ1 σ2 : jgS} {x : Nat} {ex : List String} {S' : Nat → Int32} {v w : Int32} (hF : kF G c σ x) (hC : kCop σ σ1 x) (hM : kMop σ1 σ2 (x + 233) S') (hR : kR σ1 (x + 1) S') (hI : kI (c + 1) S') (hv : v = w) : kRes G (c + 1) σ x ex (.inl (some (.int v)), σ1) (.inl (some (.int w)), σ2) := by
  subst hv
  obtain ⟨h1, h2⟩ := kF_2 hF (Nat.le_succ c) hC hM hR hI
  exact ⟨Or.inl ⟨v, rfl, rfl, hM.2.2.2.2.2.2.2⟩, h2, hM.1, h1⟩
/-- both only looked -/
theorem kLook {G : jgG} {c : Nat} {σ σ1 σ2 : jgS} {x : Nat} {ex : List String} {v w : Int32} (hF : kF G c σ x) (h2 : σ1.2 = σ.2) (h1 : ∀ a, ¬ (x + 227 ≤ a ∧ a < x + 233) → σ1.1 a = σ.1 a) (hb : σ1.1 (x + 227) 1 = σ.1 (x + 227) 1) (hb2 : σ1.1 (x + 227 + 1) = σ.1 (x + 227 + 1)) (hm : mSm (x + 233) (jwI σ1 (x + 233) 0 0) σ2) (hv : v = w) : kRes G (c + 1) σ x ex (.inl (some (.int v)), σ1) (.inl (some (.int w)), σ2) := by
  subst hv
  have hm0 : σ2.1 (x + 233) 0 = 0 := by rw [mSm_m hm (by decide), jI_wI, if_pos ⟨rfl, rfl⟩]
  have lo : ∀ a, a < x + 233 → σ2.1 a = σ1.1 a := fun a ha => funext fun k => by rw [hm.2 a (by omega) (by omega) k (by omega), jI_wI, if_neg (by omega)]
  have hi : ∀ a, x + 233 ≤ a → σ1.1 a = σ.1 a := fun a ha => h1 a (by omega)
  have mm : ∀ k, 0 < k → k < 8 → σ2.1 (x + 233) k = σ.1 (x + 233) k := fun k h0 h8 => by rw [mSm_m hm h8, jI_wI, if_neg (by omega), hi _ (Nat.le_refl _)]
  have mo : ∀ a, x + 233 < a → ¬ a = x + 233 + 2 → ¬ a = x + 233 + 5 → σ2.1 a = σ.1 a := fun a ha n2 n5 => funext fun k => by rw [hm.2 a n2 n5 k (by omega), jI_wI, if_neg (by omega), hi a (by omega)]
  refine ⟨Or.inl ⟨v, rfl, rfl, hm0⟩, ⟨Or.inl h2, hi⟩, hm.1, kF_mono (Nat.le_succ c) (kF_ro hF (kE_2 (hm.1.trans h2)) (fun a ha => (lo a (by omega)).trans (h1 a (by omega))) (by rw [lo _ (by omega)]; exact hb) (by rw [lo _ (by omega)]; exact hb2) (mm 4 (by decide) (by decide)) (mm 6 (by decide) (by decide)) (mo _ (by omega) (by omega) (by omega)) (mo _ (by omega) (by omega) (by omega)) (mo _ (by omega) (by omega) (by omega)))⟩
/-! how a change of a table keeps the relation -/
theorem kRK {G : jgG} {c : Nat} {σ : jgS} {x : Nat} (hF : kF G c σ x) : kR (jHkeep σ (x + 33) (x + 1)) (x + 1) (σ.1 (x + 233 + 1)) := by
  have hn : jn σ (x + 1) ≤ 24 := hF.1.2.1.2.2
  exact kR_cg (fun a h1 h2 => funext fun k => jHk_out hn (by omega) (by omega)) hF.2.2.2.1.1.2 hF.2.2.1
theorem kR_row {τ υ : jgS} {h q : Nat} {S S' : Nat → Int32} (hR : kR τ h S) (hq : q < mN S) (hn : mN S ≤ 24) (ht : ∀ a, h ≤ a → a < h + 32 → ¬ a = h + 4 + q → υ.1 a = τ.1 a) (hs : ∀ k, ¬ (25 + 9 * q ≤ k ∧ k < 25 + 9 * q + 9) → S' k = S k) (hr : kRw (υ.1 (h + 4 + q)) (fun p => S' (25 + 9 * q + p))) : kR υ h S' := by
  obtain ⟨h1, h2, h3, h4⟩ := hR
  have en : mN S' = mN S := by unfold mN; rw [hs 0 (by omega)]
  refine ⟨by rw [ht h (by omega) (by omega) (by omega), hs 0 (by omega), hs 1 (by omega), hs 2 (by omega), hs 3 (by omega), hs 4 (by omega)]; exact h1, fun k hk => by rw [ht _ (by omega) (by omega) (by omega), hs _ (by omega)]; exact h2 k hk, fun r hr p hp => by rw [ht _ (by omega) (by omega) (by omega), hs _ (by omega)]; exact h3 r hr p hp, fun i hi => ?_⟩
  rw [en] at hi
  by_cases e : i = q
  · subst e; exact hr
  · rw [ht _ (by omega) (by omega) (by omega)]
    exact kRw_g (g := fun p => S (25 + 9 * i + p)) (fun p hp => hs _ (by omega)) (h4 i hi)
theorem kI_row {c q : Nat} {S S' : Nat → Int32} (hI : kI c S) (hq : q < mN S) (hs : ∀ k, ¬ (25 + 9 * q ≤ k ∧ k < 25 + 9 * q + 9) → S' k = S k) (h2 : S' (25 + 9 * q + 2) = S (25 + 9 * q + 2)) (hr : ∀ T : Nat, S 3 = nI T → T ≤ 9999 → kRo c T (fun p => S (25 + 9 * q + p)) → kRo c T (fun p => S' (25 + 9 * q + p))) : kI c S' := by
  obtain ⟨hO, P, T, D, g1, g2, g3, g4, g5, g6, gr, g7, g8⟩ := hI
  have en : mN S' = mN S := by unfold mN; rw [hs 0 (by omega)]
  have e2 : ∀ i, i < mN S → S' (25 + 9 * i + 2) = S (25 + 9 * i + 2) := fun i hi => by
    by_cases e : i = q
    · subst e; exact h2
    · exact hs _ (by omega)
  have ek : ∀ i, i < mN S → kmk S' i = kmk S i := fun i hi => by unfold kmk; rw [e2 i hi]
  refine ⟨⟨by rw [en, hs 0 (by omega)]; exact hO.1, by rw [en]; exact hO.2⟩, P, T, D, by rw [hs 1 (by omega)]; exact g1, g2, by rw [hs 3 (by omega)]; exact g3, g4, by rw [hs 5 (by omega)]; exact g5, by rw [hs 8 (by omega)]; exact g6, fun i hi => ?_, fun i hi => ?_, fun i j hij hj => ?_⟩
  · rw [en] at hi
    by_cases e : i = q
    · subst e; exact hr T g3 g4 (gr i hi)
    · exact kRo_g (g := fun p => S (25 + 9 * i + p)) (fun p hp => hs _ (by omega)) (gr i hi)
  · rw [en] at hi
    rw [ek i hi, e2 i hi]
    exact g7 i hi
  · rw [en] at hj
    rw [ek i (by omega), ek j hj]
    exact g8 i j hij hj
theorem kR_rd {τ : jgS} {h r p : Nat} {v : Int32} {S : Nat → Int32} (hR : kR τ h S) (hn : mN S ≤ 24) (hr : r < 4) (hp : p < 4) : kR (jwI τ (h + 28 + r) p v) h (jup1 S (9 + 4 * r + p) v) := by
  obtain ⟨h1, h2, h3, h4⟩ := hR
  have en : mN (jup1 S (9 + 4 * r + p) v) = mN S := by unfold mN; rw [jup1_ne (by omega)]
  have o : ∀ a, ¬ a = h + 28 + r → (jwI τ (h + 28 + r) p v).1 a = τ.1 a := fun a ha => funext fun k => by rw [jI_wI, if_neg (fun z => ha z.1)]
  refine ⟨by rw [o h (by omega), jup1_ne (by omega), jup1_ne (by omega), jup1_ne (by omega), jup1_ne (by omega), jup1_ne (by omega)]; exact h1, fun k hk => by rw [o _ (by omega), jup1_ne (by omega)]; exact h2 k hk, fun r' hr' p' hp' => ?_, fun i hi => ?_⟩
  · rw [jI_wI]
    by_cases e : r' = r ∧ p' = p
    · obtain ⟨rfl, rfl⟩ := e
      rw [if_pos ⟨rfl, rfl⟩, jup1_at]
    · rw [if_neg (by omega), jup1_ne (by omega)]
      exact h3 r' hr' p' hp'
  · rw [en] at hi
    rw [o _ (by omega)]
    exact kRw_g (g := fun p => S (25 + 9 * i + p)) (fun p hp => jup1_ne (by omega)) (h4 i hi)
theorem kI_lo {c k : Nat} {v : Int32} {S : Nat → Int32} (hI : kI c S) (hk : k = 2 ∨ k = 4 ∨ k = 6 ∨ k = 7 ∨ 9 ≤ k ∧ k < 25) : kI c (jup1 S k v) := by
  obtain ⟨hO, P, T, D, g1, g2, g3, g4, g5, g6, gr, g7, g8⟩ := hI
  have en : mN (jup1 S k v) = mN S := by unfold mN; rw [jup1_ne (by omega)]
  have eo : ∀ i p, jup1 S k v (25 + 9 * i + p) = S (25 + 9 * i + p) := fun i p => jup1_ne (by omega)
  have ek : ∀ i, kmk (jup1 S k v) i = kmk S i := fun i => by unfold kmk; rw [eo]
  refine ⟨⟨by rw [en, jup1_ne (by omega)]; exact hO.1, by rw [en]; exact hO.2⟩, P, T, D, by rw [jup1_ne (by omega)]; exact g1, g2, by rw [jup1_ne (by omega)]; exact g3, g4, by rw [jup1_ne (by omega)]; exact g5, by rw [jup1_ne (by omega)]; exact g6, fun i hi => ?_, fun i hi => ?_, fun i j hij hj => ?_⟩
  · rw [en] at hi
    exact kRo_g (g := fun p => S (25 + 9 * i + p)) (fun p hp => eo i p) (gr i hi)
  · rw [en] at hi
    rw [ek, eo]
    exact g7 i hi
  · rw [en] at hj
    rw [ek, ek]
    exact g8 i j hij hj
theorem kR_d {τ : jgS} {h : Nat} {v : Int32} {S : Nat → Int32} (hR : kR τ h S) (hn : mN S ≤ 24) : kR (jwI τ h 6 v) h (jup1 S 2 v) := by
  obtain ⟨h1, h2, h3, h4⟩ := hR
  have en : mN (jup1 S 2 v) = mN S := by unfold mN; rw [jup1_ne (by decide)]
  have o : ∀ a, ¬ a = h → (jwI τ h 6 v).1 a = τ.1 a := fun a ha => funext fun k => by rw [jI_wI, if_neg (fun z => ha z.1)]
  have oh : ∀ k, ¬ k = 6 → (jwI τ h 6 v).1 h k = τ.1 h k := fun k hk => by rw [jI_wI, if_neg (fun z => hk z.2)]
  refine ⟨⟨by rw [oh 3 (by decide), jup1_ne (by decide)]; exact h1.1, by rw [oh 4 (by decide), jup1_ne (by decide)]; exact h1.2.1, by rw [oh 5 (by decide), jup1_ne (by decide)]; exact h1.2.2.1, by rw [jI_wI, if_pos ⟨rfl, rfl⟩, jup1_at], by rw [oh 7 (by decide), jup1_ne (by decide)]; exact h1.2.2.2.2⟩, fun k hk => by rw [o _ (by omega), jup1_ne (by omega)]; exact h2 k hk, fun r hr p hp => by rw [o _ (by omega), jup1_ne (by omega)]; exact h3 r hr p hp, fun i hi => ?_⟩
  rw [en] at hi
  rw [o _ (by omega)]
  exact kRw_g (g := fun p => S (25 + 9 * i + p)) (fun p hp => jup1_ne (by omega)) (h4 i hi)
theorem kR_set {τ : jgS} {h s : Nat} {v : Int32} {S : Nat → Int32} (hR : kR τ h S) (hn : mN S ≤ 24) (hs : s < 4) : kR (jwI τ (h + 3) s v) h (jup1 S (5 + s) v) := by
  obtain ⟨h1, h2, h3, h4⟩ := hR
  have en : mN (jup1 S (5 + s) v) = mN S := by unfold mN; rw [jup1_ne (by omega)]
  have o : ∀ a, ¬ a = h + 3 → (jwI τ (h + 3) s v).1 a = τ.1 a := fun a ha => funext fun k => by rw [jI_wI, if_neg (fun z => ha z.1)]
  refine ⟨by rw [o h (by omega), jup1_ne (by omega), jup1_ne (by omega), jup1_ne (by omega), jup1_ne (by omega), jup1_ne (by omega)]; exact h1, fun k hk => ?_, fun r hr p hp => by rw [o _ (by omega), jup1_ne (by omega)]; exact h3 r hr p hp, fun i hi => ?_⟩
  · rw [jI_wI]
    by_cases e : k = s
    · subst e
      rw [if_pos ⟨rfl, rfl⟩, jup1_at]
    · rw [if_neg (fun z => e z.2), jup1_ne (by omega)]
      exact h2 k hk
  · rw [en] at hi
    rw [o _ (by omega)]
    exact kRw_g (g := fun p => S (25 + 9 * i + p)) (fun p hp => jup1_ne (by omega)) (h4 i hi)
theorem kI_set0 {c D' : Nat} {S : Nat → Int32} (hI : kI c S) (h1 : 1 ≤ D') (h2 : D' ≤ 99) : kI c (jup1 S 5 (nI D')) := by
  obtain ⟨hO, P, T, D, g1, g2, g3, g4, g5, g6, gr, g7, g8⟩ := hI
  have en : mN (jup1 S 5 (nI D')) = mN S := by unfold mN; rw [jup1_ne (by omega)]
  have eo : ∀ i p, jup1 S 5 (nI D') (25 + 9 * i + p) = S (25 + 9 * i + p) := fun i p => jup1_ne (by omega)
  have ek : ∀ i, kmk (jup1 S 5 (nI D')) i = kmk S i := fun i => by unfold kmk; rw [eo]
  refine ⟨⟨by rw [en, jup1_ne (by omega)]; exact hO.1, by rw [en]; exact hO.2⟩, P, T, D', by rw [jup1_ne (by omega)]; exact g1, g2, by rw [jup1_ne (by omega)]; exact g3, g4, ⟨jup1_at _ _ _, h1, h2⟩, by rw [jup1_ne (by omega)]; exact g6, fun i hi => ?_, fun i hi => ?_, fun i j hij hj => ?_⟩
  · rw [en] at hi
    exact kRo_g (g := fun p => S (25 + 9 * i + p)) (fun p hp => eo i p) (gr i hi)
  · rw [en] at hi
    rw [ek, eo]
    exact g7 i hi
  · rw [en] at hj
    rw [ek, ek]
    exact g8 i j hij hj
theorem kI_set3 {c : Nat} {v : Int32} {S : Nat → Int32} (hI : kI c S) (hv : vp_in v 25) : kI c (jup1 S 8 v) := by
  obtain ⟨hO, P, T, D, g1, g2, g3, g4, g5, g6, gr, g7, g8⟩ := hI
  have en : mN (jup1 S 8 v) = mN S := by unfold mN; rw [jup1_ne (by omega)]
  have eo : ∀ i p, jup1 S 8 v (25 + 9 * i + p) = S (25 + 9 * i + p) := fun i p => jup1_ne (by omega)
  have ek : ∀ i, kmk (jup1 S 8 v) i = kmk S i := fun i => by unfold kmk; rw [eo]
  refine ⟨⟨by rw [en, jup1_ne (by omega)]; exact hO.1, by rw [en]; exact hO.2⟩, P, T, D, by rw [jup1_ne (by omega)]; exact g1, g2, by rw [jup1_ne (by omega)]; exact g3, g4, by rw [jup1_ne (by omega)]; exact g5, by rw [jup1_at]; exact hv, fun i hi => ?_, fun i hi => ?_, fun i j hij hj => ?_⟩
  · rw [en] at hi
    exact kRo_g (g := fun p => S (25 + 9 * i + p)) (fun p hp => eo i p) (gr i hi)
  · rw [en] at hi
    rw [ek, eo]
    exact g7 i hi
  · rw [en] at hj
    rw [ek, ek]
    exact g8 i j hij hj
