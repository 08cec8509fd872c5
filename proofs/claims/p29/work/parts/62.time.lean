/-! time goes on: many units at once, and one by one -/
theorem jct_dis {p q r : Nat → Prop} [DecidablePred p] [DecidablePred q] [DecidablePred r] {n : Nat} (h : ∀ i, i < n → (r i ↔ p i ∨ q i)) (hd : ∀ i, i < n → ¬ (p i ∧ q i)) : jct r n = jct p n + jct q n := by
  induction n with
  | zero => rfl
  | succ n ih =>
    have h1 := ih (fun i hi => h i (by omega)) (fun i hi => hd i (by omega))
    have h2 := h n (by omega)
    have h3 := hd n (by omega)
    by_cases hp : p n
    · have hq : ¬ q n := fun z => h3 ⟨hp, z⟩
      rw [jct_y (h2.mpr (Or.inl hp)), jct_y hp, jct_n hq, h1]
      omega
    · by_cases hq : q n
      · rw [jct_y (h2.mpr (Or.inr hq)), jct_n hp, jct_y hq, h1]
        omega
      · rw [jct_n (fun z => by rcases h2.mp z with y | y; exact hp y; exact hq y), jct_n hp, jct_n hq, h1]
def mMv (S : Nat → Int32) (u : Nat) : Nat → Int32 := fun c => if c = 3 then S 3 + nI u else if 9 ≤ c ∧ c < 25 ∧ (c - 9) % 4 = 3 then S c + nI (jct (fun j => (S (25 + 9 * j + 3) = 1 ∧ S (25 + 9 * j + 5) ≤ S 3 + nI u) ∧ S (25 + 9 * j + 4) = nI ((c - 9) / 4)) (mN S)) else if 25 ≤ c ∧ c < 25 + 9 * mN S then (if (S (25 + 9 * ((c - 25) / 9) + 3) = 1 ∧ S (25 + 9 * ((c - 25) / 9) + 5) ≤ S 3 + nI u) then (if (c - 25) % 9 = 3 then (if S (25 + 9 * ((c - 25) / 9) + 6) + 1 < S 6 then (0 : Int32) else 3) else if (c - 25) % 9 = 6 then S (25 + 9 * ((c - 25) / 9) + 6) + 1 else S c) else S c) else S c
theorem mMv_r {S : Nat → Int32} {u j p : Nat} (hj : j < mN S) (hp : p < 9) : mMv S u (25 + 9 * j + p) = if (S (25 + 9 * j + 3) = 1 ∧ S (25 + 9 * j + 5) ≤ S 3 + nI u) then (if p = 3 then (if S (25 + 9 * j + 6) + 1 < S 6 then (0 : Int32) else 3) else if p = 6 then S (25 + 9 * j + 6) + 1 else S (25 + 9 * j + p)) else S (25 + 9 * j + p) := by
  unfold mMv
  rw [if_neg (by omega), if_neg (by omega), if_pos (by omega), show (25 + 9 * j + p - 25) / 9 = j by omega, show (25 + 9 * j + p - 25) % 9 = p by omega]
theorem mMv_e {S : Nat → Int32} {u r : Nat} (hr : r < 4) : mMv S u (9 + 4 * r + 3) = S (9 + 4 * r + 3) + nI (jct (fun j => (S (25 + 9 * j + 3) = 1 ∧ S (25 + 9 * j + 5) ≤ S 3 + nI u) ∧ S (25 + 9 * j + 4) = nI r) (mN S)) := by
  unfold mMv
  rw [if_neg (by omega), if_pos (by omega), show (9 + 4 * r + 3 - 9) / 4 = r by omega]
theorem mMv_3 (S : Nat → Int32) (u : Nat) : mMv S u 3 = S 3 + nI u := if_pos rfl
theorem mMv_lo {S : Nat → Int32} {u c : Nat} (h3 : ¬ c = 3) (hr : ¬ (9 ≤ c ∧ c < 25 ∧ (c - 9) % 4 = 3)) (hc : ¬ (25 ≤ c ∧ c < 25 + 9 * mN S)) : mMv S u c = S c := (if_neg h3).trans ((if_neg hr).trans (if_neg hc))
section KT
variable {S : Nat → Int32} {c : Nat}
theorem kD_n (hI : kI c S) {u j : Nat} (hu : u ≤ 1000) (hj : j < mN S) : ∃ T L : Nat, S 3 = nI T ∧ ((S (25 + 9 * j + 3) = 1 ∧ S (25 + 9 * j + 5) ≤ S 3 + nI u) ↔ S (25 + 9 * j + 3) = 1 ∧ L ≤ T + u) ∧ (S (25 + 9 * j + 3) = 1 → S (25 + 9 * j + 5) = nI L ∧ T < L ∧ L ≤ 10098) ∧ T ≤ 9999 := by
  obtain ⟨hO, P, T, D, h1, h2, h3, h4, h5, h6, hr, h7, h8⟩ := hI
  by_cases hs : S (25 + 9 * j + 3) = 1
  · obtain ⟨_, L, e5, l1, l2⟩ := (hr j hj).2.2.2.1 hs
    have e5 : S (25 + 9 * j + 5) = nI L := e5
    refine ⟨T, L, h3, ?_, fun _ => ⟨e5, l1, l2⟩, h4⟩
    rw [e5, h3, nI_add, ji_le, nI_ltI (by omega) (by omega)]
    constructor
    · exact fun z => ⟨z.1, by omega⟩
    · exact fun z => ⟨z.1, by omega⟩
  · exact ⟨T, 0, h3, ⟨fun z => absurd z.1 hs, fun z => absurd z.1 hs⟩, fun z => absurd z hs, h4⟩
theorem kD_s (hI : kI c S) {u j : Nat} (hu : u < 1000) (hj : j < mN S) : ((S (25 + 9 * j + 3) = 1 ∧ S (25 + 9 * j + 5) ≤ S 3 + nI (u + 1)) ↔ (S (25 + 9 * j + 3) = 1 ∧ S (25 + 9 * j + 5) ≤ S 3 + nI u) ∨ (S (25 + 9 * j + 3) = 1 ∧ S (25 + 9 * j + 5) = S 3 + nI u + 1)) ∧ ¬ ((S (25 + 9 * j + 3) = 1 ∧ S (25 + 9 * j + 5) ≤ S 3 + nI u) ∧ (S (25 + 9 * j + 3) = 1 ∧ S (25 + 9 * j + 5) = S 3 + nI u + 1)) := by
  obtain ⟨T, L, e3, h1, h2, h4⟩ := kD_n hI (u := u) (by omega) hj
  obtain ⟨T', L', e3', h1', h2', h4'⟩ := kD_n hI (u := u + 1) (by omega) hj
  by_cases hs : S (25 + 9 * j + 3) = 1
  · obtain ⟨e5, l1, l2⟩ := h2 hs
    obtain ⟨e5', l1', l2'⟩ := h2' hs
    have inj : ∀ a b : Nat, a < 2 ^ 31 → b < 2 ^ 31 → nI a = nI b → a = b := fun a b ha hb z => by have := congrArg Int32.toNatClampNeg z; rwa [nI_clamp ha, nI_clamp hb] at this
    have eL : L' = L := inj _ _ (by omega) (by omega) (e5'.symm.trans e5)
    have eT : T' = T := inj _ _ (by omega) (by omega) (e3'.symm.trans e3)
    subst eL
    subst eT
    rw [h1, h1', e5, e3, nI_add, nI_1]
    have e6 : nI L' = nI (T' + u + 1) ↔ L' = T' + u + 1 := ⟨fun z => inj _ _ (by omega) (by omega) z, fun z => by rw [z]⟩
    rw [e6]
    constructor
    · constructor
      · intro z
        by_cases y : L' ≤ T' + u
        · exact Or.inl ⟨hs, y⟩
        · exact Or.inr ⟨hs, by omega⟩
      · rintro (z | z)
        · exact ⟨hs, by omega⟩
        · exact ⟨hs, by omega⟩
    · omega
  · exact ⟨⟨fun z => absurd z.1 hs, fun z => by rcases z with z | z <;> exact absurd z.1 hs⟩, fun z => hs z.1.1⟩
theorem eN_ne {a b : Int32} : ¬ (if a < b then (0 : Int32) else 3) = 1 := by split <;> decide
theorem mMv_N (u : Nat) : mN (mMv S u) = mN S := by
  unfold mN
  rw [mMv_lo (S := S) (by decide) (by omega) (by omega)]
/-- which holds end at the next unit -/
theorem kG_n {u j : Nat} (hj : j < mN S) : (mMv S u (25 + 9 * j + 3) = 1 ∧ mMv S u (25 + 9 * j + 5) = mMv S u 3 + 1) ↔ ¬ (S (25 + 9 * j + 3) = 1 ∧ S (25 + 9 * j + 5) ≤ S 3 + nI u) ∧ (S (25 + 9 * j + 3) = 1 ∧ S (25 + 9 * j + 5) = S 3 + nI u + 1) := by
  rw [mMv_r hj (by decide), mMv_r hj (by decide), mMv_3]
  by_cases hd : (S (25 + 9 * j + 3) = 1 ∧ S (25 + 9 * j + 5) ≤ S 3 + nI u)
  · rw [if_pos hd, if_pos rfl]
    exact ⟨fun z => absurd z.1 eN_ne, fun z => absurd hd z.1⟩
  · rw [if_neg hd, if_neg hd]
    exact ⟨fun z => ⟨hd, z⟩, fun z => z.2⟩
theorem kG_or (hI : kI c S) {u j : Nat} (hu : u < 1000) (hj : j < mN S) : ((S (25 + 9 * j + 3) = 1 ∧ S (25 + 9 * j + 5) ≤ S 3 + nI (u + 1)) ↔ (S (25 + 9 * j + 3) = 1 ∧ S (25 + 9 * j + 5) ≤ S 3 + nI u) ∨ (mMv S u (25 + 9 * j + 3) = 1 ∧ mMv S u (25 + 9 * j + 5) = mMv S u 3 + 1)) ∧ ¬ ((S (25 + 9 * j + 3) = 1 ∧ S (25 + 9 * j + 5) ≤ S 3 + nI u) ∧ (mMv S u (25 + 9 * j + 3) = 1 ∧ mMv S u (25 + 9 * j + 5) = mMv S u 3 + 1)) := by
  obtain ⟨h1, h2⟩ := kD_s hI hu hj
  rw [kG_n hj]
  constructor
  · rw [h1]
    constructor
    · rintro (z | z)
      · exact Or.inl z
      · by_cases y : (S (25 + 9 * j + 3) = 1 ∧ S (25 + 9 * j + 5) ≤ S 3 + nI u)
        · exact Or.inl y
        · exact Or.inr ⟨y, z⟩
    · rintro (z | z)
      · exact Or.inl z
      · exact Or.inr z.2
  · exact fun z => z.2.1 z.1
theorem mMv_step (hI : kI c S) {u : Nat} (hu : u < 1000) : mG (mMv S u) = mMv S (u + 1) := by
  funext a
  have hn := mMv_N (S := S) u
  have e6 : mMv S u 6 = S 6 := mMv_lo (by decide) (by omega) (by omega)
  unfold mG mGS
  rw [hn]
  by_cases h3 : a = 3
  · subst h3
    rw [if_pos rfl, mMv_3, mMv_3, ← nI_1, Int32.add_assoc]
  rw [if_neg h3]
  by_cases hr : 9 ≤ a ∧ a < 25 ∧ (a - 9) % 4 = 3
  · rw [if_pos hr]
    obtain ⟨r, hr4, rfl⟩ : ∃ r, r < 4 ∧ a = 9 + 4 * r + 3 := ⟨(a - 9) / 4, by omega, by omega⟩
    rw [show (9 + 4 * r + 3 - 9) / 4 = r by omega, mMv_e hr4, mMv_e hr4, Int32.add_assoc, nI_add]
    refine congrArg (fun z => S (9 + 4 * r + 3) + nI z) ?_
    refine (jct_dis (fun j hj => ?_) (fun j hj => ?_)).symm
    · rw [mMv_r (p := 4) hj (by decide), (kG_or hI hu hj).1]
      have e4 : (if (S (25 + 9 * j + 3) = 1 ∧ S (25 + 9 * j + 5) ≤ S 3 + nI u) then (if 4 = 3 then (if S (25 + 9 * j + 6) + 1 < S 6 then (0 : Int32) else 3) else if 4 = 6 then S (25 + 9 * j + 6) + 1 else S (25 + 9 * j + 4)) else S (25 + 9 * j + 4)) = S (25 + 9 * j + 4) := by
        split
        · rw [if_neg (by decide), if_neg (by decide)]
        · rfl
      rw [e4]
      constructor
      · rintro ⟨z | z, y⟩
        · exact Or.inl ⟨z, y⟩
        · exact Or.inr ⟨z, y⟩
      · rintro (z | z)
        · exact ⟨Or.inl z.1, z.2⟩
        · exact ⟨Or.inr z.1, z.2⟩
    · exact fun z => (kG_or hI hu hj).2 ⟨z.1.1, z.2.1⟩
  rw [if_neg hr]
  by_cases hc : 25 ≤ a ∧ a < 25 + 9 * mN S
  · rw [if_pos hc]
    obtain ⟨j, p, hj, hp, rfl⟩ : ∃ j p, j < mN S ∧ p < 9 ∧ a = 25 + 9 * j + p := ⟨(a - 25) / 9, (a - 25) % 9, by omega, by omega, by omega⟩
    rw [show (25 + 9 * j + p - 25) / 9 = j by omega, show (25 + 9 * j + p - 25) % 9 = p by omega, e6, mMv_r (u := u + 1) hj hp]
    obtain ⟨k1, k2⟩ := kG_or hI hu hj
    by_cases hg : mMv S u (25 + 9 * j + 3) = 1 ∧ mMv S u (25 + 9 * j + 5) = mMv S u 3 + 1
    · have hd : ¬ (S (25 + 9 * j + 3) = 1 ∧ S (25 + 9 * j + 5) ≤ S 3 + nI u) := fun z => k2 ⟨z, hg⟩
      rw [if_pos hg, if_pos (k1.mpr (Or.inr hg)), mMv_r (p := 6) hj (by decide), if_neg hd, mMv_r (p := p) hj hp, if_neg hd]
    · rw [if_neg hg, mMv_r hj hp]
      by_cases hd : (S (25 + 9 * j + 3) = 1 ∧ S (25 + 9 * j + 5) ≤ S 3 + nI u)
      · rw [if_pos hd, if_pos (k1.mpr (Or.inl hd))]
      · rw [if_neg hd, if_neg (fun z => by rcases k1.mp z with y | y; exact hd y; exact hg y)]
  · rw [if_neg hc, mMv_lo h3 hr hc, mMv_lo h3 hr hc]
theorem mMv_0 (hI : kI c S) : mMv S 0 = S := by
  funext a
  have nd : ∀ j, j < mN S → ¬ (S (25 + 9 * j + 3) = 1 ∧ S (25 + 9 * j + 5) ≤ S 3 + nI 0) := fun j hj z => by
    obtain ⟨T, L, e3, h1, h2, h4⟩ := kD_n hI (u := 0) (by omega) hj
    have := (h1.mp z).2
    have := (h2 z.1).2.1
    omega
  by_cases h3 : a = 3
  · subst h3
    rw [mMv_3]
    exact Int32.add_zero _
  by_cases hr : 9 ≤ a ∧ a < 25 ∧ (a - 9) % 4 = 3
  · obtain ⟨r, hr4, rfl⟩ : ∃ r, r < 4 ∧ a = 9 + 4 * r + 3 := ⟨(a - 9) / 4, by omega, by omega⟩
    rw [mMv_e hr4]
    have e : jct (fun j => (S (25 + 9 * j + 3) = 1 ∧ S (25 + 9 * j + 5) ≤ S 3 + nI 0) ∧ S (25 + 9 * j + 4) = nI r) (mN S) = 0 := by
      have key : ∀ n, n ≤ mN S → jct (fun j => (S (25 + 9 * j + 3) = 1 ∧ S (25 + 9 * j + 5) ≤ S 3 + nI 0) ∧ S (25 + 9 * j + 4) = nI r) n = 0 := by
        intro n
        induction n with
        | zero => intro _; rfl
        | succ n ih => exact fun hn => (jct_n (fun z => nd n (by omega) z.1)).trans (ih (by omega))
      exact key _ (Nat.le_refl _)
    rw [e]
    exact Int32.add_zero _
  by_cases hc : 25 ≤ a ∧ a < 25 + 9 * mN S
  · obtain ⟨j, p, hj, hp, rfl⟩ : ∃ j p, j < mN S ∧ p < 9 ∧ a = 25 + 9 * j + p := ⟨(a - 25) / 9, (a - 25) % 9, by omega, by omega, by omega⟩
    rw [mMv_r hj hp, if_neg (nd j hj)]
  · exact mMv_lo h3 hr hc
theorem kgo (hI : kI c S) : ∀ u, u ≤ 1000 → mGn S u = mMv S u ∧ mGcn S u = jct (fun j => (S (25 + 9 * j + 3) = 1 ∧ S (25 + 9 * j + 5) ≤ S 3 + nI u)) (mN S)
  | 0, _ => by
    refine ⟨(mMv_0 hI).symm, ?_⟩
    show 0 = _
    have key : ∀ n, n ≤ mN S → jct (fun j => (S (25 + 9 * j + 3) = 1 ∧ S (25 + 9 * j + 5) ≤ S 3 + nI 0)) n = 0 := by
      intro n
      induction n with
      | zero => intro _; rfl
      | succ n ih =>
        refine fun hn => (jct_n (fun z => ?_)).trans (ih (by omega))
        obtain ⟨T, L, e3, h1, h2, h4⟩ := kD_n hI (u := 0) (j := n) (by omega) (by omega)
        have := (h1.mp z).2
        have := (h2 z.1).2.1
        omega
    exact (key _ (Nat.le_refl _)).symm
  | u + 1, hu => by
    obtain ⟨h1, h2⟩ := kgo hI u (by omega)
    rw [mGn_s, mGcn_s, h1, h2, mMv_step hI (by omega)]
    refine ⟨rfl, ?_⟩
    unfold mGc
    rw [mMv_N]
    exact (jct_dis (fun j hj => (kG_or hI (by omega) hj).1) (fun j hj => (kG_or hI (by omega) hj).2)).symm
end KT
theorem kRw_g {f g g' : Nat → Int32} (e : ∀ p, p < 9 → g' p = g p) (h : kRw f g) : kRw f g' := by
  unfold kRw at *
  rw [e 0 (by decide), e 1 (by decide), e 2 (by decide), e 3 (by decide), e 4 (by decide), e 5 (by decide), e 6 (by decide), e 7 (by decide), e 8 (by decide)]
  exact h
theorem kRw_f {f f' g : Nat → Int32} (e : ∀ p, p < 9 → f' p = f p) (h : kRw f g) : kRw f' g := by
  unfold kRw at *
  rw [e 0 (by decide), e 1 (by decide), e 2 (by decide), e 3 (by decide), e 4 (by decide), e 5 (by decide), e 6 (by decide), e 7 (by decide), e 8 (by decide)]
  exact h
section KT2
variable {σ : jgS} {h c : Nat} {S : Nat → Int32}
theorem klax (hR : kR σ h S) {u j : Nat} (hj : j < mN S) : (σ.1 (h + 4 + j) 4 = 1 ∧ σ.1 (h + 4 + j) 6 ≤ σ.1 h 4 + nI u) ↔ (S (25 + 9 * j + 3) = 1 ∧ S (25 + 9 * j + 5) ≤ S 3 + nI u) := by
  rw [kf4 hR hj, kf6 hR hj, hR.1.2.1]
  constructor
  · rintro ⟨h1, h2⟩
    rw [if_pos h1] at h2
    exact ⟨h1, h2⟩
  · rintro ⟨h1, h2⟩
    rw [if_pos h1]
    exact ⟨h1, h2⟩
theorem kpassc (hR : kR σ h S) (hI : kI c S) {u : Nat} (hu : u ≤ 1000) : jct (fun j => σ.1 (h + 4 + j) 4 = 1 ∧ σ.1 (h + 4 + j) 6 ≤ σ.1 h 4 + nI u) (jn σ h) = mGcn S u := by
  rw [(kgo hI u hu).2, kn hR]
  exact jct_cg fun j hj => klax hR hj
theorem kip (hR : kR σ h S) (hI : kI c S) {u : Nat} (hu : u ≤ 1000) (w : Int32) : jipV σ h (nI u) w = mPV S u w := by
  unfold jipV mPV
  by_cases hw : w = 0
  · rw [if_pos hw, if_pos hw, kpassc hR hI hu]
  · rw [if_neg hw, if_neg hw, (kgo hI u hu).1, mMv_N, kn hR]
    refine congrArg nI (jct_dis (fun j hj => ?_) (fun j hj => ?_)).symm
    · rw [mMv_r hj (by decide), klax hR hj, kf4 hR hj, kf7 hR hj, hR.2.1 1 (by decide)]
      by_cases hd : (S (25 + 9 * j + 3) = 1 ∧ S (25 + 9 * j + 5) ≤ S 3 + nI u)
      · rw [if_pos hd, if_pos rfl]
        have e1 : ¬ S (25 + 9 * j + 3) = 3 := by rw [hd.1]; decide
        by_cases hl : S (25 + 9 * j + 6) + 1 < S 6
        · rw [if_pos hl]
          refine ⟨fun z => absurd z (by decide), fun z => ?_⟩
          rcases z with z | z
          · exact absurd z e1
          · exact absurd hl (ji_le.mp z.2)
        · rw [if_neg hl]
          exact ⟨fun _ => Or.inr ⟨hd, ji_le.mpr hl⟩, fun _ => rfl⟩
      · rw [if_neg hd]
        exact ⟨fun z => Or.inl z, fun z => by rcases z with z | z; exact z; exact absurd z.1 hd⟩
    · rw [klax hR hj, kf4 hR hj]
      exact fun z => absurd (z.1.symm.trans z.2.1.1) (by decide)
theorem kmv (hR : kR σ h S) (hI : kI c S) {u : Nat} (hu : u ≤ 1000) : kR (jsM σ h (σ.1 h 4 + nI u) (jn σ h)) h (mGn S u) := by
  rw [(kgo hI u hu).1]
  have hn24 := hI.1.2
  have hjn := kn hR
  have lo : ∀ c, ¬ c = 3 → c < 9 → mMv S u c = S c := fun c h1 h2 => mMv_lo h1 (by omega) (by omega)
  refine ⟨⟨?_, ?_, ?_, ?_, ?_⟩, fun k hk => ?_, fun r hr p hp => ?_, fun j hj => ?_⟩
  · rw [jsM_h, if_neg (by decide), hR.1.1, lo 0 (by decide) (by decide)]
  · rw [jsM_h, if_pos rfl, hR.1.2.1, mMv_3]
  · rw [jsM_h, if_neg (by decide), hR.1.2.2.1, lo 1 (by decide) (by decide)]
  · rw [jsM_h, if_neg (by decide), hR.1.2.2.2.1, lo 2 (by decide) (by decide)]
  · rw [jsM_h, if_neg (by decide), hR.1.2.2.2.2, lo 4 (by decide) (by decide)]
  · rw [jsM_3, hR.2.1 k hk, lo (5 + k) (by omega) (by omega)]
  · have eo : (jsM σ h (σ.1 h 4 + nI u) (jn σ h)).1 (h + 28 + r) p = (jRd (jwI σ h 4 (σ.1 h 4 + nI u)) h (fun r => jct (fun j => (σ.1 (h + 4 + j) 4 = 1 ∧ σ.1 (h + 4 + j) 6 ≤ σ.1 h 4 + nI u) ∧ σ.1 (h + 4 + j) 5 = nI r) (jn σ h))).1 (h + 28 + r) p := jmp_out (by omega)
    rw [eo]
    by_cases h3 : p = 3
    · subst h3
      rw [jRd_in hr, mMv_e hr, jI_wI, if_neg (by omega), hR.2.2.1 r hr 3 (by decide), hjn]
      refine congrArg (fun z => S (9 + 4 * r + 3) + nI z) (jct_cg fun j hj => ?_)
      rw [klax hR hj, kf5 hR hj]
      constructor
      · rintro ⟨z, y⟩
        rw [if_pos z.1] at y
        exact ⟨z, y⟩
      · rintro ⟨z, y⟩
        rw [if_pos z.1]
        exact ⟨z, y⟩
    · rw [jRd_out (by omega), jI_wI, if_neg (by omega), hR.2.2.1 r hr p hp, mMv_lo (by omega) (by omega) (by omega)]
  · rw [mMv_N] at hj
    have er : ∀ k, k < 9 → (jsM σ h (σ.1 h 4 + nI u) (jn σ h)).1 (h + 4 + j) k = jvM σ h (σ.1 h 4 + nI u) j k := fun k hk => jmp_in (by omega) hk
    have ev : ∀ p, p < 9 → mMv S u (25 + 9 * j + p) = _ := fun p hp => mMv_r hj hp
    by_cases hd : (S (25 + 9 * j + 3) = 1 ∧ S (25 + 9 * j + 5) ≤ S 3 + nI u)
    · have hd' := (klax hR (u := u) hj).mpr hd
      have e3 : mMv S u (25 + 9 * j + 3) = (if S (25 + 9 * j + 6) + 1 < S 6 then (0 : Int32) else 3) := by rw [mMv_r hj (by decide), if_pos hd, if_pos rfl]
      have e6 : mMv S u (25 + 9 * j + 6) = S (25 + 9 * j + 6) + 1 := by rw [mMv_r hj (by decide), if_pos hd, if_neg (by decide), if_pos rfl]
      have eo : ∀ p, p < 9 → ¬ p = 3 → ¬ p = 6 → mMv S u (25 + 9 * j + p) = S (25 + 9 * j + p) := fun p h1 h2 h3 => by rw [mMv_r hj h1, if_pos hd, if_neg h2, if_neg h3]
      have jo' : ∀ k, k < 9 → ¬ k = 4 → ¬ k = 5 → ¬ k = 6 → ¬ k = 7 → jvM σ h (σ.1 h 4 + nI u) j k = σ.1 (h + 4 + j) k := fun k _ a b d e => by unfold jvM; rw [if_pos hd', if_neg a, if_neg b, if_neg d, if_neg e]
      refine ⟨?_, ?_, ?_, ?_, ?_, ?_, ?_, ?_, ?_⟩
      · rw [er 0 (by decide), jo' 0 (by decide) (by decide) (by decide) (by decide) (by decide), kf0 hR hj]; exact (eo 0 (by decide) (by decide) (by decide)).symm
      · rw [er 1 (by decide), jo' 1 (by decide) (by decide) (by decide) (by decide) (by decide), kf1 hR hj]; exact (eo 1 (by decide) (by decide) (by decide)).symm
      · rw [er 2 (by decide), jo' 2 (by decide) (by decide) (by decide) (by decide) (by decide), kf2 hR hj]; exact (eo 2 (by decide) (by decide) (by decide)).symm
      · rw [er 3 (by decide), jo' 3 (by decide) (by decide) (by decide) (by decide) (by decide), kf3 hR hj]; exact (eo 8 (by decide) (by decide) (by decide)).symm
      · rw [er 4 (by decide)]; unfold jvM; rw [if_pos hd', if_pos rfl, kf7 hR hj, hR.2.1 1 (by decide)]; exact e3.symm
      · rw [er 5 (by decide)]; unfold jvM; rw [if_pos hd', if_neg (by decide), if_pos rfl]; exact (if_neg (show ¬ mMv S u (25 + 9 * j + 3) = 1 from by rw [e3]; exact eN_ne)).symm
      · rw [er 6 (by decide)]; unfold jvM; rw [if_pos hd', if_neg (by decide), if_neg (by decide), if_pos rfl]; exact (if_neg (show ¬ mMv S u (25 + 9 * j + 3) = 1 from by rw [e3]; exact eN_ne)).symm
      · rw [er 7 (by decide)]; unfold jvM; rw [if_pos hd', if_neg (by decide), if_neg (by decide), if_neg (by decide), if_pos rfl, kf7 hR hj]; exact e6.symm
      · rw [er 8 (by decide), jo' 8 (by decide) (by decide) (by decide) (by decide) (by decide), kf8 hR hj]; exact (eo 7 (by decide) (by decide) (by decide)).symm
    · have hd' : ¬ (σ.1 (h + 4 + j) 4 = 1 ∧ σ.1 (h + 4 + j) 6 ≤ σ.1 h 4 + nI u) := fun z => hd ((klax hR hj).mp z)
      have eo : ∀ p, p < 9 → mMv S u (25 + 9 * j + p) = S (25 + 9 * j + p) := fun p h1 => by rw [mMv_r hj h1, if_neg hd]
      have jo' : ∀ k, k < 9 → (jsM σ h (σ.1 h 4 + nI u) (jn σ h)).1 (h + 4 + j) k = σ.1 (h + 4 + j) k := fun k hk => by rw [er k hk]; unfold jvM; rw [if_neg hd']
      exact kRw_g (g := fun p => S (25 + 9 * j + p)) (fun p hp => eo p hp) (kRw_f jo' (hR.2.2.2 j hj))
/-- what a row's numbers can be behind it -/
theorem kImv (hI : kI c S) {u : Nat} (hu : u ≤ 1000) (hT : ∀ T : Nat, S 3 = nI T → T ≤ 9999 → T + u ≤ 9999) : kI c (mGn S u) := by
  rw [(kgo hI u hu).1]
  obtain ⟨hO, P, T, D, h1, h2, h3, h4, h5, h6, hr, h7, h8⟩ := id hI
  have lo : ∀ c, ¬ c = 3 → c < 9 → mMv S u c = S c := fun c h1 h2 => mMv_lo h1 (by omega) (by omega)
  have hn := mMv_N (S := S) u
  have eo : ∀ j p, j < mN S → p < 9 → ¬ p = 3 → ¬ p = 6 → mMv S u (25 + 9 * j + p) = S (25 + 9 * j + p) := fun j p hj hp a b => by
    rw [mMv_r hj hp]
    by_cases z : (S (25 + 9 * j + 3) = 1 ∧ S (25 + 9 * j + 5) ≤ S 3 + nI u)
    · rw [if_pos z, if_neg a, if_neg b]
    · rw [if_neg z]
  have emk : ∀ j, j < mN S → kmk (mMv S u) j = kmk S j := fun j hj => by unfold kmk; rw [eo j 2 hj (by decide) (by decide) (by decide)]
  refine ⟨⟨by rw [hn, lo 0 (by decide) (by decide)]; exact hO.1, by rw [hn]; exact hO.2⟩, P, T + u, D, by rw [lo 1 (by decide) (by decide)]; exact h1, h2, by rw [mMv_3, h3, nI_add], hT T h3 h4, by rw [lo 5 (by decide) (by decide)]; exact h5, by rw [lo 8 (by decide) (by decide)]; exact h6, fun j hj => ?_, fun j hj => ?_, fun i j hij hj => ?_⟩
  · rw [hn] at hj
    obtain ⟨r0, r1, r3, rh, r7⟩ := hr j hj
    have q0 := (eo j 0 hj (by decide) (by decide) (by decide)).symm
    have q1 := (eo j 1 hj (by decide) (by decide) (by decide)).symm
    have q7 := (eo j 7 hj (by decide) (by decide) (by decide)).symm
    have r0 : vp_in (S (25 + 9 * j + 0)) 8 := r0
    have r1 : vp_in (S (25 + 9 * j + 1)) 10 := r1
    have r7 : vp_in (S (25 + 9 * j + 7)) (c + 1) := r7
    have r3 : vp_in (S (25 + 9 * j + 3)) 4 := r3
    rw [q0] at r0
    rw [q1] at r1
    rw [q7] at r7
    have q3 : vp_in (mMv S u (25 + 9 * j + 3)) 4 := by
      rw [mMv_r hj (by decide)]
      by_cases z : (S (25 + 9 * j + 3) = 1 ∧ S (25 + 9 * j + 5) ≤ S 3 + nI u)
      · rw [if_pos z, if_pos rfl]
        by_cases y : S (25 + 9 * j + 6) + 1 < S 6
        · rw [if_pos y]
          exact vp_in_nI (n := 0) (by decide) (by decide)
        · rw [if_neg y]
          exact vp_in_nI (n := 3) (by decide) (by decide)
      · rw [if_neg z]
        exact r3
    refine ⟨r0, r1, q3, fun z => ?_, r7⟩
    · have z : mMv S u (25 + 9 * j + 3) = 1 := z
      have nd : ¬ (S (25 + 9 * j + 3) = 1 ∧ S (25 + 9 * j + 5) ≤ S 3 + nI u) := fun y => by rw [mMv_r hj (by decide), if_pos y, if_pos rfl] at z; exact eN_ne z
      have zs : S (25 + 9 * j + 3) = 1 := by rw [mMv_r hj (by decide), if_neg nd] at z; exact z
      obtain ⟨v4, L, e5, l1, l2⟩ := rh zs
      have e5 : S (25 + 9 * j + 5) = nI L := e5
      refine ⟨show vp_in (mMv S u (25 + 9 * j + 4)) 4 from by rw [eo j 4 hj (by decide) (by decide) (by decide)]; exact v4, L, show mMv S u (25 + 9 * j + 5) = nI L from by rw [eo j 5 hj (by decide) (by decide) (by decide)]; exact e5, ?_, l2⟩
      rcases Nat.lt_or_ge (T + u) L with y | y
      · exact y
      · exact absurd ⟨zs, by rw [e5, h3, nI_add, ji_le, nI_ltI (by omega) (by omega)]; omega⟩ nd
  · rw [hn] at hj
    rw [emk j hj, eo j 2 hj (by decide) (by decide) (by decide)]
    exact h7 j hj
  · rw [hn] at hj
    rw [emk i (by omega), emk j hj]
    exact h8 i j hij hj
end KT2
