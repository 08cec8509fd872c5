/-! the class and the reference: when a table is the reference's state -/
def kRw (f g : Nat → Int32) : Prop := f 0 = g 0 ∧ f 1 = g 1 ∧ f 2 = g 2 ∧ f 3 = g 8 ∧ f 4 = g 3 ∧ f 5 = (if g 3 = 1 then g 4 else -1) ∧ f 6 = (if g 3 = 1 then g 5 else -1) ∧ f 7 = g 6 ∧ f 8 = g 7
def kR (σ : jgS) (h : Nat) (S : Nat → Int32) : Prop := (σ.1 h 3 = S 0 ∧ σ.1 h 4 = S 3 ∧ σ.1 h 5 = S 1 ∧ σ.1 h 6 = S 2 ∧ σ.1 h 7 = S 4) ∧ (∀ k, k < 4 → σ.1 (h + 3) k = S (5 + k)) ∧ (∀ r, r < 4 → ∀ p, p < 4 → σ.1 (h + 28 + r) p = S (9 + 4 * r + p)) ∧ ∀ i, i < mN S → kRw (σ.1 (h + 4 + i)) (fun p => S (25 + 9 * i + p))
/-- what a row's numbers can be: c calls made, time T -/
def kRo (c T : Nat) (g : Nat → Int32) : Prop := vp_in (g 0) 8 ∧ vp_in (g 1) 10 ∧ vp_in (g 3) 4 ∧ (g 3 = 1 → vp_in (g 4) 4 ∧ ∃ L : Nat, g 5 = nI L ∧ T < L ∧ L ≤ 10098) ∧ vp_in (g 7) (c + 1)
def kmk (S : Nat → Int32) (i : Nat) : Nat := (S (25 + 9 * i + 2)).toNatClampNeg
/-- what the reference's numbers can be when c calls are made -/
def kI (c : Nat) (S : Nat → Int32) : Prop := mOk S ∧ ∃ P T D : Nat, S 1 = nI P ∧ P ≤ 24 * c ∧ S 3 = nI T ∧ T ≤ 9999 ∧ (S 5 = nI D ∧ 1 ≤ D ∧ D ≤ 99) ∧ vp_in (S 8) 25 ∧ (∀ i, i < mN S → kRo c T (fun p => S (25 + 9 * i + p))) ∧ (∀ i, i < mN S → S (25 + 9 * i + 2) = nI (kmk S i) ∧ kmk S i < P) ∧ ∀ i j, i < j → j < mN S → kmk S i < kmk S j
theorem kI_ur {c : Nat} {S : Nat → Int32} (hI : kI c S) : mUr S := fun j hj => by
  obtain ⟨_, P, T, D, _, _, _, _, _, _, hr, _⟩ := hI
  exact (hr j hj).2.1
theorem kI_ho {c : Nat} {S : Nat → Int32} (hI : kI c S) : mHo S := fun j hj h => by
  obtain ⟨_, P, T, D, _, _, _, _, _, _, hr, _⟩ := hI
  exact ((hr j hj).2.2.2.1 h).1
theorem kI_st {c : Nat} {S : Nat → Int32} (hI : kI c S) {i : Nat} (hi : i < mN S) : S (25 + 9 * i + 3) = 0 ∨ S (25 + 9 * i + 3) = 1 ∨ S (25 + 9 * i + 3) = 2 ∨ S (25 + 9 * i + 3) = 3 := by
  obtain ⟨_, P, T, D, _, _, _, _, _, _, hr, _⟩ := hI
  obtain ⟨s, hs, es⟩ := vp_in_of (hr i hi).2.2.1 (by decide)
  have es : S (25 + 9 * i + 3) = nI s := es
  rw [es]
  rcases (show s = 0 ∨ s = 1 ∨ s = 2 ∨ s = 3 by omega) with rfl | rfl | rfl | rfl
  · exact Or.inl rfl
  · exact Or.inr (Or.inl rfl)
  · exact Or.inr (Or.inr (Or.inl rfl))
  · exact Or.inr (Or.inr (Or.inr rfl))
theorem kI_mono {c d : Nat} {S : Nat → Int32} (h : c ≤ d) (hI : kI c S) : kI d S := by
  obtain ⟨hO, P, T, D, h1, h2, h3, h4, h5, h6, hr, h7, h8⟩ := hI
  exact ⟨hO, P, T, D, h1, by omega, h3, h4, h5, h6, fun i hi => ⟨(hr i hi).1, (hr i hi).2.1, (hr i hi).2.2.1, (hr i hi).2.2.2.1, vp_in_mono (by omega) (hr i hi).2.2.2.2⟩, h7, h8⟩
section KR
variable {σ : jgS} {h c : Nat} {S : Nat → Int32}
theorem kn (hR : kR σ h S) : jn σ h = mN S := by unfold jn mN; rw [hR.1.1]
theorem kf0 (hR : kR σ h S) {i : Nat} (hi : i < mN S) : σ.1 (h + 4 + i) 0 = S (25 + 9 * i + 0) := (hR.2.2.2 i hi).1
theorem kf1 (hR : kR σ h S) {i : Nat} (hi : i < mN S) : σ.1 (h + 4 + i) 1 = S (25 + 9 * i + 1) := (hR.2.2.2 i hi).2.1
theorem kf2 (hR : kR σ h S) {i : Nat} (hi : i < mN S) : σ.1 (h + 4 + i) 2 = S (25 + 9 * i + 2) := (hR.2.2.2 i hi).2.2.1
theorem kf3 (hR : kR σ h S) {i : Nat} (hi : i < mN S) : σ.1 (h + 4 + i) 3 = S (25 + 9 * i + 8) := (hR.2.2.2 i hi).2.2.2.1
theorem kf4 (hR : kR σ h S) {i : Nat} (hi : i < mN S) : σ.1 (h + 4 + i) 4 = S (25 + 9 * i + 3) := (hR.2.2.2 i hi).2.2.2.2.1
theorem kf5 (hR : kR σ h S) {i : Nat} (hi : i < mN S) : σ.1 (h + 4 + i) 5 = if S (25 + 9 * i + 3) = 1 then S (25 + 9 * i + 4) else -1 := (hR.2.2.2 i hi).2.2.2.2.2.1
theorem kf6 (hR : kR σ h S) {i : Nat} (hi : i < mN S) : σ.1 (h + 4 + i) 6 = if S (25 + 9 * i + 3) = 1 then S (25 + 9 * i + 5) else -1 := (hR.2.2.2 i hi).2.2.2.2.2.2.1
theorem kf7 (hR : kR σ h S) {i : Nat} (hi : i < mN S) : σ.1 (h + 4 + i) 7 = S (25 + 9 * i + 6) := (hR.2.2.2 i hi).2.2.2.2.2.2.2.1
theorem kf8 (hR : kR σ h S) {i : Nat} (hi : i < mN S) : σ.1 (h + 4 + i) 8 = S (25 + 9 * i + 7) := (hR.2.2.2 i hi).2.2.2.2.2.2.2.2
theorem kop (hR : kR σ h S) (hI : kI c S) {i : Nat} (hi : i < mN S) : (σ.1 (h + 4 + i) 4 = 0 ∨ σ.1 (h + 4 + i) 4 = 1) ↔ ¬ 1 < S (25 + 9 * i + 3) := by
  rw [kf4 hR hi]
  rcases kI_st hI hi with e | e | e | e <;> rw [e] <;> decide
theorem khe (hR : kR σ h S) {i : Nat} {r : Int32} (hi : i < mN S) : (σ.1 (h + 4 + i) 4 = 1 ∧ σ.1 (h + 4 + i) 5 = r) ↔ (S (25 + 9 * i + 3) = 1 ∧ S (25 + 9 * i + 4) = r) := by
  rw [kf4 hR hi, kf5 hR hi]
  constructor
  · rintro ⟨h1, h2⟩
    rw [if_pos h1] at h2
    exact ⟨h1, h2⟩
  · rintro ⟨h1, h2⟩
    rw [if_pos h1]
    exact ⟨h1, h2⟩
theorem kblk (hR : kR σ h S) (hI : kI c S) {i : Nat} (hi : i < mN S) : jBlk σ h i = mBlk S i := by
  unfold jBlk mBlk
  rw [hR.2.1 2 (by decide), jct_cg (q := fun k => ¬ 1 < S (25 + 9 * k + 3) ∧ S (25 + 9 * k + 0) = S (25 + 9 * i + 0)) (fun j hj => by
    rw [kop hR hI (by omega), kf0 hR (by omega), kf0 hR hi]
    exact And.comm)]
  unfold jb
  by_cases h1 : S (5 + 2) = 1
  · by_cases h2 : 0 < jct (fun k => ¬ 1 < S (25 + 9 * k + 3) ∧ S (25 + 9 * k + 0) = S (25 + 9 * i + 0)) i
    · rw [if_pos ⟨h1, h2⟩, if_pos ⟨h2, h1⟩]
    · rw [if_neg (fun z => h2 z.2), if_neg (fun z => h2 z.1)]
  · rw [if_neg (fun z => h1 z.1), if_neg (fun z => h1 z.2)]
theorem jb_iff {p q : Prop} [Decidable p] [Decidable q] (h : p ↔ q) : jb p = jb q := by
  unfold jb
  by_cases hp : p
  · rw [if_pos hp, if_pos (h.mp hp)]
  · rw [if_neg hp, if_neg (fun z => hp (h.mpr z))]
theorem kcan (hR : kR σ h S) (hI : kI c S) {r i : Nat} (hr : r < 4) (hi : i < mN S) : jCan σ h r i = mCan S r i := by
  unfold jCan mCan
  refine jb_iff ?_
  rw [kf4 hR hi, kf0 hR hi, kblk hR hI hi, hR.2.2.1 r hr 0 (by decide)]
  exact ⟨fun z => ⟨z.1, z.2.2, z.2.1⟩, fun z => ⟨z.1, z.2.2, z.2.1⟩⟩
theorem kheld (hR : kR σ h S) (r : Int32) : jct (fun i => σ.1 (h + 4 + i) 4 = 1 ∧ σ.1 (h + 4 + i) 5 = r) (jn σ h) = mheld S r := by
  rw [kn hR]
  exact jct_cg fun i hi => khe hR hi
theorem kroom (hR : kR σ h S) (r x : Int32) : jroom σ h r x = mroom S r x := by
  unfold jroom mroom
  rw [kheld hR, hR.2.1 3 (by decide)]
  rfl
theorem kopc (hR : kR σ h S) (hI : kI c S) : jct (fun j => σ.1 (h + 4 + j) 4 = 0 ∨ σ.1 (h + 4 + j) 4 = 1) (jn σ h) = mTot S := by
  rw [kn hR]
  exact jct_cg fun i hi => kop hR hI hi
theorem jfs_cg {p q : Nat → Prop} [DecidablePred p] [DecidablePred q] {n : Nat} (h : ∀ i, i < n → (p i ↔ q i)) : jfs p n = jfs q n := by
  induction n with
  | zero => rfl
  | succ n ih =>
    have h1 := ih fun i hi => h i (Nat.lt_succ_of_lt hi)
    have h2 := h n (Nat.lt_succ_self n)
    unfold jfs
    rw [h1]
    split
    · rfl
    · by_cases hp : p n
      · rw [if_pos hp, if_pos (h2.mp hp)]
      · rw [if_neg hp, if_neg (fun z => hp (h2.mpr z))]
theorem jord_cg {o o' : Nat → Prop} [DecidablePred o] [DecidablePred o'] {rk rk' : Nat → Nat} {n k : Nat} (ho : ∀ i, i < n → (o i ↔ o' i)) (hr : ∀ i, i < n → rk i = rk' i) : jord o rk n k = jord o' rk' n k := by
  unfold jord
  rw [jfs_cg (q := fun i => o' i ∧ jpos o' rk' n (rk' i) i = k) (fun i hi => by
    have e : jpos o rk n (rk i) i = jpos o' rk' n (rk' i) i := jct_cg fun j hj => by rw [ho j hj, hr j hj, hr i hi]
    rw [e, ho i hi])]
theorem kord (hR : kR σ h S) (hI : kI c S) (k : Nat) : jord (fun j => σ.1 (h + 4 + j) 4 = 0 ∨ σ.1 (h + 4 + j) 4 = 1) (jrk σ h) (jn σ h) k = mord S k := by
  rw [kn hR]
  exact jord_cg (fun i hi => kop hR hI hi) (fun i hi => by unfold jrk mrk; rw [kf1 hR hi])
theorem kst (hR : kR σ h S) (x : Int32) : jct (fun i => σ.1 (h + 4 + i) 4 = x) (jn σ h) = jct (fun i => S (25 + 9 * i + 3) = x) (mN S) := by
  rw [kn hR]
  exact jct_cg fun i hi => by rw [kf4 hR hi]
theorem kbw (hR : kR σ h S) (hI : kI c S) : jct (fun i => σ.1 (h + 4 + i) 4 = 0 ∧ ¬ jBlk σ h i = 0) (jn σ h) = jct (fun i => S (25 + 9 * i + 3) = 0 ∧ ¬ mBlk S i = 0) (mN S) := by
  rw [kn hR]
  exact jct_cg fun i hi => by rw [kf4 hR hi, kblk hR hI hi]
theorem kfirst (hR : kR σ h S) : jfi (jfs (fun i => σ.1 (h + 4 + i) 4 = 0) (jn σ h)) = mfw S 0 (mN S) := by
  rw [kn hR, jfs_cg (q := fun i => S (25 + 9 * i + 3) = 0) (fun i hi => by rw [kf4 hR hi])]
  have key : ∀ k lo, lo + k = mN S → (∀ i, i < lo → ¬ S (25 + 9 * i + 3) = 0) → jfi (jfs (fun i => S (25 + 9 * i + 3) = 0) (mN S)) = mfw S lo k := by
    intro k
    induction k with
    | zero =>
      intro lo hlo hn
      have e : jfs (fun i => S (25 + 9 * i + 3) = 0) (mN S) = none := by
        cases hh : jfs (fun i => S (25 + 9 * i + 3) = 0) (mN S) with
        | none => rfl
        | some i =>
          obtain ⟨h1, h2, _⟩ := jfs_some hh
          exact absurd h2 (hn i (by omega))
      rw [e]
      rfl
    | succ k ih =>
      intro lo hlo hn
      have em : mfw S lo (k + 1) = if S (25 + 9 * lo + 3) = 0 then nI lo else mfw S (lo + 1) k := rfl
      rw [em]
      by_cases hp : S (25 + 9 * lo + 3) = 0
      · rw [if_pos hp]
        have e : jfs (fun i => S (25 + 9 * i + 3) = 0) lo = none := by
          cases hh : jfs (fun i => S (25 + 9 * i + 3) = 0) lo with
          | none => rfl
          | some i =>
            obtain ⟨h1, h2, _⟩ := jfs_some hh
            exact absurd h2 (hn i h1)
        rw [jfs_hit (i := lo) (by omega) e hp]
        rfl
      · rw [if_neg hp]
        refine ih (lo + 1) (by omega) (fun i hi => ?_)
        by_cases e : i = lo
        · subst e; exact hp
        · exact hn i (by omega)
  exact key (mN S) 0 (by omega) (fun i hi => absurd hi (by omega))
theorem kplace (hR : kR σ h S) (hI : kI c S) {q : Nat} (hq : q < mN S) : jct (fun j => (σ.1 (h + 4 + j) 4 = 0 ∨ σ.1 (h + 4 + j) 4 = 1) ∧ (σ.1 (h + 4 + q) 1 < σ.1 (h + 4 + j) 1 ∨ σ.1 (h + 4 + j) 1 = σ.1 (h + 4 + q) 1 ∧ σ.1 (h + 4 + j) 2 < σ.1 (h + 4 + q) 2)) (jn σ h) = jct (fun k => ¬ 1 < S (25 + 9 * k + 3) ∧ (0 < S (25 + 9 * k + 1) - S (25 + 9 * q + 1) ∨ S (25 + 9 * k + 1) - S (25 + 9 * q + 1) = 0 ∧ nI (k) < nI (q))) (mN S) := by
  rw [kn hR]
  refine jct_cg fun k hk => ?_
  rw [kop hR hI hk, kf1 hR hk, kf1 hR hq, kf2 hR hk, kf2 hR hq]
  obtain ⟨hO, P, T, D, h1, h2, h3, h4, h5, h6, hr, h7, h8⟩ := hI
  have h24 := hO.2
  obtain ⟨a, ha, ea⟩ := vp_in_of (hr k hk).2.1 (by decide)
  obtain ⟨b, hb, eb⟩ := vp_in_of (hr q hq).2.1 (by decide)
  have ea : S (25 + 9 * k + 1) = nI a := ea
  have eb : S (25 + 9 * q + 1) = nI b := eb
  obtain ⟨m1, l1⟩ := h7 k hk
  obtain ⟨m2, l2⟩ := h7 q hq
  have hs : (nI a - nI b).toInt = (a : Int) - b := pk_sub_toInt (by omega) (by omega)
  have h0 : (0 : Int32).toInt = 0 := by decide
  have e1 : 0 < nI a - nI b ↔ b < a := by
    rw [Int32.lt_iff_toInt_lt, hs, h0]
    omega
  have e2 : nI a - nI b = 0 ↔ a = b := by
    rw [← Int32.toInt_inj, hs, h0]
    omega
  have e3 : nI k < nI q ↔ k < q := nI_ltI (by omega) (by omega)
  have e4 : nI b < nI a ↔ b < a := nI_ltI (by omega) (by omega)
  have e5 : nI a = nI b ↔ a = b := ⟨fun z => by have := congrArg Int32.toNatClampNeg z; rwa [nI_clamp (by omega), nI_clamp (by omega)] at this, fun z => by rw [z]⟩
  have hmk : ∀ i, i < mN S → kmk S i < 2 ^ 31 := fun i _ => by
    have e : kmk S i = (S (25 + 9 * i + 2)).toInt.toNat := rfl
    have := Int32.toInt_lt (S (25 + 9 * i + 2))
    omega
  have e6 : nI (kmk S k) < nI (kmk S q) ↔ k < q := by
    rw [nI_ltI (hmk k hk) (hmk q hq)]
    constructor
    · intro z
      rcases Nat.lt_trichotomy k q with y | y | y
      · exact y
      · subst y; omega
      · have := h8 q k y hk; omega
    · exact fun z => h8 k q z hq
  rw [ea, eb, m1, m2, e1, e2, e3, e4, e5, e6]
theorem jfd_cg {A : Type} {f g : Nat → A → A} {n : Nat} {s : A} (h : ∀ i, i < n → ∀ s, f i s = g i s) : jfd f n s = jfd g n s := by
  induction n with
  | zero => rfl
  | succ n ih => rw [jfd_s, jfd_s, ih (fun i hi => h i (by omega)), h n (by omega)]
theorem kgs (hR : kR σ h S) : jgk σ h = mgS S := by
  unfold jgk mgS
  rw [kn hR]
  refine jfd_cg fun i hi s => ?_
  rw [kf4 hR hi, kf8 hR hi]
  by_cases h1 : S (25 + 9 * i + 3) = 0
  · rw [if_pos h1]
    by_cases h2 : s < S (25 + 9 * i + 7)
    · rw [if_pos h2, if_pos ⟨h1, h2⟩]
    · rw [if_neg h2, if_neg (fun z => h2 z.2)]
  · rw [if_neg h1, if_neg (fun z => h1 z.1)]
theorem kfl (hR : kR σ h S) (r : Int32) : jfd (fun i s => if (σ.1 (h + 4 + i) 4 = 1 ∧ σ.1 (h + 4 + i) 5 = r) ∧ (s = -1 ∨ σ.1 (h + 4 + i) 6 < s) then σ.1 (h + 4 + i) 6 else s) (jn σ h) (-1) = jfd (fun i s => if (S (25 + 9 * i + 3) = 1 ∧ S (25 + 9 * i + 4) = r) ∧ (s = -1 ∨ S (25 + 9 * i + 5) < s) then S (25 + 9 * i + 5) else s) (mN S) (-1) := by
  rw [kn hR]
  refine jfd_cg fun i hi s => ?_
  by_cases h1 : S (25 + 9 * i + 3) = 1 ∧ S (25 + 9 * i + 4) = r
  · have h1' := (khe hR hi).mpr h1
    have e6 : σ.1 (h + 4 + i) 6 = S (25 + 9 * i + 5) := (kf6 hR hi).trans (if_pos h1.1)
    by_cases h2 : s = -1 ∨ S (25 + 9 * i + 5) < s
    · rw [e6, if_pos ⟨h1', h2⟩, if_pos ⟨h1, h2⟩]
    · rw [e6, if_neg (fun z => h2 z.2), if_neg (fun z => h2 z.2)]
  · rw [if_neg (fun z => h1 ((khe hR hi).mp z.1)), if_neg (fun z => h1 z.1)]
end KR
