/-! the law's order, and the numbers' -/
/-- what the order rests on -/
def lOr (S : Nat → Int32) : Prop := mOk7 S ∧ (∀ j, j < mN S → vp_in (S (25 + 9 * j + 1)) 10) ∧ (∀ j, j < mN S → S (25 + 9 * j + 2) = nI (kmk S j) ∧ kmk S j < 1000) ∧ ∀ i j, i < j → j < mN S → kmk S i < kmk S j
theorem l2_1 (x : Int32) : x < 2 ↔ ¬ 1 < x := by
  simp only [Int32.lt_iff_toInt_lt]
  have h1 : (1 : Int32).toInt = 1 := by decide
  have h2 : (2 : Int32).toInt = 2 := by decide
  omega
theorem jct_slt {p q : Nat → Prop} [DecidablePred p] [DecidablePred q] {n i : Nat} (hi : i < n) (h : ∀ k, k < n → p k → q k) (hp : ¬ p i) (hq : q i) : jct p n < jct q n := by
  induction n with
  | zero => omega
  | succ n ih =>
    have hle : ∀ m, m ≤ n → jct p m ≤ jct q m := by
      intro m
      induction m with
      | zero => exact fun _ => Nat.le_refl _
      | succ m ihm =>
        intro hm
        have h1 := ihm (by omega)
        by_cases z : p m
        · rw [jct_y z, jct_y (h m (by omega) z)]; omega
        · rw [jct_n z]
          have : jct q m ≤ jct q (m + 1) := jct_mono q (Nat.le_succ m)
          omega
    by_cases e : i = n
    · subst e
      rw [jct_n hp, jct_y hq]
      have := hle i (Nat.le_refl _)
      omega
    · have h1 := ih (by omega) (fun k hk => h k (by omega))
      by_cases z : p n
      · rw [jct_y z, jct_y (h n (by omega) z)]; omega
      · rw [jct_n z]
        have : jct q n ≤ jct q (n + 1) := jct_mono q (Nat.le_succ n)
        omega
/-- a row's rank -/
def lrn (S : Nat → Int32) (j : Nat) : Nat := 1000 * (9 - (S (25 + 9 * j + 1)).toNatClampNeg) + kmk S j
/-- the k-th row in the order, or none -/
def lnxt (S : Nat → Int32) (k : Nat) : Int32 := if k < mTot S then nI (mord S k) else -1
section LP
variable {S : Nat → Int32}
theorem lOr_mk (h : lOr S) {i j : Nat} (hi : i < mN S) (hj : j < mN S) : S (25 + 9 * i + 2) < S (25 + 9 * j + 2) ↔ i < j := by
  obtain ⟨h1, h2, h3, h4⟩ := h
  obtain ⟨m1, l1⟩ := h3 i hi
  obtain ⟨m2, l2⟩ := h3 j hj
  rw [m1, m2, nI_ltI (by omega) (by omega)]
  constructor
  · intro z
    rcases Nat.lt_trichotomy i j with y | y | y
    · exact y
    · subst y; omega
    · have := h4 j i y hi; omega
  · exact fun z => h4 i j z hj
theorem lBlk_m (h : lOr S) {i : Nat} (hi : i < mN S) : lBlk S i = mBlk S i := by
  unfold lBlk mBlk
  refine jb_iff ?_
  rw [jct_exi, jct_exi]
  constructor
  · rintro ⟨k, hk, h7, hm, hkey, hst⟩
    exact ⟨⟨k, (lOr_mk h hk hi).mp hm, (l2_1 _).mp hst, hkey⟩, h7⟩
  · rintro ⟨⟨k, hk, hst, hkey⟩, h7⟩
    exact ⟨k, by omega, h7, (lOr_mk h (by omega) hi).mpr hk, hkey, (l2_1 _).mpr hst⟩
theorem lrk_n (h : lOr S) {j : Nat} (hj : j < mN S) : lrk (fun k => S (25 + k)) j = nI (lrn S j) ∧ lrn S j < 10000 := by
  obtain ⟨h1, h2, h3, h4⟩ := h
  obtain ⟨m1, l1⟩ := h3 j hj
  obtain ⟨a, ha, ea⟩ := vp_in_of (h2 j hj) (by decide)
  have ec : (S (25 + 9 * j + 1)).toNatClampNeg = a := by rw [ea]; exact nI_clamp (by omega)
  have e1 : (9 : Int32) - nI a = nI (9 - a) := pk_sub (a := 9) (b := a) (by omega)
  have e2 : (1000 : Int32) * nI (9 - a) = nI (1000 * (9 - a)) := pk_mul 1000 (9 - a)
  unfold lrk lrn
  rw [ec]
  refine ⟨?_, by omega⟩
  show 1000 * (9 - S (25 + 9 * j + 1)) + S (25 + 9 * j + 2) = _
  rw [ea, m1, e1, e2, nI_add]
theorem lrk_lt (h : lOr S) {i j : Nat} (hi : i < mN S) (hj : j < mN S) : lrk (fun k => S (25 + k)) i < lrk (fun k => S (25 + k)) j ↔ lrn S i < lrn S j := by
  obtain ⟨e1, l1⟩ := lrk_n h hi
  obtain ⟨e2, l2⟩ := lrk_n h hj
  rw [e1, e2, nI_ltI (by omega) (by omega)]
theorem lrn_mrk (h : lOr S) {k i : Nat} (hk : k < mN S) (hi : i < mN S) : lrn S k < lrn S i ↔ mrk S k < mrk S i ∨ mrk S k = mrk S i ∧ k < i := by
  obtain ⟨h1, h2, h3, h4⟩ := h
  have l1 := (h3 k hk).2
  have l2 := (h3 i hi).2
  have ho : kmk S k < kmk S i ↔ k < i := by
    constructor
    · intro z
      rcases Nat.lt_trichotomy k i with y | y | y
      · exact y
      · subst y; omega
      · have := h4 i k y hk; omega
    · exact fun z => h4 k i z hi
  unfold lrn mrk
  generalize (S (25 + 9 * k + 1)).toNatClampNeg = a
  generalize (S (25 + 9 * i + 1)).toNatClampNeg = b
  omega
theorem lrn_inj (h : lOr S) {k i : Nat} (hk : k < mN S) (hi : i < mN S) (e : lrn S k = lrn S i) : k = i := by
  have h1 := lrn_mrk h hk hi
  have h2 := lrn_mrk h hi hk
  rcases Nat.lt_trichotomy k i with y | y | y
  · have : mrk S k = mrk S i ∨ mrk S k < mrk S i ∨ mrk S i < mrk S k := by omega
    omega
  · exact y
  · have : mrk S k = mrk S i ∨ mrk S k < mrk S i ∨ mrk S i < mrk S k := by omega
    omega
theorem lpos (h : lOr S) {i : Nat} (hi : i < mN S) : mpos S i = jct (fun k => ¬ 1 < S (25 + 9 * k + 3) ∧ lrn S k < lrn S i) (mN S) := by
  refine jct_cg fun k hk => ?_
  rw [lrn_mrk h hk hi]
theorem lpos_lt (h : lOr S) {i j : Nat} (hi : i < mN S) (hj : j < mN S) (oi : ¬ 1 < S (25 + 9 * i + 3)) (hl : lrn S i < lrn S j) : mpos S i < mpos S j := by
  rw [lpos h hi, lpos h hj]
  exact jct_slt hi (fun k _ z => ⟨z.1, by omega⟩) (fun z => by omega) ⟨oi, hl⟩
theorem lpos_tot (h : lOr S) {i : Nat} (hi : i < mN S) (oi : ¬ 1 < S (25 + 9 * i + 3)) : mpos S i < mTot S := by
  rw [lpos h hi]
  exact jct_slt hi (fun k _ z => z.1) (fun z => by omega) oi
/-- which rows the search for the next one minds -/
def lcn (S : Nat → Int32) (i : Int32) (j : Nat) : Prop := (¬ 1 < S (25 + 9 * j + 3)) ∧ (i < 0 ∨ lrk (fun k => S (25 + k)) i.toNatClampNeg < lrk (fun k => S (25 + k)) j)
theorem lnx_min (h : lOr S) (i : Int32) : ∀ n, n ≤ mN S → (lnx (fun k => S (25 + k)) n i = -1 ∧ ∀ j, j < n → ¬ lcn S i j) ∨ ∃ b, b < n ∧ lnx (fun k => S (25 + k)) n i = nI b ∧ lcn S i b ∧ ∀ j, j < n → lcn S i j → lrn S b ≤ lrn S j
  | 0, _ => Or.inl ⟨rfl, fun j hj => by omega⟩
  | n + 1, hn => by
    have ih := lnx_min h i n (by omega)
    have h7 := h.1.2
    have keep : ¬ lcn S i n → (lnx (fun k => S (25 + k)) n i = -1 ∧ ∀ j, j < n + 1 → ¬ lcn S i j) ∨ ∃ b, b < n + 1 ∧ lnx (fun k => S (25 + k)) n i = nI b ∧ lcn S i b ∧ ∀ j, j < n + 1 → lcn S i j → lrn S b ≤ lrn S j := by
      intro hno
      rcases ih with ⟨e, z⟩ | ⟨b, hb, e, z1, z2⟩
      · refine Or.inl ⟨e, fun j hj => ?_⟩
        by_cases y : j = n
        · subst y; exact hno
        · exact z j (by omega)
      · refine Or.inr ⟨b, by omega, e, z1, fun j hj y => ?_⟩
        by_cases w : j = n
        · subst w; exact absurd y hno
        · exact z2 j (by omega) y
    rw [lnx_s]
    unfold lnst
    by_cases c1 : 1 < S (25 + (9 * n + 3))
    · rw [if_pos c1]
      exact keep (fun z => z.1 c1)
    rw [if_neg c1]
    by_cases c2 : ¬ i < 0 ∧ ¬ lrk (fun k => S (25 + k)) i.toNatClampNeg < lrk (fun k => S (25 + k)) n
    · rw [if_pos c2]
      exact keep (fun z => z.2.elim c2.1 c2.2)
    rw [if_neg c2]
    have hc : lcn S i n := by
      refine ⟨c1, ?_⟩
      by_cases y : i < 0
      · exact Or.inl y
      · exact Or.inr (Classical.byContradiction fun w => c2 ⟨y, w⟩)
    rcases ih with ⟨e, z⟩ | ⟨b, hb, e, z1, z2⟩
    · rw [e, if_pos (Or.inl (by decide))]
      refine Or.inr ⟨n, by omega, rfl, hc, fun j hj y => ?_⟩
      by_cases w : j = n
      · subst w; exact Nat.le_refl _
      · exact absurd y (z j (by omega))
    · rw [e, nI_clamp (by omega)]
      have hb0 : ¬ nI b < 0 := nI_pos (by omega)
      by_cases c3 : nI b < 0 ∨ lrk (fun k => S (25 + k)) n < lrk (fun k => S (25 + k)) b
      · rw [if_pos c3]
        have c4 := (lrk_lt h (by omega) (by omega)).mp (c3.resolve_left hb0)
        refine Or.inr ⟨n, by omega, rfl, hc, fun j hj y => ?_⟩
        by_cases w : j = n
        · subst w; exact Nat.le_refl _
        · have := z2 j (by omega) y
          omega
      · rw [if_neg c3]
        have c4 : ¬ lrn S n < lrn S b := fun w => c3 (Or.inr ((lrk_lt h (by omega) (by omega)).mpr w))
        refine Or.inr ⟨b, by omega, rfl, z1, fun j hj y => ?_⟩
        by_cases w : j = n
        · subst w; omega
        · exact z2 j (by omega) y
theorem lnx_at (h : lOr S) {i : Int32} {k : Nat} (hc : ∀ j, j < mN S → (lcn S i j ↔ ¬ 1 < S (25 + 9 * j + 3) ∧ k ≤ mpos S j)) : lnx (fun k => S (25 + k)) (mN S) i = lnxt S k := by
  unfold lnxt
  by_cases hk : k < mTot S
  · rw [if_pos hk]
    obtain ⟨g1, g2, g3⟩ := mord_k hk
    have hg := (hc _ g1).mpr ⟨g2, by omega⟩
    rcases lnx_min h i (mN S) (Nat.le_refl _) with ⟨e, z⟩ | ⟨b, hb, e, z1, z2⟩
    · exact absurd hg (z _ g1)
    · rw [e]
      refine congrArg nI ?_
      have hle := z2 _ g1 hg
      have hb2 := (hc b hb).mp z1
      by_cases y : lrn S b < lrn S (mord S k)
      · have := lpos_lt h hb g1 hb2.1 y
        omega
      · exact lrn_inj h hb g1 (by omega)
  · rw [if_neg hk]
    rcases lnx_min h i (mN S) (Nat.le_refl _) with ⟨e, z⟩ | ⟨b, hb, e, z1, z2⟩
    · exact e
    · have hb2 := (hc b hb).mp z1
      have := lpos_tot h hb hb2.1
      omega
theorem lnx_0 (h : lOr S) : lnx (fun k => S (25 + k)) (mN S) (-1) = lnxt S 0 := lnx_at h fun j hj => ⟨fun z => ⟨z.1, Nat.zero_le _⟩, fun z => ⟨z.1, Or.inl (by decide)⟩⟩
theorem lnx_k (h : lOr S) {k : Nat} (hk : k < mTot S) : lnx (fun k => S (25 + k)) (mN S) (nI (mord S k)) = lnxt S (k + 1) := by
  obtain ⟨g1, g2, g3⟩ := mord_k hk
  have h7 := h.1.2
  have hm0 : ¬ nI (mord S k) < 0 := nI_pos (by omega)
  refine lnx_at h fun j hj => ?_
  unfold lcn
  rw [nI_clamp (by omega), lrk_lt h g1 hj]
  constructor
  · rintro ⟨z1, z2⟩
    have := lpos_lt h g1 hj g2 (z2.resolve_left hm0)
    exact ⟨z1, by omega⟩
  · rintro ⟨z1, z2⟩
    refine ⟨z1, Or.inr ?_⟩
    by_cases y : lrn S (mord S k) < lrn S j
    · exact y
    · exfalso
      by_cases w : lrn S j < lrn S (mord S k)
      · have := lpos_lt h hj g1 z1 w
        omega
      · have := lrn_inj h hj g1 (by omega)
        subst this
        omega
end LP
/-- T is S but for what a take changes -/
def lAg (S T : Nat → Int32) : Prop := (∀ c, c < 25 → T c = S c) ∧ (∀ j p, j < mN S → p = 0 ∨ p = 1 ∨ p = 2 → T (25 + 9 * j + p) = S (25 + 9 * j + p)) ∧ ∀ j, j < mN S → ((¬ 1 < T (25 + 9 * j + 3)) ↔ ¬ 1 < S (25 + 9 * j + 3))
theorem lAg_r (S : Nat → Int32) : lAg S S := ⟨fun _ _ => rfl, fun _ _ _ _ => rfl, fun _ _ => Iff.rfl⟩
theorem lAg_n {S T : Nat → Int32} (h : lAg S T) : mN T = mN S := by unfold mN; rw [h.1 0 (by decide)]
theorem lAg_or {S T : Nat → Int32} (h : lAg S T) (hO : lOr S) : lOr T := by
  obtain ⟨h1, h2, h3, h4⟩ := hO
  have en := lAg_n h
  have ek : ∀ j, j < mN S → kmk T j = kmk S j := fun j hj => by unfold kmk; rw [h.2.1 j 2 hj (by omega)]
  refine ⟨⟨by rw [en, h.1 0 (by decide)]; exact h1.1, by rw [en]; exact h1.2⟩, fun j hj => ?_, fun j hj => ?_, fun i j hij hj => ?_⟩
  · rw [en] at hj
    rw [h.2.1 j 1 hj (by omega)]
    exact h2 j hj
  · rw [en] at hj
    rw [h.2.1 j 2 hj (by omega), ek j hj]
    exact h3 j hj
  · rw [en] at hj
    rw [ek i (by omega), ek j hj]
    exact h4 i j hij hj
theorem lAg_ord {S T : Nat → Int32} (h : lAg S T) (k : Nat) : mord T k = mord S k := by
  unfold mord
  rw [lAg_n h]
  exact jord_cg (fun j hj => h.2.2 j hj) (fun j hj => by unfold mrk; rw [h.2.1 j 1 hj (by omega)])
theorem lAg_tot {S T : Nat → Int32} (h : lAg S T) : mTot T = mTot S := by
  unfold mTot
  rw [lAg_n h]
  exact jct_cg fun j hj => h.2.2 j hj
theorem lAg_nxt {S T : Nat → Int32} (h : lAg S T) (k : Nat) : lnxt T k = lnxt S k := by unfold lnxt; rw [lAg_tot h, lAg_ord h]
theorem mTG_ag {S : Nat → Int32} (hn : mN S ≤ 24) {r : Nat} {M : Int32} : ∀ k, k ≤ mTot S → lAg S (mTG S r M k).1
  | 0, _ => lAg_r S
  | k + 1, hk => by
    have ih := mTG_ag (r := r) (M := M) hn k (by omega)
    obtain ⟨g1, g2, g3⟩ := mord_k (S := S) (k := k) (by omega)
    rw [mTG_s]
    generalize mTG S r M k = T at *
    obtain ⟨h1, h2, h3⟩ := ih
    unfold mTst
    split
    · split
      · refine ⟨fun c hc => (jup1_ne (by omega)).trans (h1 c hc), fun j p hj hp => (jup1_ne (by omega)).trans (h2 j p hj hp), fun j hj => ?_⟩
        dsimp only
        rw [jup1_ne (by omega)]
        exact h3 j hj
      · refine ⟨fun c hc => (jup1_ne (by omega)).trans ((jup1_ne (by omega)).trans ((jup1_ne (by omega)).trans (h1 c hc))), fun j p hj hp => (jup1_ne (by omega)).trans ((jup1_ne (by omega)).trans ((jup1_ne (by omega)).trans (h2 j p hj hp))), fun j hj => ?_⟩
        dsimp only
        rw [jup1_ne (by omega), jup1_ne (by omega)]
        by_cases e : j = mord S k
        · subst e
          rw [jup1_at]
          exact ⟨fun _ => g2, fun _ => by decide⟩
        · rw [jup1_ne (by omega)]
          exact h3 j hj
    · exact ⟨h1, h2, h3⟩
