/-! bits; the look along the table and the reference's takes -/
def bt (x : Int32) (i : Nat) : Bool := x.toBitVec.getLsbD i
theorem b_ext {x y : Int32} (h : ∀ i, i < 32 → bt x i = bt y i) : x = y := Int32.toBitVec_inj.mp (BitVec.eq_of_getLsbD_eq (fun i hi => h i hi))
theorem b_or (x y : Int32) (i : Nat) : bt (x ||| y) i = (bt x i || bt y i) := by unfold bt; rw [Int32.toBitVec_or, BitVec.getLsbD_or]
theorem b_and (x y : Int32) (i : Nat) : bt (x &&& y) i = (bt x i && bt y i) := by unfold bt; rw [Int32.toBitVec_and, BitVec.getLsbD_and]
theorem b_0 (i : Nat) : bt 0 i = false := BitVec.getLsbD_zero
theorem b_1 : ∀ i, i < 32 → bt 1 i = decide (i = 0) := by decide +kernel
theorem s_l : ∀ n, n < 32 → ((nI n &&& 31).toBitVec.smod 32).toNat = n := by decide +kernel
theorem b_shl (n : Nat) (hn : n < 32) (x : Int32) {i : Nat} (hi : i < 32) : bt (x <<< (nI n &&& 31)) i = (decide (n ≤ i) && bt x (i - n)) := by
  unfold bt
  rw [Int32.toBitVec_shiftLeft]
  show (x.toBitVec <<< ((nI n &&& 31).toBitVec.smod 32).toNat).getLsbD i = _
  rw [s_l n hn, BitVec.getLsbD_shiftLeft]
  rcases Nat.lt_or_ge i n with h | h
  · simp [h, Nat.not_le.mpr h]
  · simp [hi, h, Nat.not_lt.mpr h]
theorem b_sshr (n : Nat) (hn : n < 32) (x : Int32) {i : Nat} (hi : i < 32) : bt (x >>> (nI n &&& 31)) i = if n + i < 32 then bt x (n + i) else bt x 31 := by
  unfold bt
  rw [Int32.toBitVec_shiftRight]
  show (x.toBitVec.sshiftRight ((nI n &&& 31).toBitVec.smod 32).toNat).getLsbD i = _
  rw [s_l n hn, BitVec.getLsbD_sshiftRight, BitVec.msb_eq_getLsbD_last]
  simp [hi]
theorem b_tst (m : Int32) {j : Nat} (hj : j < 24) : (m >>> (nI j &&& 31)) &&& 1 = 1 ↔ bt m j = true := by
  have e : bt (m >>> (nI j &&& 31)) 0 = bt m j := by
    rw [b_sshr j (by omega) m (by omega), if_pos (by omega)]
    rfl
  rw [← e]
  generalize m >>> (nI j &&& 31) = y
  constructor
  · intro z
    have h := congrArg (fun v => bt v 0) z
    simp only [b_and, b_1 0 (by decide)] at h
    simpa using h
  · intro z
    refine b_ext fun i hi => ?_
    rw [b_and, b_1 i hi]
    by_cases c : i = 0
    · subst c; rw [z]; rfl
    · simp [c]
theorem b_set (m : Int32) {k i : Nat} (hk : k < 24) (hi : i < 32) : bt (m ||| (1 <<< (nI k &&& 31))) i = (bt m i || decide (i = k)) := by
  rw [b_or, b_shl k (by omega) 1 hi]
  by_cases c : k ≤ i
  · rw [b_1 (i - k) (by omega)]
    by_cases d : i = k
    · subst d; simp
    · have : ¬ i - k = 0 := by omega
      simp [c, d, this]
  · have : ¬ i = k := by omega
    simp [c, this]
/-- a row's number behind a look -/
def kLc (S : Nat → Int32) (r : Nat) (s : jLS) (j p : Nat) : Int32 := if bt s.1 j = true then (if p = 3 then 1 else if p = 4 then nI r else if p = 5 then S 3 + S 5 else S (25 + 9 * j + p)) else if bt s.2.2.1 j = true ∧ p = 7 then S (25 + 9 * j + 7) + 1 else S (25 + 9 * j + p)
def kLT (S : Nat → Int32) (r k : Nat) (s : jLS) (T : mTT) : Prop := (s.2.1 = T.2.1 ∧ s.1 = T.2.2.1 ∧ s.2.2.2.1 = T.2.2.2) ∧ (∀ c, c < 25 → T.1 c = S c) ∧ (∀ j p, j < 24 → p < 9 → T.1 (25 + 9 * j + p) = kLc S r s j p) ∧ (∀ j, j < 24 → bt s.1 j = true ∨ bt s.2.2.1 j = true → j < mN S ∧ (¬ 1 < S (25 + 9 * j + 3)) ∧ mpos S j < k) ∧ (∀ j, j < 24 → ¬ (bt s.1 j = true ∧ bt s.2.2.1 j = true)) ∧ s.2.2.2.1 = nI (jct (fun j => ¬ bt s.1 j = true ∧ bt s.2.2.1 j = true) (mN S))
theorem jct_add1 {p q : Nat → Prop} [DecidablePred p] [DecidablePred q] {i n : Nat} (hi : i < n) (hp : ¬ p i) (hq : q i) (h : ∀ j, j < n → ¬ j = i → (p j ↔ q j)) : jct q n = jct p n + 1 := by
  induction n with
  | zero => omega
  | succ n ih =>
    by_cases e : i = n
    · subst e
      rw [jct_y hq, jct_n hp, jct_cg (fun j hj => (h j (by omega) (by omega)).symm)]
    · have h1 := ih (by omega) (fun j hj => h j (by omega))
      have h2 := h n (by omega) (by omega)
      by_cases z : p n
      · rw [jct_y z, jct_y (h2.mp z), h1]
      · rw [jct_n z, jct_n (fun y => z (h2.mpr y)), h1]
section KL
variable {σ : jgS} {h c : Nat} {S : Nat → Int32}
theorem kLT_can {r k i : Nat} {s : jLS} {T : mTT} (hn : mN S ≤ 24) (hr : r < 4) (hL : kLT S r k s T) (hi : i < mN S) (hk : mpos S i = k) : mCan T.1 r i = mCan S r i := by
  obtain ⟨_, h1, h2, h3, h4, _⟩ := hL
  have ni : ¬ (bt s.1 i = true ∨ bt s.2.2.1 i = true) := fun z => by have := (h3 i (by omega) z).2.2; omega
  have row : ∀ p, p < 9 → T.1 (25 + 9 * i + p) = S (25 + 9 * i + p) := fun p hp => by
    rw [h2 i p (by omega) hp]
    unfold kLc
    rw [if_neg (fun z => ni (Or.inl z)), if_neg (fun z => ni (Or.inr z.1))]
  have key : ∀ j, j < 24 → T.1 (25 + 9 * j + 0) = S (25 + 9 * j + 0) := fun j hj => by
    rw [h2 j 0 hj (by decide)]
    unfold kLc
    split
    · rfl
    · rw [if_neg (fun z => absurd z.2 (by decide))]
  have op : ∀ j, j < 24 → ((¬ 1 < T.1 (25 + 9 * j + 3)) ↔ (¬ 1 < S (25 + 9 * j + 3))) := fun j hj => by
    rw [h2 j 3 hj (by decide)]
    unfold kLc
    by_cases z : bt s.1 j = true
    · rw [if_pos z, if_pos rfl]
      exact ⟨fun _ => (h3 j hj (Or.inl z)).2.1, fun _ => by decide⟩
    · rw [if_neg z, if_neg (fun z => absurd z.2 (by decide))]
  have e7 := h1 7 (by decide)
  have er := h1 (9 + 4 * r + 0) (by omega)
  unfold mCan mBlk
  rw [row 3 (by decide), row 0 (by decide), er, e7, jct_cg (q := fun k => ¬ 1 < S (25 + 9 * k + 3) ∧ S (25 + 9 * k + 0) = S (25 + 9 * i + 0)) (fun j hj => by rw [op j (by omega), key j (by omega)])]
theorem kLT_step (hR : kR σ h S) (hI : kI c S) {r k : Nat} {M : Int32} (hr : r < 4) (hk : k < mTot S) (hL : kLT S r k (jLG σ h r M k) (mTG S r M k)) : kLT S r (k + 1) (jLG σ h r M (k + 1)) (mTG S r M (k + 1)) := by
  have hn := hI.1.2
  obtain ⟨g1, g2, g3⟩ := mord_k hk
  have hcan := kLT_can hn hr hL g1 g3
  rw [jLG_s, mTG_s]
  unfold jLst mTst
  rw [kord hR hI, kcan hR hI hr g1, hcan]
  generalize jLG σ h r M k = s at *
  generalize mTG S r M k = T at *
  obtain ⟨⟨a1, a2, a3⟩, h1, h2, h3, h4, h5⟩ := hL
  have ni : ¬ (bt s.1 (mord S k) = true ∨ bt s.2.2.1 (mord S k) = true) := fun z => by have := (h3 _ (by omega) z).2.2; omega
  by_cases hM : s.2.1 < M
  · rw [if_pos hM, if_pos (show T.2.1 < M by rw [← a1]; exact hM)]
    unfold jLm
    by_cases hc : mCan S r (mord S k) = 0
    · rw [if_pos hc, if_pos hc]
      have bs : ∀ j, j < 24 → (bt (s.2.2.1 ||| (1 <<< (nI (mord S k) &&& 31))) j = true ↔ bt s.2.2.1 j = true ∨ j = mord S k) := fun j hj => by
        rw [b_set _ (by omega) (by omega), Bool.or_eq_true, decide_eq_true_iff]
      refine ⟨⟨a1, a2, by dsimp only; rw [a3]⟩, fun c hc => (jup1_ne (by omega)).trans (h1 c hc), fun j p hj hp => ?_, fun j hj z => ?_, fun j hj z => ?_, ?_⟩
      · show jup1 T.1 (25 + 9 * mord S k + 7) _ (25 + 9 * j + p) = _
        unfold kLc
        dsimp only
        by_cases e : j = mord S k
        · subst e
          rw [if_neg (fun z => ni (Or.inl z))]
          by_cases e7 : p = 7
          · subst e7
            rw [if_pos ⟨(bs _ hj).mpr (Or.inr rfl), rfl⟩, jup1_at, h2 _ 7 hj hp]
            unfold kLc
            rw [if_neg (fun z => ni (Or.inl z)), if_neg (fun z => ni (Or.inr z.1))]
          · rw [if_neg (fun z => e7 z.2), jup1_ne (by omega), h2 _ p hj hp]
            unfold kLc
            rw [if_neg (fun z => ni (Or.inl z)), if_neg (fun z => e7 z.2)]
        · rw [jup1_ne (by omega), h2 j p hj hp]
          unfold kLc
          by_cases z : bt s.1 j = true
          · rw [if_pos z, if_pos z]
          · rw [if_neg z, if_neg z]
            by_cases y : bt s.2.2.1 j = true ∧ p = 7
            · rw [if_pos y, if_pos ⟨(bs j hj).mpr (Or.inl y.1), y.2⟩]
            · rw [if_neg y, if_neg (fun w => y ⟨((bs j hj).mp w.1).resolve_right e, w.2⟩)]
      · have z : bt s.1 j = true ∨ (bt s.2.2.1 j = true ∨ j = mord S k) := z.imp_right (bs j hj).mp
        rcases z with z | z | z
        · obtain ⟨q1, q2, q3⟩ := h3 j hj (Or.inl z)
          exact ⟨q1, q2, by omega⟩
        · obtain ⟨q1, q2, q3⟩ := h3 j hj (Or.inr z)
          exact ⟨q1, q2, by omega⟩
        · subst z
          exact ⟨g1, g2, by omega⟩
      · rcases (bs j hj).mp z.2 with y | y
        · exact h4 j hj ⟨z.1, y⟩
        · subst y
          exact ni (Or.inl z.1)
      · dsimp only
        rw [h5, jct_add1 (i := mord S k) (p := fun j => ¬ bt s.1 j = true ∧ bt s.2.2.1 j = true) (q := fun j => ¬ bt s.1 j = true ∧ bt (s.2.2.1 ||| (1 <<< (nI (mord S k) &&& 31))) j = true) g1 (fun z => ni (Or.inr z.2)) ⟨fun z => ni (Or.inl z), (bs _ (by omega)).mpr (Or.inr rfl)⟩ (fun j hj hne => by
          constructor
          · exact fun z => ⟨z.1, (bs j (by omega)).mpr (Or.inl z.2)⟩
          · exact fun z => ⟨z.1, ((bs j (by omega)).mp z.2).resolve_right hne⟩), nI_1]
    · rw [if_neg hc, if_neg hc]
      have bs : ∀ j, j < 24 → (bt (s.1 ||| (1 <<< (nI (mord S k) &&& 31))) j = true ↔ bt s.1 j = true ∨ j = mord S k) := fun j hj => by
        rw [b_set _ (by omega) (by omega), Bool.or_eq_true, decide_eq_true_iff]
      refine ⟨⟨by dsimp only; rw [a1], by dsimp only; rw [a2], a3⟩, fun c hc => (jup1_ne (by omega)).trans ((jup1_ne (by omega)).trans ((jup1_ne (by omega)).trans (h1 c hc))), fun j p hj hp => ?_, fun j hj z => ?_, fun j hj z => ?_, ?_⟩
      · show jup1 (jup1 (jup1 T.1 (25 + 9 * mord S k + 3) 1) (25 + 9 * mord S k + 4) (nI r)) (25 + 9 * mord S k + 5) (T.1 3 + T.1 5) (25 + 9 * j + p) = _
        unfold kLc
        dsimp only
        by_cases e : j = mord S k
        · subst e
          rw [if_pos ((bs _ hj).mpr (Or.inr rfl))]
          by_cases e3 : p = 3
          · subst e3
            rw [if_pos rfl, jup1_ne (by omega), jup1_ne (by omega), jup1_at]
          by_cases e4 : p = 4
          · subst e4
            rw [if_neg e3, if_pos rfl, jup1_ne (by omega), jup1_at]
          by_cases e5 : p = 5
          · subst e5
            rw [if_neg e3, if_neg e4, if_pos rfl, jup1_at, h1 3 (by decide), h1 5 (by decide)]
          · rw [if_neg e3, if_neg e4, if_neg e5, jup1_ne (by omega), jup1_ne (by omega), jup1_ne (by omega), h2 _ p hj hp]
            unfold kLc
            rw [if_neg (fun z => ni (Or.inl z)), if_neg (fun z => ni (Or.inr z.1))]
        · rw [jup1_ne (by omega), jup1_ne (by omega), jup1_ne (by omega), h2 j p hj hp]
          unfold kLc
          by_cases z : bt s.1 j = true
          · rw [if_pos z, if_pos ((bs j hj).mpr (Or.inl z))]
          · rw [if_neg z, if_neg (fun w => z (((bs j hj).mp w).resolve_right e))]
      · have z : (bt s.1 j = true ∨ j = mord S k) ∨ bt s.2.2.1 j = true := z.imp_left (bs j hj).mp
        rcases z with (z | z) | z
        · obtain ⟨q1, q2, q3⟩ := h3 j hj (Or.inl z)
          exact ⟨q1, q2, by omega⟩
        · subst z
          exact ⟨g1, g2, by omega⟩
        · obtain ⟨q1, q2, q3⟩ := h3 j hj (Or.inr z)
          exact ⟨q1, q2, by omega⟩
      · rcases (bs j hj).mp z.1 with y | y
        · exact h4 j hj ⟨y, z.2⟩
        · subst y
          exact ni (Or.inr z.2)
      · dsimp only
        rw [h5]
        refine congrArg nI (jct_cg fun j hj => ?_)
        constructor
        · intro z
          refine ⟨fun w => ?_, z.2⟩
          rcases (bs j (by omega)).mp w with y | y
          · exact z.1 y
          · subst y
            exact ni (Or.inr z.2)
        · exact fun z => ⟨fun w => z.1 ((bs j (by omega)).mpr (Or.inl w)), z.2⟩
  · rw [if_neg hM, if_neg (fun z => hM (by rw [a1]; exact z))]
    exact ⟨⟨a1, a2, a3⟩, h1, h2, fun j hj z => ⟨(h3 j hj z).1, (h3 j hj z).2.1, by have := (h3 j hj z).2.2; omega⟩, h4, h5⟩
theorem kLT_all (hR : kR σ h S) (hI : kI c S) {r : Nat} {M : Int32} (hr : r < 4) : ∀ k, k ≤ mTot S → kLT S r k (jLG σ h r M k) (mTG S r M k) := by
  intro k
  induction k with
  | zero =>
    intro _
    have z : ∀ j, ¬ bt (0 : Int32) j = true := fun j => by rw [b_0]; decide
    refine ⟨⟨rfl, rfl, rfl⟩, fun _ _ => rfl, fun j p _ _ => ?_, fun j _ y => ?_, fun j _ y => z j y.1, ?_⟩
    · exact ((if_neg (z j)).trans (if_neg (fun y => z j y.1))).symm
    · rcases y with y | y
      · exact absurd y (z j)
      · exact absurd y (z j)
    · show (0 : Int32) = _
      have e : ∀ n, jct (fun j => ¬ bt (0 : Int32) j = true ∧ bt (0 : Int32) j = true) n = 0 := by
        intro n
        induction n with
        | zero => rfl
        | succ n ih => exact (jct_n (fun y => z n y.2)).trans ih
      exact (congrArg nI (e (mN S))).symm
  | succ k ih => exact fun hk => kLT_step hR hI hr (by omega) (ih (by omega))
theorem kfst (hR : kR σ h S) (hI : kI c S) {p : Nat} (hp : p < 4) : (jLG σ h p (jroom σ h (nI p) 1) (mTot S)).2.2.2.2 = mnxV S p := by
  rw [kroom hR]
  obtain ⟨hO, P, T, D, h1, h2, h3, h4, h5, h6, hr, h7, h8⟩ := id hI
  obtain ⟨a, ha, ea⟩ := vp_in_of h6 (by decide)
  have hle : mheld S (nI p) ≤ mN S := jct_le _ _
  have h24 := hO.2
  unfold mnxV mroom
  change _ = if S 8 ≤ nI (mheld S (nI p)) then _ else _
  have eh : jct (fun i => S (25 + 9 * i + 3) = 1 ∧ S (25 + 9 * i + 4) = nI p) (mN S) = mheld S (nI p) := rfl
  rw [eh, ea]
  generalize mheld S (nI p) = b at *
  have hs : (nI a - nI b).toInt = (a : Int) - b := pk_sub_toInt (by omega) (by omega)
  have i1 : (1 : Int32).toInt = 1 := by decide
  have i0 : (0 : Int32).toInt = 0 := by decide
  have c1 : nI a - nI b < 1 ↔ a ≤ b := by rw [Int32.lt_iff_toInt_lt, hs, i1]; omega
  have c2 : nI a ≤ nI b ↔ a ≤ b := by rw [ji_le, nI_ltI (by omega) (by omega)]; omega
  by_cases hab : a ≤ b
  · rw [if_pos (c1.mpr hab), if_pos (c2.mpr hab)]
    have c3 : ¬ (jLG σ h p (nI a - nI b) 0).2.1 < nI a - nI b := by
      show ¬ (0 : Int32) < _
      rw [Int32.lt_iff_toInt_lt, hs, i0]
      omega
    rw [jLG_fr (Nat.zero_le _) c3]
    rfl
  · rw [if_neg (fun z => hab (c1.mp z)), if_neg (fun z => hab (c2.mp z))]
    have key : ∀ d y, y + d = mTot S → (jLG σ h p 1 y).2.1 = 0 → (jLG σ h p 1 y).2.2.2.2 = -1 → (jLG σ h p 1 (mTot S)).2.2.2.2 = mnf S p y d := by
      intro d
      induction d with
      | zero =>
        intro y hy _ hf
        rw [← hy]
        exact hf
      | succ d ih =>
        intro y hy ht hf
        have em : mnf S p y (d + 1) = if mCan S p (mord S y) = 0 then mnf S p (y + 1) d else nI (mord S y) := rfl
        have es : jLG σ h p 1 (y + 1) = jLm (jLG σ h p 1 y) (nI (mord S y)) (mCan S p (mord S y)) := by
          rw [jLG_s]
          unfold jLst
          obtain ⟨g1, _, _⟩ := mord_k (S := S) (k := y) (by omega)
          rw [if_pos (by rw [ht]; decide), kord hR hI, kcan hR hI hp g1]
        rw [em]
        by_cases hc : mCan S p (mord S y) = 0
        · rw [if_pos hc]
          refine ih (y + 1) (by omega) ?_ ?_
          · rw [es]; unfold jLm; rw [if_pos hc]; exact ht
          · rw [es]; unfold jLm; rw [if_pos hc]; exact hf
        · rw [if_neg hc]
          have e1 : (jLG σ h p 1 (y + 1)).2.1 = 1 := by rw [es]; unfold jLm; rw [if_neg hc]; dsimp only; rw [ht]; rfl
          have e2 : (jLG σ h p 1 (y + 1)).2.2.2.2 = nI (mord S y) := by rw [es]; unfold jLm; rw [if_neg hc]; dsimp only; rw [if_pos ht]
          rw [jLG_fr (k := y + 1) (by omega) (by rw [e1]; decide), e2]
    exact key (mTot S) 0 (by omega) rfl rfl
/-- what a look sees -/
theorem klk (hR : kR σ h S) (hI : kI c S) {r : Nat} (hr : r < 4) (x : Int32) : kLT S r (mTot S) (jLG σ h r (jroom σ h (nI r) x) (jct (fun j => σ.1 (h + 4 + j) 4 = 0 ∨ σ.1 (h + 4 + j) 4 = 1) (jn σ h))) (mTG S r (mroom S (nI r) x) (mTot S)) := by
  rw [kopc hR hI, kroom hR]
  exact kLT_all hR hI hr _ (Nat.le_refl _)
end KL
