/-! pure functions of a state: a row of numbers -/
def jup1 (f : Nat → Int32) (k : Nat) (x : Int32) : Nat → Int32 := fun j => if j = k then x else f j
theorem jcl_0 : (0 : Int32).toNatClampNeg = 0 := by decide
theorem jcl_1 : (1 : Int32).toNatClampNeg = 1 := by decide
theorem jcl_2 : (2 : Int32).toNatClampNeg = 2 := by decide
theorem jcl_3 : (3 : Int32).toNatClampNeg = 3 := by decide
theorem jcl_4 : (4 : Int32).toNatClampNeg = 4 := by decide
theorem jcl_5 : (5 : Int32).toNatClampNeg = 5 := by decide
theorem jcl_6 : (6 : Int32).toNatClampNeg = 6 := by decide
theorem jcl_7 : (7 : Int32).toNatClampNeg = 7 := by decide
theorem jcl_8 : (8 : Int32).toNatClampNeg = 8 := by decide
theorem jcl_9 : (9 : Int32).toNatClampNeg = 9 := by decide
theorem jcl_10 : (10 : Int32).toNatClampNeg = 10 := by decide
theorem jcl_11 : (11 : Int32).toNatClampNeg = 11 := by decide
theorem jcl_12 : (12 : Int32).toNatClampNeg = 12 := by decide
theorem jcl_13 : (13 : Int32).toNatClampNeg = 13 := by decide
theorem jcl_14 : (14 : Int32).toNatClampNeg = 14 := by decide
theorem jcl_15 : (15 : Int32).toNatClampNeg = 15 := by decide
theorem jcl_16 : (16 : Int32).toNatClampNeg = 16 := by decide
theorem jcl_17 : (17 : Int32).toNatClampNeg = 17 := by decide
theorem jcl_18 : (18 : Int32).toNatClampNeg = 18 := by decide
theorem jcl_19 : (19 : Int32).toNatClampNeg = 19 := by decide
theorem jcl_20 : (20 : Int32).toNatClampNeg = 20 := by decide
theorem jcl_21 : (21 : Int32).toNatClampNeg = 21 := by decide
theorem jcl_22 : (22 : Int32).toNatClampNeg = 22 := by decide
theorem jcl_23 : (23 : Int32).toNatClampNeg = 23 := by decide
theorem jcl_24 : (24 : Int32).toNatClampNeg = 24 := by decide
theorem jcl_25 : (25 : Int32).toNatClampNeg = 25 := by decide
theorem jcl_26 : (26 : Int32).toNatClampNeg = 26 := by decide
theorem jvs_0 : vp_in 0 241 = True := eq_true (vp_in_nI (n := 0) (N := 241) (by decide) (by decide))
theorem jvs_1 : vp_in 1 241 = True := eq_true (vp_in_nI (n := 1) (N := 241) (by decide) (by decide))
theorem jvs_2 : vp_in 2 241 = True := eq_true (vp_in_nI (n := 2) (N := 241) (by decide) (by decide))
theorem jvs_3 : vp_in 3 241 = True := eq_true (vp_in_nI (n := 3) (N := 241) (by decide) (by decide))
theorem jvs_4 : vp_in 4 241 = True := eq_true (vp_in_nI (n := 4) (N := 241) (by decide) (by decide))
theorem jvs_5 : vp_in 5 241 = True := eq_true (vp_in_nI (n := 5) (N := 241) (by decide) (by decide))
theorem jvs_6 : vp_in 6 241 = True := eq_true (vp_in_nI (n := 6) (N := 241) (by decide) (by decide))
theorem jvs_7 : vp_in 7 241 = True := eq_true (vp_in_nI (n := 7) (N := 241) (by decide) (by decide))
theorem jvs_8 : vp_in 8 241 = True := eq_true (vp_in_nI (n := 8) (N := 241) (by decide) (by decide))
theorem jv9_0 : vp_in 0 9 = True := eq_true (vp_in_nI (n := 0) (N := 9) (by decide) (by decide))
theorem jv9_1 : vp_in 1 9 = True := eq_true (vp_in_nI (n := 1) (N := 9) (by decide) (by decide))
theorem jv9_2 : vp_in 2 9 = True := eq_true (vp_in_nI (n := 2) (N := 9) (by decide) (by decide))
theorem jv9_3 : vp_in 3 9 = True := eq_true (vp_in_nI (n := 3) (N := 9) (by decide) (by decide))
theorem jv9_4 : vp_in 4 9 = True := eq_true (vp_in_nI (n := 4) (N := 9) (by decide) (by decide))
theorem jv9_5 : vp_in 5 9 = True := eq_true (vp_in_nI (n := 5) (N := 9) (by decide) (by decide))
theorem jv9_6 : vp_in 6 9 = True := eq_true (vp_in_nI (n := 6) (N := 9) (by decide) (by decide))
theorem jv9_7 : vp_in 7 9 = True := eq_true (vp_in_nI (n := 7) (N := 9) (by decide) (by decide))
theorem jv9_8 : vp_in 8 9 = True := eq_true (vp_in_nI (n := 8) (N := 9) (by decide) (by decide))
theorem jv4_0 : vp_in 0 4 = True := eq_true (vp_in_nI (n := 0) (N := 4) (by decide) (by decide))
theorem jv4_1 : vp_in 1 4 = True := eq_true (vp_in_nI (n := 1) (N := 4) (by decide) (by decide))
theorem jv4_2 : vp_in 2 4 = True := eq_true (vp_in_nI (n := 2) (N := 4) (by decide) (by decide))
theorem jv4_3 : vp_in 3 4 = True := eq_true (vp_in_nI (n := 3) (N := 4) (by decide) (by decide))
def mN (S : Nat → Int32) : Nat := (S 0).toNatClampNeg
def mOk (S : Nat → Int32) : Prop := S 0 = nI (mN S) ∧ mN S ≤ 24
theorem mi_row (i p : Nat) : 25 + 9 * nI i + nI p = nI (25 + 9 * i + p) := by
  have h1 : (9 : Int32) * nI i = nI (9 * i) := pk_mul 9 i
  rw [h1]
  have h2 : (25 : Int32) + nI (9 * i) = nI (25 + 9 * i) := nI_add 25 (9 * i)
  rw [h2, nI_add]
theorem mi_rd (i p : Nat) : 9 + 4 * nI i + nI p = nI (9 + 4 * i + p) := by
  have h1 : (4 : Int32) * nI i = nI (4 * i) := pk_mul 4 i
  rw [h1]
  have h2 : (9 : Int32) + nI (4 * i) = nI (9 + 4 * i) := nI_add 9 (4 * i)
  rw [h2, nI_add]
def mBlk (S : Nat → Int32) (i : Nat) : Int32 := jb (0 < jct (fun k => ¬ 1 < S (25 + 9 * k + 3) ∧ S (25 + 9 * k + 0) = S (25 + 9 * i + 0)) i ∧ S 7 = 1)
def mCan (S : Nat → Int32) (r i : Nat) : Int32 := jb (S (25 + 9 * i + 3) = 0 ∧ mBlk S i = 0 ∧ (S (9 + 4 * r + 0) >>> (S (25 + 9 * i + 0) &&& 31)) &&& 1 = 1)
theorem mrow_in {S : Nat → Int32} (hO : mOk S) {v : Int32} (h : ¬ v < 0 ∧ ¬ S 0 - 1 < v) : vp_in v (mN S) := by
  obtain ⟨hn, h24⟩ := hO
  obtain ⟨j, hj, rfl⟩ := nI_of h.1
  refine vp_in_nI ?_ (by omega)
  rcases Nat.eq_zero_or_pos (mN S) with h0 | h0
  · exfalso
    apply h.2
    rw [hn, h0]
    show (-1 : Int32) < nI j
    rw [Int32.lt_iff_toInt_lt, nI_toInt hj]
    have : (-1 : Int32).toInt = -1 := by decide
    omega
  · obtain ⟨y, hy⟩ : ∃ y, mN S = y + 1 := ⟨mN S - 1, by omega⟩
    rw [hn, hy, nI_pred] at h
    have h5 : ¬ y < j := fun z => h.2 ((nI_ltI (by omega) hj).mpr z)
    omega
theorem vp_in_mono {v : Int32} {a b : Nat} (hab : a ≤ b) (h : vp_in v a) : vp_in v b := fun z => h (by rcases z with z | z; exact Or.inl z; exact Or.inr (by omega))
def mpk (S : Nat → Int32) (x k : Nat) : Nat := jct (fun u => 0 < jct (fun i => (S (25 + 9 * i + 0) = nI x ∧ (nI u = -1 ∨ S (25 + 9 * i + 1) = nI u)) ∧ S (25 + 9 * i + 3) = 0) (mN S)) k
def mpa (S : Nat → Int32) (x : Nat) : Nat := jfd (fun y s => s + mpk S y 10) x 0
theorem mpa_s (S : Nat → Int32) (x : Nat) : mpa S (x + 1) = mpa S x + mpk S x 10 := rfl
def mfw (S : Nat → Int32) : Nat → Nat → Int32
  | _, 0 => -1
  | lo, k + 1 => if S (25 + 9 * lo + 3) = 0 then nI lo else mfw S (lo + 1) k
def mPut (S : Nat → Int32) (x u : Int32) : Nat → Int32 := fun c => if c = 0 then S 0 + 1 else if c = 1 then S 1 + 1 else if 25 + 9 * mN S ≤ c ∧ c < 25 + 9 * mN S + 9 then (if c - (25 + 9 * mN S) = 0 then x else if c - (25 + 9 * mN S) = 1 then u else if c - (25 + 9 * mN S) = 2 then S 1 else if c - (25 + 9 * mN S) = 8 then S 3 else 0) else S c
def mPe (S : Nat → Int32) (p : Nat) : Nat → Int32 := fun c => if 25 + 9 * mN S ≤ c ∧ c < 25 + 9 * mN S + p then 0 else S c
theorem mPe_s (S : Nat → Int32) (p : Nat) : jup1 (mPe S p) (25 + 9 * mN S + p) 0 = mPe S (p + 1) := by
  funext c
  unfold jup1 mPe
  by_cases h : c = 25 + 9 * mN S + p
  · rw [if_pos h, if_pos (by omega)]
  · rw [if_neg h]
    by_cases d : 25 + 9 * mN S ≤ c ∧ c < 25 + 9 * mN S + p
    · rw [if_pos d, if_pos (by omega)]
    · rw [if_neg d, if_neg (by omega)]
theorem mPut_e (S : Nat → Int32) (x u : Int32) : jup1 (jup1 (jup1 (jup1 (jup1 (jup1 (mPe S 9) (25 + 9 * mN S + 0) x) (25 + 9 * mN S + 1) u) (25 + 9 * mN S + 2) (S 1)) (25 + 9 * mN S + 8) (S 3)) 0 (S 0 + 1)) 1 (S 1 + 1) = mPut S x u := by
  funext c
  unfold jup1 mPut mPe
  by_cases h1 : c = 1
  · rw [if_pos h1, if_neg (by omega), if_pos h1]
  rw [if_neg h1]
  by_cases h0 : c = 0
  · rw [if_pos h0, if_pos h0]
  rw [if_neg h0, if_neg h0, if_neg h1]
  by_cases d : 25 + 9 * mN S ≤ c ∧ c < 25 + 9 * mN S + 9
  · rw [if_pos d, if_pos d]
    obtain ⟨p, rfl⟩ : ∃ p, c = 25 + 9 * mN S + p := ⟨c - (25 + 9 * mN S), by omega⟩
    rw [show 25 + 9 * mN S + p - (25 + 9 * mN S) = p by omega]
    by_cases e8 : p = 8
    · subst e8; rw [if_pos rfl, if_neg (by omega), if_neg (by omega), if_neg (by omega), if_pos rfl]
    rw [if_neg (c := 25 + 9 * mN S + p = 25 + 9 * mN S + 8) (by omega)]
    by_cases e2 : p = 2
    · subst e2; rw [if_pos rfl, if_neg (by omega), if_neg (by omega), if_pos rfl]
    rw [if_neg (c := 25 + 9 * mN S + p = 25 + 9 * mN S + 2) (by omega)]
    by_cases e1 : p = 1
    · subst e1; rw [if_pos rfl, if_neg (by omega), if_pos rfl]
    rw [if_neg (c := 25 + 9 * mN S + p = 25 + 9 * mN S + 1) (by omega)]
    by_cases e0 : p = 0
    · subst e0; rw [if_pos rfl, if_pos rfl]
    rw [if_neg (c := 25 + 9 * mN S + p = 25 + 9 * mN S + 0) (by omega), if_neg e0, if_neg e1, if_neg e2, if_neg e8]
  · rw [if_neg (by omega), if_neg (by omega), if_neg (by omega), if_neg (by omega), if_neg d, if_neg d]
def mGS (S : Nat → Int32) (i : Nat) : Nat → Int32 := fun c => if c = 3 then S 3 + 1 else if 9 ≤ c ∧ c < 25 ∧ (c - 9) % 4 = 3 then S c + nI (jct (fun j => (S (25 + 9 * j + 3) = 1 ∧ S (25 + 9 * j + 5) = S 3 + 1) ∧ S (25 + 9 * j + 4) = nI ((c - 9) / 4)) i) else if 25 ≤ c ∧ c < 25 + 9 * i then (if (S (25 + 9 * ((c - 25) / 9) + 3) = 1 ∧ S (25 + 9 * ((c - 25) / 9) + 5) = S 3 + 1) then (if (c - 25) % 9 = 3 then (if S (25 + 9 * ((c - 25) / 9) + 6) + 1 < S 6 then 0 else 3) else if (c - 25) % 9 = 6 then S (25 + 9 * ((c - 25) / 9) + 6) + 1 else S c) else S c) else S c
theorem mGS_row {S : Nat → Int32} {i p : Nat} (hp : p < 9) : mGS S i (25 + 9 * i + p) = S (25 + 9 * i + p) := by
  unfold mGS
  rw [if_neg (by omega), if_neg (by omega), if_neg (by omega)]
theorem mGS_in {S : Nat → Int32} {i j p : Nat} (hj : j < i) (hp : p < 9) : mGS S i (25 + 9 * j + p) = if (S (25 + 9 * j + 3) = 1 ∧ S (25 + 9 * j + 5) = S 3 + 1) then (if p = 3 then (if S (25 + 9 * j + 6) + 1 < S 6 then 0 else 3) else if p = 6 then S (25 + 9 * j + 6) + 1 else S (25 + 9 * j + p)) else S (25 + 9 * j + p) := by
  unfold mGS
  rw [if_neg (by omega), if_neg (by omega), if_pos (by omega), show (25 + 9 * j + p - 25) / 9 = j by omega, show (25 + 9 * j + p - 25) % 9 = p by omega]
theorem mGS_rd {S : Nat → Int32} {i r : Nat} (hr : r < 4) : mGS S i (9 + 4 * r + 3) = S (9 + 4 * r + 3) + nI (jct (fun j => (S (25 + 9 * j + 3) = 1 ∧ S (25 + 9 * j + 5) = S 3 + 1) ∧ S (25 + 9 * j + 4) = nI r) i) := by
  unfold mGS
  rw [if_neg (by omega), if_pos (by omega), show (9 + 4 * r + 3 - 9) / 4 = r by omega]
theorem mGS_lo {S : Nat → Int32} {i c : Nat} (hc : c < 9) (h3 : ¬ c = 3) : mGS S i c = S c := by
  unfold mGS
  rw [if_neg h3, if_neg (by omega), if_neg (by omega)]
theorem mGS_3 {S : Nat → Int32} {i : Nat} : mGS S i 3 = S 3 + 1 := by
  unfold mGS
  rw [if_pos rfl]
theorem mGS_0 (S : Nat → Int32) : mGS S 0 = jup1 S 3 (S 3 + 1) := by
  funext c
  unfold mGS jup1
  by_cases h3 : c = 3
  · rw [if_pos h3, if_pos h3]
  rw [if_neg h3, if_neg h3]
  by_cases h : 9 ≤ c ∧ c < 25 ∧ (c - 9) % 4 = 3
  · rw [if_pos h]
    exact Int32.add_zero _
  · rw [if_neg h, if_neg (by omega)]
theorem mGS_n {S : Nat → Int32} {i : Nat} (hb : ¬ (S (25 + 9 * i + 3) = 1 ∧ S (25 + 9 * i + 5) = S 3 + 1)) : mGS S (i + 1) = mGS S i := by
  funext c
  by_cases hr : 25 + 9 * i ≤ c ∧ c < 25 + 9 * i + 9
  · obtain ⟨p, rfl⟩ : ∃ p, c = 25 + 9 * i + p := ⟨c - (25 + 9 * i), by omega⟩
    rw [mGS_row (by omega), mGS_in (by omega) (by omega), if_neg hb]
  · unfold mGS
    rw [jct_n (fun z => hb z.1)]
    by_cases h3 : c = 3
    · rw [if_pos h3, if_pos h3]
    rw [if_neg h3, if_neg h3]
    by_cases h : 9 ≤ c ∧ c < 25 ∧ (c - 9) % 4 = 3
    · rw [if_pos h, if_pos h]
    rw [if_neg h, if_neg h]
    by_cases d : 25 ≤ c ∧ c < 25 + 9 * i
    · rw [if_pos d, if_pos (by omega)]
    · rw [if_neg d, if_neg (by omega)]
theorem mGS_l {S : Nat → Int32} {i r : Nat} (hr4 : r < 4) (hb : (S (25 + 9 * i + 3) = 1 ∧ S (25 + 9 * i + 5) = S 3 + 1)) (hh : S (25 + 9 * i + 4) = nI r) {d : Int32} (hd : d = if S (25 + 9 * i + 6) + 1 < S 6 then 0 else 3) : jup1 (jup1 (jup1 (mGS S i) (25 + 9 * i + 6) (S (25 + 9 * i + 6) + 1)) (25 + 9 * i + 3) d) (9 + 4 * r + 3) (mGS S i (9 + 4 * r + 3) + 1) = mGS S (i + 1) := by
  funext c
  unfold jup1
  by_cases h1 : c = 9 + 4 * r + 3
  · subst h1
    rw [if_pos rfl, mGS_rd hr4, mGS_rd hr4, jct_y (p := fun j => (S (25 + 9 * j + 3) = 1 ∧ S (25 + 9 * j + 5) = S 3 + 1) ∧ S (25 + 9 * j + 4) = nI r) ⟨hb, hh⟩, Int32.add_assoc, nI_1]
  rw [if_neg h1]
  by_cases hr : 25 + 9 * i ≤ c ∧ c < 25 + 9 * i + 9
  · obtain ⟨p, rfl⟩ : ∃ p, c = 25 + 9 * i + p := ⟨c - (25 + 9 * i), by omega⟩
    rw [mGS_row (by omega), mGS_in (by omega) (by omega), if_pos hb, hd]
    by_cases e3 : p = 3
    · subst e3; rw [if_pos rfl, if_pos rfl]
    rw [if_neg (by omega), if_neg e3]
    by_cases e6 : p = 6
    · subst e6; rw [if_pos rfl, if_pos rfl]
    rw [if_neg (by omega), if_neg e6]
  · rw [if_neg (by omega), if_neg (by omega)]
    unfold mGS
    by_cases h3 : c = 3
    · rw [if_pos h3, if_pos h3]
    rw [if_neg h3, if_neg h3]
    by_cases h : 9 ≤ c ∧ c < 25 ∧ (c - 9) % 4 = 3
    · rw [if_pos h, if_pos h, jct_n (fun z => ?_)]
      have := (nI_eq (by omega) (by omega)).mp (z.2.symm.trans hh)
      omega
    rw [if_neg h, if_neg h]
    by_cases d : 25 ≤ c ∧ c < 25 + 9 * i
    · rw [if_pos d, if_pos (c := 25 ≤ c ∧ c < 25 + 9 * (i + 1)) (by omega)]
    · rw [if_neg d, if_neg (by omega)]
def mHo (S : Nat → Int32) : Prop := ∀ j, j < mN S → S (25 + 9 * j + 3) = 1 → vp_in (S (25 + 9 * j + 4)) 4
def mG (S : Nat → Int32) : Nat → Int32 := mGS S (mN S)
def mGc (S : Nat → Int32) : Nat := jct (fun j => (S (25 + 9 * j + 3) = 1 ∧ S (25 + 9 * j + 5) = S 3 + 1)) (mN S)
theorem mG_N (S : Nat → Int32) : mN (mG S) = mN S := by
  show (mGS S (mN S) 0).toNatClampNeg = _
  rw [mGS_lo (by omega) (by omega)]
  rfl
theorem mG_Ok {S : Nat → Int32} (h : mOk S) : mOk (mG S) := by
  unfold mOk
  rw [mG_N]
  refine ⟨?_, h.2⟩
  show mGS S (mN S) 0 = _
  rw [mGS_lo (by omega) (by omega)]
  exact h.1
theorem mG_Ho {S : Nat → Int32} (h : mHo S) : mHo (mG S) := by
  intro j hj hs
  rw [mG_N] at hj
  unfold mG at hs ⊢
  rw [mGS_in hj (by decide)] at hs ⊢
  by_cases hb : (S (25 + 9 * j + 3) = 1 ∧ S (25 + 9 * j + 5) = S 3 + 1)
  · rw [if_pos hb, if_pos rfl] at hs
    split at hs
    · exact absurd hs (by decide)
    · exact absurd hs (by decide)
  · rw [if_neg hb] at hs ⊢
    exact h j hj hs
def mGn (S : Nat → Int32) (k : Nat) : Nat → Int32 := jfd (fun _ s => mG s) k S
def mGcn (S : Nat → Int32) (k : Nat) : Nat := jfd (fun i s => s + mGc (mGn S i)) k 0
theorem mGn_s (S : Nat → Int32) (k : Nat) : mGn S (k + 1) = mG (mGn S k) := rfl
theorem mGcn_s (S : Nat → Int32) (k : Nat) : mGcn S (k + 1) = mGcn S k + mGc (mGn S k) := rfl
theorem mGn_ok {S : Nat → Int32} (hO : mOk S) (hH : mHo S) (k : Nat) : mOk (mGn S k) ∧ mHo (mGn S k) := by
  induction k with
  | zero => exact ⟨hO, hH⟩
  | succ k ih => exact ⟨mG_Ok ih.1, mG_Ho ih.2⟩
theorem jct_lt {p : Nat → Prop} [DecidablePred p] {n j : Nat} (hj : j < n) (h : ¬ p j) : jct p n < n := by
  induction n with
  | zero => omega
  | succ n ih =>
    by_cases e : j = n
    · subst e
      rw [jct_n h]
      have := jct_le p j
      omega
    · have := ih (by omega)
      by_cases hp : p n
      · rw [jct_y hp]; omega
      · rw [jct_n hp]; omega
theorem jord_ex {o : Nat → Prop} [DecidablePred o] {rk : Nat → Nat} {n k : Nat} : ∀ t i, i ≤ n → k < jpos o rk n t i → ∃ j, j < n ∧ o j ∧ jpos o rk n (rk j) j = k := by
  intro t
  induction t with
  | zero =>
    intro i
    induction i with
    | zero => intro _ h; rw [jpos_0] at h; omega
    | succ i ih =>
      intro hi h
      by_cases c : rk i = 0 ∧ o i
      · rw [jpos_s (by omega) c.2 c.1] at h
        by_cases e : k < jpos o rk n 0 i
        · exact ih (by omega) e
        · exact ⟨i, by omega, c.2, by rw [c.1]; omega⟩
      · rw [jpos_n c] at h
        exact ih (by omega) h
  | succ t iht =>
    intro i
    induction i with
    | zero => intro _ h; rw [← jpos_t] at h; exact iht n (Nat.le_refl n) h
    | succ i ih =>
      intro hi h
      by_cases c : rk i = t + 1 ∧ o i
      · rw [jpos_s (by omega) c.2 c.1] at h
        by_cases e : k < jpos o rk n (t + 1) i
        · exact ih (by omega) e
        · exact ⟨i, by omega, c.2, by rw [c.1]; omega⟩
      · rw [jpos_n c] at h
        exact ih (by omega) h
def mrk (S : Nat → Int32) (j : Nat) : Nat := 9 - (S (25 + 9 * j + 1)).toNatClampNeg
def mpos (S : Nat → Int32) (i : Nat) : Nat := jpos (fun j => ¬ 1 < S (25 + 9 * j + 3)) (mrk S) (mN S) (mrk S i) i
def mord (S : Nat → Int32) (k : Nat) : Nat := jord (fun j => ¬ 1 < S (25 + 9 * j + 3)) (mrk S) (mN S) k
def mTot (S : Nat → Int32) : Nat := jct (fun j => ¬ 1 < S (25 + 9 * j + 3)) (mN S)
def mUr (S : Nat → Int32) : Prop := ∀ j, j < mN S → vp_in (S (25 + 9 * j + 1)) 10
theorem mpos_lt {S : Nat → Int32} {i : Nat} (hi : i < mN S) : mpos S i < mN S := jct_lt hi (by omega)
theorem mord_k {S : Nat → Int32} {k : Nat} (hk : k < mTot S) : mord S k < mN S ∧ (¬ 1 < S (25 + 9 * mord S k + 3)) ∧ mpos S (mord S k) = k := by
  have h1 := jpos_all (o := fun j => ¬ 1 < S (25 + 9 * j + 3)) (rk := mrk S) (n := mN S) (T := 10) (fun j _ => by unfold mrk; omega)
  have h2 : k < jpos (fun j => ¬ 1 < S (25 + 9 * j + 3)) (mrk S) (mN S) 10 0 := by rw [h1]; exact hk
  obtain ⟨j, hj, ho, hp⟩ := jord_ex 10 0 (Nat.zero_le _) h2
  have h3 : mord S k = j := by
    have := jord_at (o := fun j => ¬ 1 < S (25 + 9 * j + 3)) (rk := mrk S) hj ho
    rwa [hp] at this
  rw [h3]
  exact ⟨hj, ho, hp⟩
theorem mord_at {S : Nat → Int32} {i : Nat} (hi : i < mN S) (ho : ¬ 1 < S (25 + 9 * i + 3)) : mord S (mpos S i) = i := jord_at (o := fun j => ¬ 1 < S (25 + 9 * j + 3)) (rk := mrk S) hi ho
theorem mpos_inj {S : Nat → Int32} {i j : Nat} (hi : i < mN S) (hj : j < mN S) (oi : ¬ 1 < S (25 + 9 * i + 3)) (oj : ¬ 1 < S (25 + 9 * j + 3)) (h : mpos S i = mpos S j) : i = j := jpos_inj (o := fun j => ¬ 1 < S (25 + 9 * j + 3)) hi hj oi oj h
theorem mplace {S : Nat → Int32} (hO : mOk S) (hU : mUr S) {i : Nat} (hi : i < mN S) : jct (fun k => ¬ 1 < S (25 + 9 * k + 3) ∧ (0 < S (25 + 9 * k + 1) - S (25 + 9 * i + 1) ∨ S (25 + 9 * k + 1) - S (25 + 9 * i + 1) = 0 ∧ nI (k) < nI (i))) (mN S) = mpos S i := by
  refine jct_cg fun k hk => ?_
  obtain ⟨a, ha, ea⟩ := vp_in_of (hU k hk) (by decide)
  obtain ⟨b, hb, eb⟩ := vp_in_of (hU i hi) (by decide)
  have h24 := hO.2
  have er1 : mrk S k = 9 - a := by unfold mrk; rw [ea, nI_clamp (by omega)]
  have er2 : mrk S i = 9 - b := by unfold mrk; rw [eb, nI_clamp (by omega)]
  have hs : (nI a - nI b).toInt = (a : Int) - b := pk_sub_toInt (by omega) (by omega)
  have h0 : (0 : Int32).toInt = 0 := by decide
  have e1 : 0 < nI a - nI b ↔ b < a := by
    rw [Int32.lt_iff_toInt_lt, hs, h0]
    omega
  have e2 : nI a - nI b = 0 ↔ a = b := by
    rw [← Int32.toInt_inj, hs, h0]
    omega
  have e3 : nI k < nI i ↔ k < i := nI_ltI (by omega) (by omega)
  rw [ea, eb, e1, e2, e3, er1, er2]
  constructor
  · rintro ⟨h1, h2⟩; exact ⟨h1, by omega⟩
  · rintro ⟨h1, h2⟩; exact ⟨h1, by omega⟩
def mOF (S : Nat → Int32) (f : Nat → Int32) (i : Nat) : Nat → Int32 := jfd (fun j g => if ¬ 1 < S (25 + 9 * j + 3) then jup1 g (mpos S j) (nI j) else g) i f
theorem mOF_s (S : Nat → Int32) (f : Nat → Int32) (i : Nat) : mOF S f (i + 1) = if ¬ 1 < S (25 + 9 * i + 3) then jup1 (mOF S f i) (mpos S i) (nI i) else mOF S f i := rfl
theorem mOF_at {S : Nat → Int32} {f : Nat → Int32} {i j : Nat} (hi : i ≤ mN S) (hj : j < i) (ho : ¬ 1 < S (25 + 9 * j + 3)) : mOF S f i (mpos S j) = nI j := by
  induction i with
  | zero => omega
  | succ i ih =>
    rw [mOF_s]
    by_cases e : j = i
    · subst e
      rw [if_pos ho]
      exact if_pos rfl
    · by_cases oi : ¬ 1 < S (25 + 9 * i + 3)
      · rw [if_pos oi]
        refine (if_neg fun z => e ?_).trans (ih (by omega) (by omega))
        exact mpos_inj (by omega) (by omega) ho oi z
      · rw [if_neg oi]
        exact ih (by omega) (by omega)
theorem mOF_ord {S : Nat → Int32} {f : Nat → Int32} {k : Nat} (hk : k < mTot S) : mOF S f (mN S) k = nI (mord S k) := by
  obtain ⟨h1, h2, h3⟩ := mord_k hk
  have := mOF_at (f := f) (Nat.le_refl _) h1 h2
  rwa [h3] at this
abbrev mTT : Type := (Nat → Int32) × Int32 × Int32 × Int32
def mTst (S0 : Nat → Int32) (r : Nat) (M : Int32) (k : Nat) (T : mTT) : mTT := if T.2.1 < M then (if mCan T.1 r (mord S0 k) = 0 then (jup1 T.1 (25 + 9 * mord S0 k + 7) (T.1 (25 + 9 * mord S0 k + 7) + 1), T.2.1, T.2.2.1, T.2.2.2 + 1) else (jup1 (jup1 (jup1 T.1 (25 + 9 * mord S0 k + 3) 1) (25 + 9 * mord S0 k + 4) (nI r)) (25 + 9 * mord S0 k + 5) (T.1 3 + T.1 5), T.2.1 + 1, T.2.2.1 ||| (1 <<< (nI (mord S0 k) &&& 31)), T.2.2.2)) else T
def mTG (S : Nat → Int32) (r : Nat) (M : Int32) (k : Nat) : mTT := jfd (mTst S r M) k (S, 0, 0, 0)
theorem mTG_s (S : Nat → Int32) (r : Nat) (M : Int32) (k : Nat) : mTG S r M (k + 1) = mTst S r M k (mTG S r M k) := rfl
theorem mTst_no {S : Nat → Int32} {r : Nat} {M : Int32} {k : Nat} {T : mTT} (h : ¬ T.2.1 < M) : mTst S r M k T = T := if_neg h
theorem mTG_fr {S : Nat → Int32} {r : Nat} {M : Int32} {k k' : Nat} (hk : k ≤ k') (h : ¬ (mTG S r M k).2.1 < M) : mTG S r M k' = mTG S r M k := by
  obtain ⟨d, rfl⟩ : ∃ d, k' = k + d := ⟨k' - k, by omega⟩
  clear hk
  induction d with
  | zero => rfl
  | succ d ih => rw [← Nat.add_assoc, mTG_s, ih, mTst_no h]
def mroom (S : Nat → Int32) (r x : Int32) : Int32 := if S 8 - nI (jct (fun i => S (25 + 9 * i + 3) = 1 ∧ S (25 + 9 * i + 4) = r) (mN S)) < x then S 8 - nI (jct (fun i => S (25 + 9 * i + 3) = 1 ∧ S (25 + 9 * i + 4) = r) (mN S)) else x
theorem mPut_N {S : Nat → Int32} (x u : Int32) (hO : mOk S) (h : mN S < 24) : mN (mPut S x u) = mN S + 1 ∧ mOk (mPut S x u) := by
  have e0 : mPut S x u 0 = nI (mN S + 1) := by
    unfold mPut
    rw [if_pos rfl, ← nI_1, ← hO.1]
  have e1 : mN (mPut S x u) = mN S + 1 := by
    unfold mN at *
    rw [e0]
    exact nI_clamp (by omega)
  exact ⟨e1, by unfold mOk; rw [e1]; exact ⟨e0, h⟩⟩
theorem jup1_ne {f : Nat → Int32} {k j : Nat} {x : Int32} (h : ¬ j = k) : jup1 f k x j = f j := if_neg h
theorem jup1_at (f : Nat → Int32) (k : Nat) (x : Int32) : jup1 f k x k = x := if_pos rfl
theorem mTG_ge {S : Nat → Int32} {r : Nat} {M : Int32} (hn : mN S ≤ 24) {j : Nat} (hj : 241 ≤ j) : ∀ k, k ≤ mTot S → (mTG S r M k).1 j = S j := by
  intro k
  induction k with
  | zero => intro _; rfl
  | succ k ih =>
    intro hk
    have e := ih (by omega)
    obtain ⟨h1, _, _⟩ := mord_k (S := S) (k := k) (by omega)
    rw [mTG_s]
    generalize mTG S r M k = T at *
    unfold mTst
    split
    · split
      · exact (jup1_ne (by omega)).trans e
      · exact (jup1_ne (by omega)).trans ((jup1_ne (by omega)).trans ((jup1_ne (by omega)).trans e))
    · exact e
def mTS (S : Nat → Int32) (r : Nat) (M : Int32) : Nat → Int32 := jup1 (mTG S r M (mTot S)).1 4 ((mTG S r M (mTot S)).1 4 + (mTG S r M (mTot S)).2.2.2)
theorem mTS_ge {S : Nat → Int32} {r : Nat} {M : Int32} (hn : mN S ≤ 24) {j : Nat} (hj : 241 ≤ j) : mTS S r M j = S j := (jup1_ne (by omega)).trans (mTG_ge hn hj _ (Nat.le_refl _))
def mTV (S : Nat → Int32) (r : Nat) (M w : Int32) : Int32 := if w = 0 then (mTG S r M (mTot S)).2.1 else if w = 1 then (mTG S r M (mTot S)).2.2.1 else (mTG S r M (mTot S)).2.2.2
theorem mGS_ge {S : Nat → Int32} {i : Nat} (hi : i ≤ 24) {j : Nat} (hj : 241 ≤ j) : mGS S i j = S j := by
  unfold mGS
  rw [if_neg (by omega), if_neg (by omega), if_neg (by omega)]
theorem mGn_ge {S : Nat → Int32} (hO : mOk S) (hH : mHo S) {j : Nat} (hj : 241 ≤ j) (k : Nat) : mGn S k j = S j := by
  induction k with
  | zero => rfl
  | succ k ih => exact (mGS_ge (mGn_ok hO hH k).1.2 hj).trans ih
def mPV (S : Nat → Int32) (u : Nat) (w : Int32) : Int32 := if w = 0 then nI (mGcn S u) else nI (jct (fun i => mGn S u (25 + 9 * i + 3) = 3) (mN (mGn S u)))
def mnf (S : Nat → Int32) (r : Nat) : Nat → Nat → Int32
  | _, 0 => -1
  | y, k + 1 => if mCan S r (mord S y) = 0 then mnf S r (y + 1) k else nI (mord S y)
def mheld (S : Nat → Int32) (r : Int32) : Nat := jct (fun i => S (25 + 9 * i + 3) = 1 ∧ S (25 + 9 * i + 4) = r) (mN S)
def mnxV (S : Nat → Int32) (r : Nat) : Int32 := if S 8 ≤ nI (mheld S (nI r)) then -1 else mnf S r 0 (mTot S)
def mtl (S : Nat → Int32) (z : Int32) (w : Nat) : Int32 := match w with
  | 0 => S 3
  | 1 => S 0
  | 2 => nI (jct (fun i => S (25 + 9 * i + 3) = 0) (mN S))
  | 3 => nI (jct (fun i => S (25 + 9 * i + 3) = 1) (mN S))
  | 4 => nI (jct (fun i => S (25 + 9 * i + 3) = 2) (mN S))
  | 5 => nI (jct (fun i => S (25 + 9 * i + 3) = 3) (mN S))
  | 6 => S 1
  | 7 => S 2
  | 8 => nI (jct (fun i => S (25 + 9 * i + 3) = 0 ∧ ¬ mBlk S i = 0) (mN S))
  | 9 => S 4
  | 10 => nI (mpa S 8)
  | 11 => mfw S 0 (mN S)
  | _ => z
def mrowV (S : Nat → Int32) (q w : Nat) : Int32 := match w with
  | 0 => S (25 + 9 * q + 0)
  | 1 => S (25 + 9 * q + 1)
  | 2 => S (25 + 9 * q + 2)
  | 3 => S (25 + 9 * q + 3)
  | 4 => if S (25 + 9 * q + 3) = 1 then S (25 + 9 * q + 4) else -1
  | 5 => if S (25 + 9 * q + 3) = 1 then S (25 + 9 * q + 5) else -1
  | 6 => S (25 + 9 * q + 6)
  | 7 => S (25 + 9 * q + 7)
  | 8 => jb (¬ 1 < S (25 + 9 * q + 3) ∧ ¬ mBlk S q = 0)
  | 9 => if ¬ 1 < S (25 + 9 * q + 3) then nI (jct (fun k => ¬ 1 < S (25 + 9 * k + 3) ∧ (0 < S (25 + 9 * k + 1) - S (25 + 9 * q + 1) ∨ S (25 + 9 * k + 1) - S (25 + 9 * q + 1) = 0 ∧ nI (k) < nI (q))) (mN S)) else -1
  | _ => S 3 - S (25 + 9 * q + 8)
def mrdV (S : Nat → Int32) (p w : Nat) : Int32 := match w with
  | 0 => S (9 + 4 * p + 0)
  | 1 => nI (mheld S (nI p))
  | 2 => S (9 + 4 * p + 1)
  | 3 => S (9 + 4 * p + 2)
  | 4 => S (9 + 4 * p + 3)
  | 5 => jfd (fun i s => if (S (25 + 9 * i + 3) = 1 ∧ S (25 + 9 * i + 4) = nI p) ∧ (s = -1 ∨ S (25 + 9 * i + 5) < s) then S (25 + 9 * i + 5) else s) (mN S) (-1)
  | _ => mnxV S p
def mgS (S : Nat → Int32) : Int32 := jfd (fun i s => if S (25 + 9 * i + 3) = 0 ∧ s < S (25 + 9 * i + 7) then S (25 + 9 * i + 7) else s) (mN S) 0
theorem mN_lt {S : Nat → Int32} (hO : mOk S) (h : ¬ S 0 = 24) : mN S < 24 := by
  rcases Nat.lt_or_ge (mN S) 24 with c | c
  · exact c
  · exact absurd (by rw [hO.1, show mN S = 24 by have := hO.2; omega]; decide) h
def mSc (S : Nat → Int32) (i : Nat) : Nat := jct (fun j => ¬ S (25 + 9 * j + 3) = 2) i
def mSp (S s : Nat → Int32) (c i p : Nat) : Nat → Int32 := fun a => if 25 + 9 * c ≤ a ∧ a < 25 + 9 * c + p then S (25 + 9 * i + (a - (25 + 9 * c))) else s a
def mSw (S : Nat → Int32) (i : Nat) : Nat → Int32 := jfd (fun j s => if ¬ S (25 + 9 * j + 3) = 2 then mSp S s (mSc S j) j 9 else s) i S
theorem mSw_s (S : Nat → Int32) (i : Nat) : mSw S (i + 1) = if ¬ S (25 + 9 * i + 3) = 2 then mSp S (mSw S i) (mSc S i) i 9 else mSw S i := rfl
theorem mSw_hi {S : Nat → Int32} {i c : Nat} (h : 25 + 9 * i ≤ c) : mSw S i c = S c := by
  induction i with
  | zero => rfl
  | succ i ih =>
    rw [mSw_s]
    have hle : mSc S i ≤ i := jct_le _ _
    split
    · exact (if_neg (by omega)).trans (ih (by omega))
    · exact ih (by omega)
theorem mSw_lo {S : Nat → Int32} {i c : Nat} (h : c < 25) : mSw S i c = S c := by
  induction i with
  | zero => rfl
  | succ i ih =>
    rw [mSw_s]
    split
    · exact (if_neg (by omega)).trans ih
    · exact ih
theorem mSp_0 (S s : Nat → Int32) (c i : Nat) : mSp S s c i 0 = s := funext fun a => if_neg (by omega)
theorem mSp_s (S s : Nat → Int32) (c i p : Nat) : jup1 (mSp S s c i p) (25 + 9 * c + p) (S (25 + 9 * i + p)) = mSp S s c i (p + 1) := by
  funext a
  unfold jup1 mSp
  by_cases e : a = 25 + 9 * c + p
  · subst e
    rw [if_pos rfl, if_pos (by omega)]
    exact congrArg S (by omega)
  · rw [if_neg e]
    by_cases d : 25 + 9 * c ≤ a ∧ a < 25 + 9 * c + p
    · rw [if_pos d, if_pos (by omega)]
    · rw [if_neg d, if_neg (by omega)]
def mSW (S : Nat → Int32) : Nat → Int32 := jup1 (mSw S (mN S)) 0 (nI (mSc S (mN S)))
theorem mle3 {s : Int32} (h : ¬ s < 0 ∧ ¬ 3 < s) : vp_in s 4 := by
  obtain ⟨w', hw, rfl⟩ := nI_of2 (M := 3) (n := 3) (by decide) h.1 (ji_le.mpr h.2)
  exact vp_in_nI (by omega) (by decide)
theorem mup_lo {S : Nat → Int32} {k q p : Nat} {x : Int32} (h : k < 25) : jup1 S (25 + 9 * q + p) x k = S k := if_neg (by omega)
def mRN (S : Nat → Int32) (r : Int32) (i : Nat) : Nat → Int32 := jfd (fun j s => if (S (25 + 9 * j + 3) = 1 ∧ S (25 + 9 * j + 4) = r) then jup1 s (25 + 9 * j + 5) (S 3 + S 5) else s) i S
theorem mRN_s (S : Nat → Int32) (r : Int32) (i : Nat) : mRN S r (i + 1) = if (S (25 + 9 * i + 3) = 1 ∧ S (25 + 9 * i + 4) = r) then jup1 (mRN S r i) (25 + 9 * i + 5) (S 3 + S 5) else mRN S r i := rfl
theorem mRN_ne {S : Nat → Int32} {r : Int32} {i c : Nat} (h : ∀ j, ¬ c = 25 + 9 * j + 5) : mRN S r i c = S c := by
  induction i with
  | zero => rfl
  | succ i ih =>
    rw [mRN_s]
    split
    · exact (if_neg (h i)).trans ih
    · exact ih
theorem mRN_at {S : Nat → Int32} {r : Int32} {i j : Nat} : mRN S r i (25 + 9 * j + 5) = if j < i ∧ (S (25 + 9 * j + 3) = 1 ∧ S (25 + 9 * j + 4) = r) then S 3 + S 5 else S (25 + 9 * j + 5) := by
  induction i with
  | zero => rw [if_neg (by omega)]; rfl
  | succ i ih =>
    rw [mRN_s]
    by_cases e : j = i
    · subst e
      by_cases c : (S (25 + 9 * j + 3) = 1 ∧ S (25 + 9 * j + 4) = r)
      · rw [if_pos c, if_pos ⟨by omega, c⟩]; exact if_pos rfl
      · rw [if_neg c, ih, if_neg (fun z => c z.2), if_neg (fun z => c z.2)]
    · have e1 : (if (S (25 + 9 * i + 3) = 1 ∧ S (25 + 9 * i + 4) = r) then jup1 (mRN S r i) (25 + 9 * i + 5) (S 3 + S 5) else mRN S r i) (25 + 9 * j + 5) = mRN S r i (25 + 9 * j + 5) := by
        split
        · exact if_neg (by omega)
        · rfl
      rw [e1, ih]
      by_cases c : j < i ∧ (S (25 + 9 * j + 3) = 1 ∧ S (25 + 9 * j + 4) = r)
      · rw [if_pos c, if_pos ⟨by omega, c.2⟩]
      · rw [if_neg c, if_neg (fun z => c ⟨by omega, z.2⟩)]
theorem mRN_ok {S : Nat → Int32} {r : Int32} {i : Nat} (hO : mOk S) : mOk (mRN S r i) ∧ mN (mRN S r i) = mN S := by
  have e : mRN S r i 0 = S 0 := mRN_ne (fun j => by omega)
  have e2 : mN (mRN S r i) = mN S := by unfold mN; rw [e]
  exact ⟨by unfold mOk; rw [e2, e]; exact hO, e2⟩
