/-! texts: the class's parts and the reference's reading -/
def kAd (T : jPS) : Nat → Nat → (Nat → Int32) → (Nat → Int32)
  | _, 0, S => S
  | q, d + 1, S => kAd T (q + 1) d (mIt S (T.2.2.1 q) (T.2.2.2.1 q) (T.2.2.2.2 q).toNatClampNeg)
/-- part q is read, those before it are T0's -/
def kSt (T : jPS) (q : Nat) (k u t : Int32) (T0 : jPS) : Prop := T.2.1 = q + 1 ∧ T.2.2.1 q = k ∧ T.2.2.2.1 q = u ∧ T.2.2.2.2 q = t ∧ ∀ i, i < q → T.2.2.1 i = T0.2.2.1 i ∧ T.2.2.2.1 i = T0.2.2.2.1 i ∧ T.2.2.2.2 i = T0.2.2.2.2 i
theorem jpn_o {s : Nat} {r : Nat × (Nat → Int32) × (Nat → Int32) × (Nat → Int32)} {d : Int32} (h : ¬ s = 2 ∧ ¬ s = 4 ∧ ¬ s = 6) : jpn (s, r) d = (s, r) := by
  unfold jpn
  rw [if_neg (fun z => h.1 z.1), if_neg (fun z => h.2.1 z.1), if_neg (fun z => h.2.2 z.1)]
theorem jpn_2 {r : Nat × (Nat → Int32) × (Nat → Int32) × (Nat → Int32)} {d : Int32} (h : r.1 < 20) : kSt (jpn (2, r) d) r.1 d 0 1 (2, r) := by
  unfold jpn
  rw [if_pos ⟨rfl, h⟩]
  exact ⟨rfl, jup1_at _ _ _, jup1_at _ _ _, jup1_at _ _ _, fun i hi => ⟨jup1_ne (k := r.1) (by omega), jup1_ne (k := r.1) (by omega), jup1_ne (k := r.1) (by omega)⟩⟩
theorem jpn_4 {r : Nat × (Nat → Int32) × (Nat → Int32) × (Nat → Int32)} {d k u t : Int32} {q s : Nat} {T0 : jPS} (h : kSt (s, r) q k u t T0) : kSt (jpn (4, r) d) q k d t T0 := by
  obtain ⟨h1, h2, h3, h4, h5⟩ := h
  have h1 : r.1 = q + 1 := h1
  unfold jpn
  rw [if_neg (fun z => absurd z.1 (show ¬ (4 : Nat) = 2 from by decide)), if_pos ⟨rfl, by show 0 < r.1; omega⟩]
  refine ⟨h1, h2, ?_, h4, fun i hi => ⟨(h5 i hi).1, ?_, (h5 i hi).2.2⟩⟩
  · show jup1 r.2.2.1 (r.1 - 1) d q = d
    rw [show r.1 - 1 = q by omega, jup1_at]
  · show jup1 r.2.2.1 (r.1 - 1) d i = _
    rw [jup1_ne (by omega)]
    exact (h5 i hi).2.1
theorem jpn_6 {r : Nat × (Nat → Int32) × (Nat → Int32) × (Nat → Int32)} {d k u t : Int32} {q s : Nat} {T0 : jPS} (h : kSt (s, r) q k u t T0) : kSt (jpn (6, r) d) q k u d T0 := by
  obtain ⟨h1, h2, h3, h4, h5⟩ := h
  have h1 : r.1 = q + 1 := h1
  unfold jpn
  rw [if_neg (fun z => absurd z.1 (show ¬ (6 : Nat) = 2 from by decide)), if_neg (fun z => absurd z.1 (show ¬ (6 : Nat) = 4 from by decide)), if_pos ⟨rfl, by show 0 < r.1; omega⟩]
  refine ⟨h1, h2, h3, ?_, fun i hi => ⟨(h5 i hi).1, (h5 i hi).2.1, ?_⟩⟩
  · show jup1 r.2.2.2 (r.1 - 1) d q = d
    rw [show r.1 - 1 = q by omega, jup1_at]
  · show jup1 r.2.2.2 (r.1 - 1) d i = _
    rw [jup1_ne (by omega)]
    exact (h5 i hi).2.2
theorem kdg {c : Int32} {lo hi m : Nat} (h : ¬ c < nI lo ∧ ¬ nI hi < c) (hl : 48 ≤ lo ∧ lo < 1000) (hh : hi < 48 + m ∧ m < 1000) (h99 : hi < 1000) : vp_in (c - 48) m := by
  have h0 : ¬ c < 0 := by
    intro z
    apply h.1
    rw [Int32.lt_iff_toInt_lt] at z ⊢
    rw [nI_toInt (by omega)]
    have : (0 : Int32).toInt = 0 := by decide
    omega
  obtain ⟨j, hj, rfl⟩ := nI_of h0
  have h1 : ¬ j < lo := fun z => h.1 ((nI_ltI hj (by omega)).mpr z)
  have h2 : ¬ hi < j := fun z => h.2 ((nI_ltI (by omega) hj).mpr z)
  have e : nI j - 48 = nI (j - 48) := by
    apply Int32.toInt_inj.mp
    have := pk_sub_toInt (a := j) (b := 48) (by omega) (by omega)
    rw [nI_toInt (by omega)]
    have e2 : (nI j - 48).toInt = (nI j - nI 48).toInt := rfl
    omega
  rw [e]
  exact vp_in_nI (by omega) (by omega)
section KPS
variable {σ : jgS} {B n : Nat}
theorem kpl (k : Nat) : (jPG σ B (k)).1 = jpl (σ.1 (B + 1)) k := by
  induction k with
  | zero => rfl
  | succ k ih =>
    rw [jPG_s, jpl_s, ← ih]
    unfold jpst
    by_cases h1 : (jPG σ B (k)).1 = 7
    · rw [if_pos h1, if_pos h1, h1]
    · rw [if_neg h1, if_neg h1]
      by_cases h2 : jpb (jPG σ B (k)).1 ((σ.1 (B + 1)) k) = 7
      · rw [if_pos h2, h2]
      · rw [if_neg h2, jpn_p]
theorem kstp (hc : ¬ jpl (σ.1 (B + 1)) n = 7) {k : Nat} (hk : k < n) : (¬ jpb (jPG σ B (k)).1 ((σ.1 (B + 1)) k) = 7) ∧ jPG σ B (k + 1) = jpn (jpb (jPG σ B (k)).1 ((σ.1 (B + 1)) k), (jPG σ B (k)).2) ((σ.1 (B + 1)) k - 48) := by
  have h1 : ¬ jpl (σ.1 (B + 1)) (k + 1) = 7 := fun z => hc (jpl_fr (by omega) z)
  have h0 : ¬ jpl (σ.1 (B + 1)) k = 7 := fun z => hc (jpl_fr (by omega) z)
  rw [← kpl] at h0
  rw [← kpl, jPG_s] at h1
  rw [jPG_s]
  unfold jpst at *
  rw [if_neg h0] at h1 ⊢
  by_cases h2 : jpb (jPG σ B (k)).1 ((σ.1 (B + 1)) k) = 7
  · rw [if_pos h2] at h1
    exact absurd rfl h1
  · rw [if_neg h2]
    exact ⟨h2, rfl⟩
/-- one part, to its key's end -/
theorem kpA (hc : jpl (σ.1 (B + 1)) n = 2 ∨ jpl (σ.1 (B + 1)) n = 4 ∨ jpl (σ.1 (B + 1)) n = 6) {k : Nat} (h0 : (jPG σ B (k)).1 = 0) (hk : k < n) (hq : (jPG σ B (k)).2.1 < 20) : k + 1 < n ∧ (jPG σ B (k + 2)).1 = 2 ∧ kSt (jPG σ B (k + 2)) (jPG σ B (k)).2.1 (pKy (σ.1 (B + 1)) k) 0 1 (jPG σ B (k)) ∧ vp_in (pKy (σ.1 (B + 1)) k) 8 := by
  have hn7 : ¬ jpl (σ.1 (B + 1)) n = 7 := by omega
  obtain ⟨a1, a2⟩ := kstp hn7 hk
  rw [h0] at a1 a2
  have e1 : jpb 0 ((σ.1 (B + 1)) k) = 1 := by
    show (if _ then _ else _) = _
    by_cases z : (σ.1 (B + 1)) k = 107
    · rw [if_pos z]
    · exact absurd (if_neg z) a1
  rw [e1, jpn_o (by decide)] at a2
  have hk1 : k + 1 < n := by
    rcases Nat.lt_or_ge (k + 1) n with z | z
    · exact z
    · have e : n = k + 1 := by omega
      have : jpl (σ.1 (B + 1)) (k + 1) = 1 := by rw [← kpl, a2]
      rw [e] at hc
      omega
  obtain ⟨b1, b2⟩ := kstp hn7 hk1
  rw [a2] at b1 b2
  have e2 : jpb 1 ((σ.1 (B + 1)) (k + 1)) = 2 ∧ (¬ (σ.1 (B + 1)) (k + 1) < nI 48 ∧ ¬ nI 55 < (σ.1 (B + 1)) (k + 1)) := by
    by_cases z : ¬ (σ.1 (B + 1)) (k + 1) < 48 ∧ ¬ 55 < (σ.1 (B + 1)) (k + 1)
    · exact ⟨if_pos z, z⟩
    · exact absurd (if_neg z) b1
  have b2 : jPG σ B (k + 2) = jpn (jpb 1 ((σ.1 (B + 1)) (k + 1)), (jPG σ B (k)).2) ((σ.1 (B + 1)) (k + 1) - 48) := b2
  rw [e2.1] at b2
  refine ⟨hk1, by rw [b2, jpn_p], ?_, kdg e2.2 (by decide) (by decide) (by decide)⟩
  rw [b2]
  have := jpn_2 (r := (jPG σ B (k)).2) (d := (σ.1 (B + 1)) (k + 1) - 48) hq
  exact this
/-- its urgency -/
theorem kpB (hc : jpl (σ.1 (B + 1)) n = 2 ∨ jpl (σ.1 (B + 1)) n = 4 ∨ jpl (σ.1 (B + 1)) n = 6) {k q : Nat} {T0 : jPS} (h2 : (jPG σ B (k + 2)).1 = 2) (hk : k + 1 < n) (hs : kSt (jPG σ B (k + 2)) q (pKy (σ.1 (B + 1)) k) 0 1 T0) : (k + 2 < n → (σ.1 (B + 1)) (k + 2) = 117 → k + 3 < n) ∧ pk1 (σ.1 (B + 1)) n k ≤ n ∧ k + 2 ≤ pk1 (σ.1 (B + 1)) n k ∧ ((jPG σ B (pk1 (σ.1 (B + 1)) n k)).1 = 2 ∧ (pk1 (σ.1 (B + 1)) n k < n → ¬ (σ.1 (B + 1)) (pk1 (σ.1 (B + 1)) n k) = 117) ∨ (jPG σ B (pk1 (σ.1 (B + 1)) n k)).1 = 4) ∧ kSt (jPG σ B (pk1 (σ.1 (B + 1)) n k)) q (pKy (σ.1 (B + 1)) k) (pU (σ.1 (B + 1)) n k) 1 T0 ∧ vp_in (pU (σ.1 (B + 1)) n k) 10 := by
  have hn7 : ¬ jpl (σ.1 (B + 1)) n = 7 := by omega
  have v0 : vp_in 0 10 := vp_in_nI (n := 0) (by decide) (by decide)
  by_cases hu : k + 2 < n ∧ (σ.1 (B + 1)) (k + 2) = 117
  · have e1 : pk1 (σ.1 (B + 1)) n k = k + 4 := if_pos hu
    have e2 : pU (σ.1 (B + 1)) n k = (σ.1 (B + 1)) (k + 3) - 48 := if_pos hu
    obtain ⟨a1, a2⟩ := kstp hn7 hu.1
    rw [h2] at a1 a2
    have e3 : jpb 2 ((σ.1 (B + 1)) (k + 2)) = 3 := if_pos hu.2
    rw [e3, jpn_o (by decide)] at a2
    have a2 : jPG σ B (k + 3) = (3, (jPG σ B (k + 2)).2) := a2
    have hk3 : k + 3 < n := by
      rcases Nat.lt_or_ge (k + 3) n with z | z
      · exact z
      · have e : n = k + 3 := by omega
        have : jpl (σ.1 (B + 1)) (k + 3) = 3 := by rw [← kpl, a2]
        rw [e] at hc
        omega
    obtain ⟨b1, b2⟩ := kstp hn7 hk3
    rw [a2] at b1 b2
    have e4 : jpb 3 ((σ.1 (B + 1)) (k + 3)) = 4 ∧ (¬ (σ.1 (B + 1)) (k + 3) < nI 48 ∧ ¬ nI 57 < (σ.1 (B + 1)) (k + 3)) := by
      by_cases z : ¬ (σ.1 (B + 1)) (k + 3) < 48 ∧ ¬ 57 < (σ.1 (B + 1)) (k + 3)
      · exact ⟨if_pos z, z⟩
      · exact absurd (if_neg z) b1
    have b2 : jPG σ B (k + 4) = jpn (jpb 3 ((σ.1 (B + 1)) (k + 3)), (jPG σ B (k + 2)).2) ((σ.1 (B + 1)) (k + 3) - 48) := b2
    rw [e4.1] at b2
    rw [e1, e2]
    refine ⟨fun _ _ => hk3, by omega, by omega, Or.inr (by rw [b2, jpn_p]), ?_, kdg e4.2 (by decide) (by decide) (by decide)⟩
    rw [b2]
    exact jpn_4 (s := (jPG σ B (k + 2)).1) hs
  · have e1 : pk1 (σ.1 (B + 1)) n k = k + 2 := if_neg hu
    have e2 : pU (σ.1 (B + 1)) n k = 0 := if_neg hu
    rw [e1, e2]
    exact ⟨fun z y => absurd ⟨z, y⟩ hu, by omega, by omega, Or.inl ⟨h2, fun z y => hu ⟨z, y⟩⟩, hs, v0⟩
/-- its number of times -/
theorem kpC (hc : jpl (σ.1 (B + 1)) n = 2 ∨ jpl (σ.1 (B + 1)) n = 4 ∨ jpl (σ.1 (B + 1)) n = 6) {k q : Nat} {T0 : jPS} (h1 : pk1 (σ.1 (B + 1)) n k ≤ n) (h2 : (jPG σ B (pk1 (σ.1 (B + 1)) n k)).1 = 2 ∧ (pk1 (σ.1 (B + 1)) n k < n → ¬ (σ.1 (B + 1)) (pk1 (σ.1 (B + 1)) n k) = 117) ∨ (jPG σ B (pk1 (σ.1 (B + 1)) n k)).1 = 4) (hs : kSt (jPG σ B (pk1 (σ.1 (B + 1)) n k)) q (pKy (σ.1 (B + 1)) k) (pU (σ.1 (B + 1)) n k) 1 T0) : (pk1 (σ.1 (B + 1)) n k < n → (σ.1 (B + 1)) (pk1 (σ.1 (B + 1)) n k) = 42 → pk1 (σ.1 (B + 1)) n k + 1 < n) ∧ pk2 (σ.1 (B + 1)) n k ≤ n ∧ pk1 (σ.1 (B + 1)) n k ≤ pk2 (σ.1 (B + 1)) n k ∧ (pk2 (σ.1 (B + 1)) n k < n → (jPG σ B (pk2 (σ.1 (B + 1)) n k + 1)).1 = 0 ∧ (jPG σ B (pk2 (σ.1 (B + 1)) n k + 1)).2 = (jPG σ B (pk2 (σ.1 (B + 1)) n k)).2) ∧ kSt (jPG σ B (pk2 (σ.1 (B + 1)) n k)) q (pKy (σ.1 (B + 1)) k) (pU (σ.1 (B + 1)) n k) (pT (σ.1 (B + 1)) n k) T0 ∧ vp_in (pT (σ.1 (B + 1)) n k) 10 := by
  have hn7 : ¬ jpl (σ.1 (B + 1)) n = 7 := by omega
  generalize hE : pk1 (σ.1 (B + 1)) n k = e at *
  by_cases hu : e < n ∧ (σ.1 (B + 1)) e = 42
  · have e1 : pk2 (σ.1 (B + 1)) n k = e + 2 := by unfold pk2; rw [hE, if_pos hu]
    have e2 : pT (σ.1 (B + 1)) n k = (σ.1 (B + 1)) (e + 1) - 48 := by unfold pT; rw [hE, if_pos hu]
    obtain ⟨a1, a2⟩ := kstp hn7 hu.1
    have e3 : jpb (jPG σ B (e)).1 ((σ.1 (B + 1)) e) = 5 := by
      rcases h2 with ⟨z, y⟩ | z
      · rw [z]
        show (if _ then _ else jpu _) = _
        rw [if_neg (y hu.1)]
        exact if_pos hu.2
      · rw [z]
        exact if_pos hu.2
    rw [e3, jpn_o (by decide)] at a2
    have hk3 : e + 1 < n := by
      rcases Nat.lt_or_ge (e + 1) n with z | z
      · exact z
      · have e9 : n = e + 1 := by omega
        have : jpl (σ.1 (B + 1)) (e + 1) = 5 := by rw [← kpl, a2]
        rw [e9] at hc
        omega
    obtain ⟨b1, b2⟩ := kstp hn7 hk3
    rw [a2] at b1 b2
    have e4 : jpb 5 ((σ.1 (B + 1)) (e + 1)) = 6 ∧ (¬ (σ.1 (B + 1)) (e + 1) < nI 50 ∧ ¬ nI 57 < (σ.1 (B + 1)) (e + 1)) := by
      by_cases z : ¬ (σ.1 (B + 1)) (e + 1) < 50 ∧ ¬ 57 < (σ.1 (B + 1)) (e + 1)
      · exact ⟨if_pos z, z⟩
      · exact absurd (if_neg z) b1
    have b2 : jPG σ B (e + 2) = jpn (jpb 5 ((σ.1 (B + 1)) (e + 1)), (jPG σ B (e)).2) ((σ.1 (B + 1)) (e + 1) - 48) := b2
    rw [e4.1] at b2
    have b6 : (jPG σ B (e + 2)).1 = 6 := by rw [b2, jpn_p]
    rw [e1, e2]
    refine ⟨fun _ _ => hk3, by omega, by omega, fun hl => ?_, ?_, kdg e4.2 (by decide) (by decide) (by decide)⟩
    · obtain ⟨d1, d2⟩ := kstp hn7 hl
      rw [b6] at d1 d2
      have e5 : jpb 6 ((σ.1 (B + 1)) (e + 2)) = 0 := by
        by_cases z : (σ.1 (B + 1)) (e + 2) = 59
        · exact if_pos z
        · exact absurd (if_neg z) d1
      rw [e5, jpn_o (by decide)] at d2
      rw [d2]
      exact ⟨rfl, rfl⟩
    · rw [b2]
      exact jpn_6 (s := (jPG σ B (e)).1) hs
  · have e1 : pk2 (σ.1 (B + 1)) n k = e := by unfold pk2; rw [hE, if_neg hu]
    have e2 : pT (σ.1 (B + 1)) n k = 1 := by unfold pT; rw [hE, if_neg hu]
    rw [e1, e2]
    refine ⟨fun z y => absurd ⟨z, y⟩ hu, h1, Nat.le_refl _, fun hl => ?_, hs, vp_in_nI (n := 1) (by decide) (by decide)⟩
    obtain ⟨d1, d2⟩ := kstp hn7 hl
    have e5 : jpb (jPG σ B (e)).1 ((σ.1 (B + 1)) e) = 0 := by
      have hju : ¬ jpu ((σ.1 (B + 1)) e) = 7 → jpu ((σ.1 (B + 1)) e) = 0 := by
        unfold jpu
        rw [if_neg (fun z => hu ⟨hl, z⟩)]
        intro z
        by_cases y : (σ.1 (B + 1)) e = 59
        · exact if_pos y
        · exact absurd (if_neg y) z
      rcases h2 with ⟨z, y⟩ | z
      · rw [z] at d1 ⊢
        have ej : jpb 2 ((σ.1 (B + 1)) e) = jpu ((σ.1 (B + 1)) e) := if_neg (y hl)
        rw [ej] at d1 ⊢
        exact hju d1
      · rw [z] at d1 ⊢
        exact hju d1
    rw [e5, jpn_o (by decide)] at d2
    rw [d2]
    exact ⟨rfl, rfl⟩
theorem kparse (hc : jpl (σ.1 (B + 1)) n = 2 ∨ jpl (σ.1 (B + 1)) n = 4 ∨ jpl (σ.1 (B + 1)) n = 6) (hn : n ≤ 60) : ∀ f k q, (jPG σ B (k)).1 = 0 → (jPG σ B (k)).2.1 = q → 3 * q ≤ k → k < n → n ≤ k + 3 * f → ∃ d, (jPG σ B (n)).2.1 = q + d ∧ mVal (σ.1 (B + 1)) n f k ∧ jts (jPG σ B (n)) q + mSum (σ.1 (B + 1)) n f k = jts (jPG σ B (n)) (q + d) ∧ (∀ S, mAdd (σ.1 (B + 1)) n f k S = kAd (jPG σ B (n)) q d S) ∧ (∀ i, q ≤ i → i < q + d → vp_in ((jPG σ B (n)).2.2.1 i) 8 ∧ vp_in ((jPG σ B (n)).2.2.2.1 i) 10 ∧ vp_in ((jPG σ B (n)).2.2.2.2 i) 10) ∧ ∀ i, i < q → (jPG σ B (n)).2.2.1 i = (jPG σ B (k)).2.2.1 i ∧ (jPG σ B (n)).2.2.2.1 i = (jPG σ B (k)).2.2.2.1 i ∧ (jPG σ B (n)).2.2.2.2 i = (jPG σ B (k)).2.2.2.2 i := by
  intro f
  induction f with
  | zero => intro k q _ _ _ h1 h2; omega
  | succ f ih =>
    intro k q h0 hq h3 hk hf
    obtain ⟨a1, a2, a3, a4⟩ := kpA hc h0 hk (by omega)
    rw [hq] at a3
    obtain ⟨b1, b2, b3, b4, b5, b6⟩ := kpB hc a2 a1 a3
    obtain ⟨c1, c2, c3, c4, c5, c6⟩ := kpC hc b2 b4 b5
    have es : mSum (σ.1 (B + 1)) n (f + 1) k = pt (σ.1 (B + 1)) n k + mSum (σ.1 (B + 1)) n f (pk2 (σ.1 (B + 1)) n k + 1) := if_pos hk
    have ea : ∀ S, mAdd (σ.1 (B + 1)) n (f + 1) k S = mAdd (σ.1 (B + 1)) n f (pk2 (σ.1 (B + 1)) n k + 1) (mIt S (pKy (σ.1 (B + 1)) k) (pU (σ.1 (B + 1)) n k) (pt (σ.1 (B + 1)) n k)) := fun S => if_pos hk
    rcases Nat.lt_or_ge (pk2 (σ.1 (B + 1)) n k) n with hl | hl
    · obtain ⟨d1, d2⟩ := c4 hl
      have hk' : pk2 (σ.1 (B + 1)) n k + 1 < n := by
        rcases Nat.lt_or_ge (pk2 (σ.1 (B + 1)) n k + 1) n with z | z
        · exact z
        · have e9 : n = pk2 (σ.1 (B + 1)) n k + 1 := by omega
          have : jpl (σ.1 (B + 1)) n = 0 := by rw [e9, ← kpl, d1]
          omega
      obtain ⟨s1, s2, s3, s4, s5⟩ := c5
      obtain ⟨d, i1, i2, i3, i4, i5, i6⟩ := ih (pk2 (σ.1 (B + 1)) n k + 1) (q + 1) d1 (by rw [d2]; exact s1) (by omega) hk' (by omega)
      rw [d2] at i6
      obtain ⟨j1, j2, j3⟩ := i6 q (by omega)
      rw [s2] at j1
      rw [s3] at j2
      rw [s4] at j3
      refine ⟨d + 1, by omega, fun _ => ⟨a1, b1, c1, c6, i2⟩, ?_, fun S => ?_, fun i hi1 hi2 => ?_, fun i hi => ?_⟩
      · rw [es]
        have e8 : jts (jPG σ B (n)) (q + 1) = jts (jPG σ B (n)) q + pt (σ.1 (B + 1)) n k := by rw [jts_s, j3]; rfl
        rw [show q + (d + 1) = q + 1 + d by omega]
        omega
      · rw [ea, i4]
        show _ = kAd (jPG σ B (n)) (q + 1) d (mIt S ((jPG σ B (n)).2.2.1 q) ((jPG σ B (n)).2.2.2.1 q) ((jPG σ B (n)).2.2.2.2 q).toNatClampNeg)
        rw [j1, j2, j3]
        rfl
      · by_cases e : i = q
        · subst e
          rw [j1, j2, j3]
          exact ⟨a4, b6, c6⟩
        · exact i5 i (by omega) (by omega)
      · obtain ⟨u1, u2, u3⟩ := i6 i (by omega)
        obtain ⟨w1, w2, w3⟩ := s5 i hi
        exact ⟨u1.trans w1, u2.trans w2, u3.trans w3⟩
    · have e9 : pk2 (σ.1 (B + 1)) n k = n := by omega
      rw [e9] at c5 es ea
      obtain ⟨s1, s2, s3, s4, s5⟩ := c5
      have nl : ¬ n + 1 < n := by omega
      have z1 : mVal (σ.1 (B + 1)) n f (n + 1) := by
        cases f with
        | zero => exact nl
        | succ f => exact fun z => absurd z nl
      have z2 : mSum (σ.1 (B + 1)) n f (n + 1) = 0 := by
        cases f with
        | zero => rfl
        | succ f => exact if_neg nl
      have z3 : ∀ S, mAdd (σ.1 (B + 1)) n f (n + 1) S = S := by
        intro S
        cases f with
        | zero => rfl
        | succ f => exact if_neg nl
      refine ⟨1, s1, fun _ => ⟨a1, b1, c1, c6, by rw [e9]; exact z1⟩, ?_, fun S => ?_, fun i hi1 hi2 => ?_, s5⟩
      · rw [es, z2]
        have e8 : jts (jPG σ B (n)) (q + 1) = jts (jPG σ B (n)) q + pt (σ.1 (B + 1)) n k := by rw [jts_s, s4]; rfl
        omega
      · rw [ea, z3]
        show _ = mIt S ((jPG σ B (n)).2.2.1 q) ((jPG σ B (n)).2.2.2.1 q) ((jPG σ B (n)).2.2.2.2 q).toNatClampNeg
        rw [s2, s3, s4]
        rfl
      · have e : i = q := by omega
        subst e
        rw [s2, s3, s4]
        exact ⟨a4, b6, c6⟩
/-- a complete text -/
theorem ktext (hc : jpl (σ.1 (B + 1)) n = 2 ∨ jpl (σ.1 (B + 1)) n = 4 ∨ jpl (σ.1 (B + 1)) n = 6) (hn : n ≤ 60) : mVal (σ.1 (B + 1)) n 21 0 ∧ mSum (σ.1 (B + 1)) n 21 0 = jts (jPG σ B (n)) (jPG σ B (n)).2.1 ∧ (∀ S, mAdd (σ.1 (B + 1)) n 21 0 S = kAd (jPG σ B (n)) 0 (jPG σ B (n)).2.1 S) ∧ ∀ i, i < (jPG σ B (n)).2.1 → vp_in ((jPG σ B (n)).2.2.1 i) 8 ∧ vp_in ((jPG σ B (n)).2.2.2.1 i) 10 ∧ vp_in ((jPG σ B (n)).2.2.2.2 i) 10 := by
  have hn0 : 0 < n := by
    rcases Nat.eq_zero_or_pos n with z | z
    · have : jpl (σ.1 (B + 1)) n = 0 := by rw [z]; rfl
      omega
    · exact z
  obtain ⟨d, h1, h2, h3, h4, h5, _⟩ := kparse hc hn 21 0 0 rfl rfl (by omega) hn0 (by omega)
  have ed : d = (jPG σ B (n)).2.1 := by omega
  subst ed
  refine ⟨h2, ?_, h4, fun i hi => h5 i (by omega) (by omega)⟩
  rw [Nat.zero_add] at h3
  have : jts (jPG σ B (n)) 0 = 0 := rfl
  omega
theorem kcnt : jct (fun k => ¬ (jPG σ B (k + 1)).1 = 7) n = jct (fun k => ¬ jpl (σ.1 (B + 1)) (k + 1) = 7) n := jct_cg fun k _ => by rw [kpl]
theorem kcpl : (jct (fun k => ¬ (jPG σ B (k + 1)).1 = 7) n = n ∧ ((jPG σ B (n)).1 = 2 ∨ (jPG σ B (n)).1 = 4 ∨ (jPG σ B (n)).1 = 6)) ↔ (jpl (σ.1 (B + 1)) n = 2 ∨ jpl (σ.1 (B + 1)) n = 4 ∨ jpl (σ.1 (B + 1)) n = 6) := by
  rw [kpl]
  refine ⟨fun z => z.2, fun z => ⟨?_, z⟩⟩
  have key : ∀ m, m ≤ n → jct (fun k => ¬ (jPG σ B (k + 1)).1 = 7) m = m := by
    intro m
    induction m with
    | zero => intro _; rfl
    | succ m ih =>
      intro hm
      rw [jct_y, ih (by omega)]
      rw [kpl]
      intro y
      have := jpl_fr (k' := n) hm y
      omega
  exact key n (Nat.le_refl _)
end KPS
