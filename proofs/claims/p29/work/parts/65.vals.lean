/-! the counts' pairs; the digest's value -/
def kB (S : Nat → Int32) (n x u : Nat) : Prop := 0 < jct (fun i => (S (25 + 9 * i + 0) = nI x ∧ (nI u = -1 ∨ S (25 + 9 * i + 1) = nI u)) ∧ S (25 + 9 * i + 3) = 0) n
theorem jct_ex {p : Nat → Prop} [DecidablePred p] {n : Nat} (h : 0 < jct p n) : ∃ j, j < n ∧ p j := by
  induction n with
  | zero => exact absurd h (by show ¬ 0 < 0; omega)
  | succ n ih =>
    by_cases hp : p n
    · exact ⟨n, by omega, hp⟩
    · rw [jct_n hp] at h
      obtain ⟨j, h1, h2⟩ := ih h
      exact ⟨j, by omega, h2⟩
theorem jct_exi {p : Nat → Prop} [DecidablePred p] {n : Nat} : 0 < jct p n ↔ ∃ j, j < n ∧ p j := ⟨jct_ex, fun ⟨j, h1, h2⟩ => jct_pos h1 h2⟩
theorem nI_inj {a b : Nat} (ha : a < 2 ^ 31) (hb : b < 2 ^ 31) (h : nI a = nI b) : a = b := by
  have := congrArg Int32.toNatClampNeg h
  rwa [nI_clamp ha, nI_clamp hb] at this
theorem nI_m1 {a : Nat} (ha : a < 2 ^ 31) : ¬ nI a = -1 := fun z => by
  have h := nI_pos ha
  rw [z] at h
  exact h (by decide)
theorem jsum_cg {f g : Nat → Nat} {n : Nat} (h : ∀ i, i < n → f i = g i) : jfd (fun y s => s + f y) n 0 = jfd (fun y s => s + g y) n 0 := by
  induction n with
  | zero => rfl
  | succ n ih => rw [jfd_s, jfd_s, ih (fun i hi => h i (by omega)), h n (by omega)]
theorem jsum_add1 {f g : Nat → Nat} {n a : Nat} (ha : a < n) (h1 : g a = f a + 1) (h : ∀ i, i < n → ¬ i = a → g i = f i) : jfd (fun y s => s + g y) n 0 = jfd (fun y s => s + f y) n 0 + 1 := by
  induction n with
  | zero => omega
  | succ n ih =>
    rw [jfd_s, jfd_s]
    by_cases e : a = n
    · subst e
      rw [h1, jsum_cg (f := g) (g := f) (fun i hi => h i (by omega) (by omega))]
      omega
    · rw [ih (by omega) (fun i hi => h i (by omega)), h n (by omega) (by omega)]
      omega
section KP
variable {S : Nat → Int32} {c : Nat}
theorem kpr (hI : kI c S) : ∀ n, n ≤ mN S → jct (fun i => (S (25 + 9 * i + 3) = 0) ∧ ¬ (0 < jct (fun j => (S (25 + 9 * j + 3) = 0) ∧ S (25 + 9 * j + 0) = S (25 + 9 * i + 0) ∧ S (25 + 9 * j + 1) = S (25 + 9 * i + 1)) (i))) n = jfd (fun y s => s + jct (fun u => 0 < jct (fun i => (S (25 + 9 * i + 0) = nI y ∧ (nI u = -1 ∨ S (25 + 9 * i + 1) = nI u)) ∧ S (25 + 9 * i + 3) = 0) n) 10) 8 0 := by
  obtain ⟨hO, P, T, D, h1, h2, h3, h4, h5, h6, hr, h7, h8⟩ := hI
  intro n
  induction n with
  | zero =>
    intro _
    have e : ∀ y, jct (fun u => 0 < jct (fun i => (S (25 + 9 * i + 0) = nI y ∧ (nI u = -1 ∨ S (25 + 9 * i + 1) = nI u)) ∧ S (25 + 9 * i + 3) = 0) 0) 10 = 0 := by
      intro y
      have key : ∀ m, jct (fun u => 0 < jct (fun i => (S (25 + 9 * i + 0) = nI y ∧ (nI u = -1 ∨ S (25 + 9 * i + 1) = nI u)) ∧ S (25 + 9 * i + 3) = 0) 0) m = 0 := by
        intro m
        induction m with
        | zero => rfl
        | succ m ih => exact (jct_n (by show ¬ 0 < 0; omega)).trans ih
      exact key 10
    rw [jsum_cg (g := fun _ => 0) (fun y _ => e y)]
    rfl
  | succ n ih =>
    intro hn
    have ih := ih (by omega)
    have h24 := hO.2
    by_cases hw : (S (25 + 9 * n + 3) = 0)
    · obtain ⟨a, ha, ea⟩ := vp_in_of (hr n (by omega)).1 (by decide)
      obtain ⟨b, hb, eb⟩ := vp_in_of (hr n (by omega)).2.1 (by decide)
      have ea : S (25 + 9 * n + 0) = nI a := ea
      have eb : S (25 + 9 * n + 1) = nI b := eb
      have step : ∀ y u, y < 8 → u < 10 → ((0 < jct (fun i => (S (25 + 9 * i + 0) = nI y ∧ (nI u = -1 ∨ S (25 + 9 * i + 1) = nI u)) ∧ S (25 + 9 * i + 3) = 0) (n + 1)) ↔ (0 < jct (fun i => (S (25 + 9 * i + 0) = nI y ∧ (nI u = -1 ∨ S (25 + 9 * i + 1) = nI u)) ∧ S (25 + 9 * i + 3) = 0) n) ∨ (y = a ∧ u = b)) := by
        intro y u hy hu
        rw [jct_exi, jct_exi]
        constructor
        · rintro ⟨j, hj, q1, q2⟩
          by_cases e : j = n
          · subst e
            refine Or.inr ⟨(nI_inj (by omega) (by omega) (ea.symm.trans q1.1)).symm, ?_⟩
            rcases q1.2 with z | z
            · exact absurd z (nI_m1 (by omega))
            · exact (nI_inj (by omega) (by omega) (eb.symm.trans z)).symm
          · exact Or.inl ⟨j, by omega, q1, q2⟩
        · rintro (⟨j, hj, q⟩ | ⟨rfl, rfl⟩)
          · exact ⟨j, by omega, q⟩
          · exact ⟨n, by omega, ⟨ea, Or.inr eb⟩, hw⟩
      have same : (0 < jct (fun j => (S (25 + 9 * j + 3) = 0) ∧ S (25 + 9 * j + 0) = S (25 + 9 * n + 0) ∧ S (25 + 9 * j + 1) = S (25 + 9 * n + 1)) (n)) ↔ 0 < jct (fun i => (S (25 + 9 * i + 0) = nI a ∧ (nI b = -1 ∨ S (25 + 9 * i + 1) = nI b)) ∧ S (25 + 9 * i + 3) = 0) n := by
        rw [jct_cg (q := fun i => (S (25 + 9 * i + 0) = nI a ∧ (nI b = -1 ∨ S (25 + 9 * i + 1) = nI b)) ∧ S (25 + 9 * i + 3) = 0)]
        intro j hj
        rw [ea, eb]
        constructor
        · exact fun z => ⟨⟨z.2.1, Or.inr z.2.2⟩, z.1⟩
        · rintro ⟨⟨z1, z2⟩, z3⟩
          refine ⟨z3, z1, ?_⟩
          rcases z2 with z | z
          · exact absurd z (nI_m1 (by omega))
          · exact z
      by_cases he : (0 < jct (fun j => (S (25 + 9 * j + 3) = 0) ∧ S (25 + 9 * j + 0) = S (25 + 9 * n + 0) ∧ S (25 + 9 * j + 1) = S (25 + 9 * n + 1)) (n))
      · rw [jct_n (fun z => z.2 he), ih]
        refine jsum_cg fun y hy => jct_cg fun u hu => ?_
        rw [step y u hy hu]
        refine ⟨fun z => Or.inl z, fun z => ?_⟩
        rcases z with z | ⟨rfl, rfl⟩
        · exact z
        · exact same.mp he
      · rw [jct_y ⟨hw, he⟩, ih]
        refine (jsum_add1 (a := a) ha ?_ (fun y hy hne => jct_cg fun u hu => ?_)).symm
        · refine jct_add1 (i := b) hb (fun z => he (same.mpr z)) ((step a b ha hb).mpr (Or.inr ⟨rfl, rfl⟩)) (fun u hu hne => ?_)
          rw [step a u ha hu]
          exact ⟨fun z => Or.inl z, fun z => by rcases z with z | z; exact z; exact absurd z.2 hne⟩
        · rw [step y u hy hu]
          exact ⟨fun z => by rcases z with z | z; exact z; exact absurd z.1 hne, fun z => Or.inl z⟩
    · rw [jct_n (fun z => hw z.1), ih]
      refine jsum_cg fun y hy => jct_cg fun u hu => ?_
      rw [jct_n (fun z => hw z.2)]
end KP
section KV
variable {σ : jgS} {h c : Nat} {S : Nat → Int32}
theorem kpairs (hR : kR σ h S) (hI : kI c S) : jct (fun i => σ.1 (h + 4 + i) 4 = 0 ∧ jEar σ h i = 0) (jn σ h) = mpa S 8 := by
  rw [kn hR, jct_cg (q := fun i => (S (25 + 9 * i + 3) = 0) ∧ ¬ (0 < jct (fun j => (S (25 + 9 * j + 3) = 0) ∧ S (25 + 9 * j + 0) = S (25 + 9 * i + 0) ∧ S (25 + 9 * j + 1) = S (25 + 9 * i + 1)) (i))), kpr hI (mN S) (Nat.le_refl _)]
  · rfl
  · intro i hi
    rw [kf4 hR hi]
    unfold jEar
    rw [jb_0, jct_cg (q := fun j => (S (25 + 9 * j + 3) = 0) ∧ S (25 + 9 * j + 0) = S (25 + 9 * i + 0) ∧ S (25 + 9 * j + 1) = S (25 + 9 * i + 1))]
    intro j hj
    rw [kf4 hR (by omega), kf0 hR (by omega), kf1 hR (by omega), kf0 hR hi, kf1 hR hi]
theorem kct (hR : kR σ h S) (hI : kI c S) {H : Nat} {z : Int32} (hz : σ.1 H 2 = z) {w : Nat} (hw : w < 13) : jctV σ h H w = mtl S z w := by
  rcases (show w = 0 ∨ w = 1 ∨ w = 2 ∨ w = 3 ∨ w = 4 ∨ w = 5 ∨ w = 6 ∨ w = 7 ∨ w = 8 ∨ w = 9 ∨ w = 10 ∨ w = 11 ∨ w = 12 by omega) with rfl | rfl | rfl | rfl | rfl | rfl | rfl | rfl | rfl | rfl | rfl | rfl | rfl
  · exact hR.1.2.1
  · exact hR.1.1
  · exact congrArg nI (kst hR 0)
  · exact congrArg nI (kst hR 1)
  · exact congrArg nI (kst hR 2)
  · exact congrArg nI (kst hR 3)
  · exact hR.1.2.2.1
  · exact hR.1.2.2.2.1
  · exact congrArg nI (kbw hR hI)
  · exact hR.1.2.2.2.2
  · exact congrArg nI (kpairs hR hI)
  · exact kfirst hR
  · exact hz
theorem krow (hR : kR σ h S) (hI : kI c S) {q w : Nat} (hq : q < mN S) (hw : w < 11) : jrowV σ h q w = mrowV S q w := by
  rcases (show w = 0 ∨ w = 1 ∨ w = 2 ∨ w = 3 ∨ w = 4 ∨ w = 5 ∨ w = 6 ∨ w = 7 ∨ w = 8 ∨ w = 9 ∨ w = 10 by omega) with rfl | rfl | rfl | rfl | rfl | rfl | rfl | rfl | rfl | rfl | rfl
  · exact kf0 hR hq
  · exact kf1 hR hq
  · exact kf2 hR hq
  · exact kf4 hR hq
  · exact kf5 hR hq
  · exact kf6 hR hq
  · exact kf7 hR hq
  · exact kf8 hR hq
  · show jb _ = jb _
    refine jb_iff ?_
    rw [kop hR hI hq, kblk hR hI hq]
  · show (if _ then _ else _) = (if _ then _ else _)
    by_cases ho : ¬ 1 < S (25 + 9 * q + 3)
    · rw [if_pos ((kop hR hI hq).mpr ho), if_pos ho, kplace hR hI hq]
    · rw [if_neg (fun z => ho ((kop hR hI hq).mp z)), if_neg ho]
  · show σ.1 h 4 - σ.1 (h + 4 + q) 3 = S 3 - S (25 + 9 * q + 8)
    rw [hR.1.2.1, kf3 hR hq]
theorem krd (hR : kR σ h S) (hI : kI c S) {p w : Nat} (hp : p < 4) (hw : w < 7) : jrdV σ h p w = mrdV S p w := by
  rcases (show w = 0 ∨ w = 1 ∨ w = 2 ∨ w = 3 ∨ w = 4 ∨ w = 5 ∨ w = 6 by omega) with rfl | rfl | rfl | rfl | rfl | rfl | rfl
  · exact hR.2.2.1 p hp 0 (by decide)
  · exact congrArg nI (kheld hR _)
  · exact hR.2.2.1 p hp 1 (by decide)
  · exact hR.2.2.1 p hp 2 (by decide)
  · exact hR.2.2.1 p hp 3 (by decide)
  · exact kfl hR _
  · show (jLG σ h p (jroom σ h (nI p) 1) (jct (fun j => σ.1 (h + 4 + j) 4 = 0 ∨ σ.1 (h + 4 + j) 4 = 1) (jn σ h))).2.2.2.2 = _
    rw [kopc hR hI]
    exact kfst hR hI hp
/-- kR speaks of a table's cells alone -/
theorem kR_cg {τ : jgS} (e : ∀ a, h ≤ a → a < h + 32 → τ.1 a = σ.1 a) (hn : mN S ≤ 24) (hR : kR σ h S) : kR τ h S := by
  obtain ⟨h1, h2, h3, h4⟩ := hR
  refine ⟨by rw [e h (by omega) (by omega)]; exact h1, by rw [e (h + 3) (by omega) (by omega)]; exact h2, fun r hr => by rw [e (h + 28 + r) (by omega) (by omega)]; exact h3 r hr, fun i hi => by rw [e (h + 4 + i) (by omega) (by omega)]; exact h4 i hi⟩
theorem kI_gs (hc : c ≤ 600) (hI : kI c S) : ∃ k, k ≤ c ∧ mgS S = nI k := by
  obtain ⟨hO, P, T, D, h1, h2, h3, h4, h5, h6, hr, h7, h8⟩ := hI
  have key : ∀ n, n ≤ mN S → ∃ k, k ≤ c ∧ jfd (fun i s => if S (25 + 9 * i + 3) = 0 ∧ s < S (25 + 9 * i + 7) then S (25 + 9 * i + 7) else s) n (0 : Int32) = nI k := by
    intro n
    induction n with
    | zero => exact fun _ => ⟨0, Nat.zero_le _, rfl⟩
    | succ n ih =>
      intro hn
      obtain ⟨k, hk, ek⟩ := ih (by omega)
      rw [jfd_s]
      by_cases z : S (25 + 9 * n + 3) = 0 ∧ jfd (fun i s => if S (25 + 9 * i + 3) = 0 ∧ s < S (25 + 9 * i + 7) then S (25 + 9 * i + 7) else s) n (0 : Int32) < S (25 + 9 * n + 7)
      · rw [if_pos z]
        obtain ⟨m, hm, em⟩ := vp_in_of (hr n (by omega)).2.2.2.2 (by omega)
        exact ⟨m, by omega, em⟩
      · rw [if_neg z]
        exact ⟨k, hk, ek⟩
  exact key (mN S) (Nat.le_refl _)
end KV
