/-! the calls of the class, in the numbers -/
theorem nrng {v : Int32} {m : Nat} (h : vp_in v (m + 1)) (hm : m < 100000) : ¬ (v < 0 ∨ nI m < v) := by
  obtain ⟨a, ha, rfl⟩ := vp_in_of h (by omega)
  rintro (z | z)
  · exact nI_pos (by omega) z
  · have := (nI_ltI (by omega) (by omega)).mp z
    omega
theorem nix {a n : Nat} (h : a < n) (hn : n < 2 ^ 31) : ¬ (nI a < 0 ∨ ¬ nI a < nI n) := by
  rintro (z | z)
  · exact nI_pos (by omega) z
  · exact z ((nI_ltI (by omega) hn).mpr h)
section NC
variable {G : jgG} {c x : Nat} {σ : jgS} {S : Nat → Int32}
theorem nc_put (hF : nF G c σ x S) (hc : c ≤ 600) {k u : Int32} (hk : vp_in k 8) (hu : vp_in u 10) (hn : mN S < 24) : ∃ τ, Ff_X6_put G x k u σ = (.inl (some (.int (S 0))), τ) ∧ nF G (c + 1) τ x (mPut S k u) ∧ nU σ τ x := by
  have hR := hF.2.1
  have hI := hF.2.2
  have h24 := hI.1.2
  have c1 : ¬ (k < 0 ∨ 7 < k) := nrng (m := 7) hk (by decide)
  have c2 : ¬ (u < 0 ∨ 9 < u) := nrng (m := 9) hu (by decide)
  have c3 : ¬ 24 < σ.1 (x + 1) 3 + 1 := by
    rw [hR.1.1, hI.1.1, nI_1, show (24 : Int32) = nI 24 from rfl, nI_ltI (by decide) (by omega)]
    omega
  have hRK := kRK hF
  have hC : kCop σ (jAdd (jHkeep σ (x + 33) (x + 1)) (x + 1) k u) x := by
    refine kCop_c (kCop_K σ x) rfl (fun a h1 h2 => funext fun j => ?_)
    unfold jAdd
    rw [jI_wI, if_neg (by omega), jI_wI, if_neg (by omega), jbg_out (by rw [kn hRK]; omega)]
  refine ⟨_, ?_, nF_op hF hC (kAdd_R hRK hI.1 hn) (kIb_I (b := 24 * c + 1) (by omega) (kAdd_I hI hn (by omega) hk hu)), nU_C hF hC⟩
  unfold Ff_X6_put
  rw [if_neg c1, if_neg c2, if_neg c3, kn hR, nI_1, nI_pred, ← hI.1.1]
  rfl
theorem nc_urge (hF : nF G c σ x S) {q : Nat} (hq : q < mN S) {u : Int32} (hu : vp_in u 10) (ho : ¬ 1 < S (25 + 9 * q + 3)) : ∃ τ, Ff_X6_urge G x (nI q) u σ = (.inl (some (.int (S (25 + 9 * q + 1)))), τ) ∧ nF G (c + 1) τ x (jup1 S (25 + 9 * q + 1) u) ∧ nU σ τ x := by
  have hR := hF.2.1
  have hI := hF.2.2
  have h24 := hI.1.2
  have hqc : (nI q).toNatClampNeg = q := nI_clamp (by omega)
  have c1 : ¬ (nI q < 0 ∨ ¬ nI q < σ.1 (x + 1) 3) := by rw [hR.1.1, hI.1.1]; exact nix hq (by omega)
  have c2 : ¬ (u < 0 ∨ 9 < u) := nrng (m := 9) hu (by decide)
  have c3 := (kop hR hI hq).mpr ho
  have hC : kCop σ (jwI (jHkeep σ (x + 33) (x + 1)) (x + 1 + 4 + q) 1 u) x := kCop_w (kCop_K σ x) (by omega) (by omega)
  refine ⟨_, ?_, nF_op hF hC (kR_row (kRK hF) hq h24 (fun a _ _ ha => funext fun k => by rw [jI_wI, if_neg (fun z => ha z.1)]) (fun k hk => jup1_ne (by omega)) ?_) (kI_mono (Nat.le_succ c) (kI_row hI hq (fun k hk => jup1_ne (by omega)) (jup1_ne (by omega)) (fun T _ _ hr => ?_))), nU_C hF hC⟩
  · unfold Ff_X6_urge
    rw [if_neg c1, if_neg c2, hqc, if_pos c3, kf1 hR hq]
  · have hr := (kRK hF).2.2.2 q hq
    unfold kRw at *
    simp only [jI_wI, true_and]
    simp only [jup1, show ¬ (0 : Nat) = 1 from by decide, show ¬ (2 : Nat) = 1 from by decide, show ¬ (3 : Nat) = 1 from by decide, show ¬ (4 : Nat) = 1 from by decide, show ¬ (5 : Nat) = 1 from by decide, show ¬ (6 : Nat) = 1 from by decide, show ¬ (7 : Nat) = 1 from by decide, show ¬ (8 : Nat) = 1 from by decide, Nat.add_left_cancel_iff, if_false, if_true]
    exact ⟨hr.1, trivial, hr.2.2⟩
  · obtain ⟨r0, r1, r3, rh, r7⟩ := hr
    have o : ∀ p, ¬ p = 1 → jup1 S (25 + 9 * q + 1) u (25 + 9 * q + p) = S (25 + 9 * q + p) := fun p hp => jup1_ne (by omega)
    unfold kRo
    dsimp only
    rw [o 0 (by decide), o 3 (by decide), o 4 (by decide), o 5 (by decide), o 7 (by decide), jup1_at]
    exact ⟨r0, hu, r3, rh, r7⟩
theorem nc_urgeT (hF : nF G c σ x S) {q : Nat} (hq : q < mN S) {u : Int32} (hu : vp_in u 10) (ho : 1 < S (25 + 9 * q + 3)) : Ff_X6_urge G x (nI q) u σ = (.inr "java/lang/IllegalStateException", jwh σ 6) := by
  have hR := hF.2.1
  have hI := hF.2.2
  have h24 := hI.1.2
  have hqc : (nI q).toNatClampNeg = q := nI_clamp (by omega)
  have c1 : ¬ (nI q < 0 ∨ ¬ nI q < σ.1 (x + 1) 3) := by rw [hR.1.1, hI.1.1]; exact nix hq (by omega)
  have c2 : ¬ (u < 0 ∨ 9 < u) := nrng (m := 9) hu (by decide)
  have c3 := fun z => (kop hR hI hq).mp z ho
  unfold Ff_X6_urge
  rw [if_neg c1, if_neg c2, hqc, if_neg c3]
theorem nc_0 (hF : nF G c σ x S) (h0 : mN S = 0) : (0 : Int32) < 0 ∨ ¬ (0 : Int32) < σ.1 (x + 1) 3 := by
  have hR := hF.2.1
  have hI := hF.2.2
  have h24 := hI.1.2
  rw [hR.1.1, hI.1.1, h0]
  exact Or.inr (by decide)
theorem nc_urge0 (hF : nF G c σ x S) (h0 : mN S = 0) (u : Int32) : Ff_X6_urge G x 0 u σ = (.inr "java/lang/IndexOutOfBoundsException", jwh σ 6) := by
  unfold Ff_X6_urge
  rw [if_pos (nc_0 hF h0)]
theorem nc_revive0 (hF : nF G c σ x S) (h0 : mN S = 0) : Ff_X6_revive G x 0 σ = (.inr "java/lang/IndexOutOfBoundsException", jwh σ 6) := by
  unfold Ff_X6_revive
  rw [if_pos (nc_0 hF h0)]
theorem nc_done0 (hF : nF G c σ x S) (h0 : mN S = 0) {p : Nat} (hp : p < 4) : Ff_X6_done G x (nI p) 0 σ = (.inr "java/lang/IndexOutOfBoundsException", jwh σ 6) := by
  have c1 : ¬ (nI p < 0 ∨ ¬ nI p < 4) := nix (n := 4) hp (by decide)
  unfold Ff_X6_done
  rw [if_neg c1, if_pos (nc_0 hF h0)]
theorem nc_giveBack0 (hF : nF G c σ x S) (h0 : mN S = 0) {p : Nat} (hp : p < 4) : Ff_X6_giveBack G x (nI p) 0 σ = (.inr "java/lang/IndexOutOfBoundsException", jwh σ 6) := by
  have c1 : ¬ (nI p < 0 ∨ ¬ nI p < 4) := nix (n := 4) hp (by decide)
  unfold Ff_X6_giveBack
  rw [if_neg c1, if_pos (nc_0 hF h0)]
theorem nc_revive (hF : nF G c σ x S) {q : Nat} (hq : q < mN S) (hd : S (25 + 9 * q + 3) = 3) : ∃ τ, Ff_X6_revive G x (nI q) σ = (.inl (some (.int (S (25 + 9 * q + 6)))), τ) ∧ nF G (c + 1) τ x (jup1 (jup1 S (25 + 9 * q + 6) 0) (25 + 9 * q + 3) 0) ∧ nU σ τ x := by
  have hR := hF.2.1
  have hI := hF.2.2
  have h24 := hI.1.2
  have hqc : (nI q).toNatClampNeg = q := nI_clamp (by omega)
  have c1 : ¬ (nI q < 0 ∨ ¬ nI q < σ.1 (x + 1) 3) := by rw [hR.1.1, hI.1.1]; exact nix hq (by omega)
  have c3 : σ.1 (x + 1 + 4 + q) 4 = 3 := (kf4 hR hq).trans hd
  have hC : kCop σ (jwI (jwI (jHkeep σ (x + 33) (x + 1)) (x + 1 + 4 + q) 7 0) (x + 1 + 4 + q) 4 0) x := kCop_w (kCop_w (kCop_K σ x) (by omega) (by omega)) (by omega) (by omega)
  have ho : ∀ a k, ¬ a = x + 1 + 4 + q → (jwI (jwI (jHkeep σ (x + 33) (x + 1)) (x + 1 + 4 + q) 7 0) (x + 1 + 4 + q) 4 0).1 a k = (jHkeep σ (x + 33) (x + 1)).1 a k := fun a k ha => by rw [jI_wI, if_neg (fun z => ha z.1), jI_wI, if_neg (fun z => ha z.1)]
  have hr := (kRK hF).2.2.2 q hq
  have s6 : jup1 (jup1 S (25 + 9 * q + 6) 0) (25 + 9 * q + 3) 0 (25 + 9 * q + 6) = 0 := by rw [jup1_ne (by omega), jup1_at]
  have s3 : jup1 (jup1 S (25 + 9 * q + 6) 0) (25 + 9 * q + 3) 0 (25 + 9 * q + 3) = 0 := jup1_at _ _ _
  have so : ∀ p, p < 9 → ¬ p = 3 → ¬ p = 4 → ¬ p = 5 → ¬ p = 6 → jup1 (jup1 S (25 + 9 * q + 6) 0) (25 + 9 * q + 3) 0 (25 + 9 * q + p) = S (25 + 9 * q + p) := fun p _ h3 _ _ h6 => by rw [jup1_ne (by omega), jup1_ne (by omega)]
  refine ⟨_, ?_, nF_op hF hC (kR_row (kRK hF) hq h24 (fun a _ _ ha => funext fun k => ho a k ha) (fun k hk => by rw [jup1_ne (by omega), jup1_ne (by omega)]) ?_) (kI_mono (Nat.le_succ c) (kI_row hI hq (fun k hk => by rw [jup1_ne (by omega), jup1_ne (by omega)]) (so 2 (by decide) (by decide) (by decide) (by decide) (by decide)) (fun T _ _ hr => kRo_nh hr (t := 0) (by decide) (vp_in_nI (n := 0) (by decide) (by decide)) s3 so))), nU_C hF hC⟩
  · unfold Ff_X6_revive
    rw [if_neg c1, hqc, if_pos c3, kf7 hR hq]
  · have n3 : ¬ S (25 + 9 * q + 3) = 1 := by rw [hd]; decide
    refine kRw_nh hr (t := 0) (by decide) (by rw [jI_wI, if_pos ⟨rfl, rfl⟩]) s3 ?_ ?_ ?_ (fun k _ h4 _ _ h7 => by rw [jI_wI, if_neg (fun z => h4 z.2), jI_wI, if_neg (fun z => h7 z.2)]) so
    · rw [jI_wI, if_neg (by omega), jI_wI, if_neg (by omega)]
      exact hr.2.2.2.2.2.1.trans (if_neg n3)
    · rw [jI_wI, if_neg (by omega), jI_wI, if_neg (by omega)]
      exact hr.2.2.2.2.2.2.1.trans (if_neg n3)
    · rw [jI_wI, if_neg (by omega), jI_wI, if_pos ⟨rfl, rfl⟩]
      exact s6.symm
theorem nc_reviveT (hF : nF G c σ x S) {q : Nat} (hq : q < mN S) (hd : ¬ S (25 + 9 * q + 3) = 3) : Ff_X6_revive G x (nI q) σ = (.inr "java/lang/IllegalStateException", jwh σ 6) := by
  have hR := hF.2.1
  have hI := hF.2.2
  have h24 := hI.1.2
  have hqc : (nI q).toNatClampNeg = q := nI_clamp (by omega)
  have c1 : ¬ (nI q < 0 ∨ ¬ nI q < σ.1 (x + 1) 3) := by rw [hR.1.1, hI.1.1]; exact nix hq (by omega)
  have c3 : ¬ σ.1 (x + 1 + 4 + q) 4 = 3 := fun z => hd ((kf4 hR hq).symm.trans z)
  unfold Ff_X6_revive
  rw [if_neg c1, hqc, if_neg c3]
theorem nc_takes (hF : nF G c σ x S) {p : Nat} (hp : p < 4) {v : Int32} (hv : vp_in v 256) : ∃ τ, Ff_X6_takes G x (nI p) v σ = (.inl (some (.int (S (9 + 4 * p + 0)))), τ) ∧ nF G (c + 1) τ x (jup1 S (9 + 4 * p + 0) v) ∧ nU σ τ x := by
  have hR := hF.2.1
  have hI := hF.2.2
  have h24 := hI.1.2
  have hpc : (nI p).toNatClampNeg = p := nI_clamp (by omega)
  have c1 : ¬ (nI p < 0 ∨ ¬ nI p < 4) := nix (n := 4) hp (by decide)
  have c2 : ¬ (v < 0 ∨ 255 < v) := nrng (m := 255) hv (by decide)
  have hC : kCop σ (jwI (jHkeep σ (x + 33) (x + 1)) (x + 1 + 28 + p) 0 v) x := kCop_w (kCop_K σ x) (by omega) (by omega)
  refine ⟨_, ?_, nF_op hF hC (kR_rd (kRK hF) h24 hp (by decide)) (kI_mono (Nat.le_succ c) (kI_lo hI (by omega))), nU_C hF hC⟩
  unfold Ff_X6_takes
  rw [if_neg c1, if_neg c2, hpc, hR.2.2.1 p hp 0 (by decide)]
/-- the values that a setting can be set to -/
def nSv (p : Nat) (v : Int32) : Prop := if p = 0 then ∃ d, v = nI d ∧ 1 ≤ d ∧ d ≤ 99 else if p = 1 then ∃ d, v = nI d ∧ 1 ≤ d ∧ d ≤ 9 else if p = 2 then vp_in v 2 else ∃ d, v = nI d ∧ 1 ≤ d ∧ d ≤ 24
theorem nSv_r {d m : Nat} (h1 : 1 ≤ d) (h2 : d ≤ m) (hm : m < 1000) : ¬ (nI d < 1 ∨ nI m < nI d) := by
  rintro (z | z)
  · have := (nI_ltI (b := 1) (by omega) (by decide)).mp z
    omega
  · have := (nI_ltI (by omega) (by omega)).mp z
    omega
theorem nc_set (hF : nF G c σ x S) {p : Nat} (hp : p < 4) {v : Int32} (hv : nSv p v) : ∃ τ, Ff_X6_set G x (nI p) v σ = (.inl (some (.int (S (5 + p)))), τ) ∧ nF G (c + 1) τ x (jup1 S (5 + p) v) ∧ nU σ τ x := by
  have hR := hF.2.1
  have hI := hF.2.2
  have h24 := hI.1.2
  have hpc : (nI p).toNatClampNeg = p := nI_clamp (by omega)
  have c1 : ¬ (nI p < 0 ∨ ¬ nI p < 4) := nix (n := 4) hp (by decide)
  have hC : kCop σ (jwI (jHkeep σ (x + 33) (x + 1)) (x + 1 + 3) p v) x := kCop_w (kCop_K σ x) (by omega) (by omega)
  have key : ¬ (v < jLV p ∨ jGV p < v) ∧ kI c (jup1 S (5 + p) v) := by
    rcases (show p = 0 ∨ p = 1 ∨ p = 2 ∨ p = 3 by omega) with rfl | rfl | rfl | rfl
    · obtain ⟨d, rfl, h1, h2⟩ := hv
      exact ⟨nSv_r (m := 99) h1 h2 (by decide), kI_set0 hI h1 h2⟩
    · obtain ⟨d, rfl, h1, h2⟩ := hv
      exact ⟨nSv_r (m := 9) h1 h2 (by decide), kI_lo hI (by omega)⟩
    · have hv : vp_in v 2 := hv
      exact ⟨nrng (m := 1) hv (by decide), kI_lo hI (by omega)⟩
    · obtain ⟨d, rfl, h1, h2⟩ := hv
      exact ⟨nSv_r (m := 24) h1 h2 (by decide), kI_set3 hI (vp_in_nI (by omega) (by decide))⟩
  refine ⟨_, ?_, nF_op hF hC (kR_set (kRK hF) h24 hp) (kI_mono (Nat.le_succ c) key.2), nU_C hF hC⟩
  unfold Ff_X6_set
  rw [if_neg c1, hpc, if_neg key.1, hR.2.1 p hp]
theorem nc_done (hF : nF G c σ x S) {p q : Nat} (hp : p < 4) (hq : q < mN S) (hh : S (25 + 9 * q + 3) = 1 ∧ S (25 + 9 * q + 4) = nI p) : ∃ τ, Ff_X6_done G x (nI p) (nI q) σ = (.inl (some (.int (S (9 + 4 * p + 1) + 1))), τ) ∧ nF G (c + 1) τ x (jup1 (jup1 (jup1 S (25 + 9 * q + 3) 2) 2 (S 2 + 1)) (9 + 4 * p + 1) (S (9 + 4 * p + 1) + 1)) ∧ nU σ τ x := by
  have hR := hF.2.1
  have hI := hF.2.2
  have h24 := hI.1.2
  have hqc : (nI q).toNatClampNeg = q := nI_clamp (by omega)
  have hpc : (nI p).toNatClampNeg = p := nI_clamp (by omega)
  have c1 : ¬ (nI p < 0 ∨ ¬ nI p < 4) := nix (n := 4) hp (by decide)
  have c2 : ¬ (nI q < 0 ∨ ¬ nI q < σ.1 (x + 1) 3) := by rw [hR.1.1, hI.1.1]; exact nix hq (by omega)
  have c3 := (khe hR (r := nI p) hq).mpr hh
  obtain ⟨kr, ki⟩ := kend hF hq (t := 2) (by decide) (vp_in_nI (n := 2) (by decide) (by decide))
  have hC : kCop σ (jwI (jwI (jwI (jwI (jwI (jHkeep σ (x + 33) (x + 1)) (x + 1 + 4 + q) 4 2) (x + 1 + 4 + q) 5 (-1)) (x + 1 + 4 + q) 6 (-1)) (x + 1) 6 (σ.1 (x + 1) 6 + 1)) (x + 1 + 28 + p) 1 (σ.1 (x + 1 + 28 + p) 1 + 1)) x := kCop_w (kCop_w (kCop_w (kCop_w (kCop_w (kCop_K σ x) (by omega) (by omega)) (by omega) (by omega)) (by omega) (by omega)) (by omega) (by omega)) (by omega) (by omega)
  have en : mN (jup1 S (25 + 9 * q + 3) 2) = mN S := by unfold mN; rw [jup1_ne (by omega)]
  have k2 := kR_d (v := σ.1 (x + 1) 6 + 1) kr (by rw [en]; exact h24)
  have en2 : mN (jup1 (jup1 S (25 + 9 * q + 3) 2) 2 (σ.1 (x + 1) 6 + 1)) = mN S := by unfold mN; rw [jup1_ne (by decide), jup1_ne (by omega)]
  have k3 := kR_rd (r := p) (p := 1) (v := σ.1 (x + 1 + 28 + p) 1 + 1) k2 (by rw [en2]; exact h24) hp (by decide)
  have e6 := hR.1.2.2.2.1
  have er := hR.2.2.1 p hp 1 (by decide)
  rw [e6, er] at k3 hC
  refine ⟨_, ?_, nF_op hF hC k3 (kI_mono (Nat.le_succ c) (kI_lo (kI_lo ki (by omega)) (by omega))), nU_C hF hC⟩
  unfold Ff_X6_done
  rw [if_neg c1, if_neg c2, hqc, hpc, if_pos c3, e6, er]
theorem nc_doneT (hF : nF G c σ x S) {p q : Nat} (hp : p < 4) (hq : q < mN S) (hh : ¬ (S (25 + 9 * q + 3) = 1 ∧ S (25 + 9 * q + 4) = nI p)) : Ff_X6_done G x (nI p) (nI q) σ = (.inr "java/lang/IllegalStateException", jwh σ 6) := by
  have hR := hF.2.1
  have hI := hF.2.2
  have h24 := hI.1.2
  have hqc : (nI q).toNatClampNeg = q := nI_clamp (by omega)
  have c1 : ¬ (nI p < 0 ∨ ¬ nI p < 4) := nix (n := 4) hp (by decide)
  have c2 : ¬ (nI q < 0 ∨ ¬ nI q < σ.1 (x + 1) 3) := by rw [hR.1.1, hI.1.1]; exact nix hq (by omega)
  have c3 := fun z => hh ((khe hR (r := nI p) hq).mp z)
  unfold Ff_X6_done
  rw [if_neg c1, if_neg c2, hqc, if_neg c3]
theorem nc_giveBackT (hF : nF G c σ x S) {p q : Nat} (hp : p < 4) (hq : q < mN S) (hh : ¬ (S (25 + 9 * q + 3) = 1 ∧ S (25 + 9 * q + 4) = nI p)) : Ff_X6_giveBack G x (nI p) (nI q) σ = (.inr "java/lang/IllegalStateException", jwh σ 6) := by
  have hR := hF.2.1
  have hI := hF.2.2
  have h24 := hI.1.2
  have hqc : (nI q).toNatClampNeg = q := nI_clamp (by omega)
  have c1 : ¬ (nI p < 0 ∨ ¬ nI p < 4) := nix (n := 4) hp (by decide)
  have c2 : ¬ (nI q < 0 ∨ ¬ nI q < σ.1 (x + 1) 3) := by rw [hR.1.1, hI.1.1]; exact nix hq (by omega)
  have c3 := fun z => hh ((khe hR (r := nI p) hq).mp z)
  unfold Ff_X6_giveBack
  rw [if_neg c1, if_neg c2, hqc, if_neg c3]
theorem nheld_1 {S' : Nat → Int32} {p q : Nat} (hq : q < mN S) (hn : mN S' = mN S) (hh : S (25 + 9 * q + 3) = 1 ∧ S (25 + 9 * q + 4) = nI p) (h3 : ¬ S' (25 + 9 * q + 3) = 1) (ho : ∀ j, j < mN S → ¬ j = q → S' (25 + 9 * j + 3) = S (25 + 9 * j + 3) ∧ S' (25 + 9 * j + 4) = S (25 + 9 * j + 4)) : mheld S (nI p) = mheld S' (nI p) + 1 := by
  unfold mheld
  rw [hn]
  refine jct_add1 (i := q) hq (fun z => h3 z.1) hh (fun j hj hne => ?_)
  rw [(ho j hj hne).1, (ho j hj hne).2]
theorem nc_giveBack (hF : nF G c σ x S) {p q : Nat} (hp : p < 4) (hq : q < mN S) (hh : S (25 + 9 * q + 3) = 1 ∧ S (25 + 9 * q + 4) = nI p) : ∃ τ, Ff_X6_giveBack G x (nI p) (nI q) σ = (.inl (some (.int (nI (mheld S (nI p)) - 1))), τ) ∧ nF G (c + 1) τ x (jup1 (jup1 S (25 + 9 * q + 3) 0) (9 + 4 * p + 2) (S (9 + 4 * p + 2) + 1)) ∧ nU σ τ x := by
  have hR := hF.2.1
  have hI := hF.2.2
  have h24 := hI.1.2
  have hqc : (nI q).toNatClampNeg = q := nI_clamp (by omega)
  have hpc : (nI p).toNatClampNeg = p := nI_clamp (by omega)
  have c1 : ¬ (nI p < 0 ∨ ¬ nI p < 4) := nix (n := 4) hp (by decide)
  have c2 : ¬ (nI q < 0 ∨ ¬ nI q < σ.1 (x + 1) 3) := by rw [hR.1.1, hI.1.1]; exact nix hq (by omega)
  have c3 := (khe hR (r := nI p) hq).mpr hh
  obtain ⟨kr, ki⟩ := kend hF hq (t := 0) (by decide) (vp_in_nI (n := 0) (by decide) (by decide))
  have hC : kCop σ (jwI (jwI (jwI (jwI (jHkeep σ (x + 33) (x + 1)) (x + 1 + 4 + q) 4 0) (x + 1 + 4 + q) 5 (-1)) (x + 1 + 4 + q) 6 (-1)) (x + 1 + 28 + p) 2 (σ.1 (x + 1 + 28 + p) 2 + 1)) x := kCop_w (kCop_w (kCop_w (kCop_w (kCop_K σ x) (by omega) (by omega)) (by omega) (by omega)) (by omega) (by omega)) (by omega) (by omega)
  have en : mN (jup1 S (25 + 9 * q + 3) 0) = mN S := by unfold mN; rw [jup1_ne (by omega)]
  have k3 := kR_rd (r := p) (p := 2) (v := σ.1 (x + 1 + 28 + p) 2 + 1) kr (by rw [en]; exact h24) hp (by decide)
  have er := hR.2.2.1 p hp 2 (by decide)
  have e9 := nheld_1 (S' := jup1 (jup1 S (25 + 9 * q + 3) 0) (9 + 4 * p + 2) (S (9 + 4 * p + 2) + 1)) hq (by unfold mN; rw [jup1_ne (by omega), jup1_ne (by omega)]) hh (by rw [jup1_ne (by omega), jup1_at]; decide) (fun j hj hne => ⟨by rw [jup1_ne (by omega), jup1_ne (by omega)], by rw [jup1_ne (by omega), jup1_ne (by omega)]⟩)
  have e8 : nI (mheld S (nI p)) - 1 = nI (mheld (jup1 (jup1 S (25 + 9 * q + 3) 0) (9 + 4 * p + 2) (S (9 + 4 * p + 2) + 1)) (nI p)) := by rw [e9, nI_pred]
  have e7 : Ff_X6_giveBack G x (nI p) (nI q) σ = (.inl (some (.int (nI (mheld (jup1 (jup1 S (25 + 9 * q + 3) 0) (9 + 4 * p + 2) (σ.1 (x + 1 + 28 + p) 2 + 1)) (nI p))))), jwI (jwI (jwI (jwI (jHkeep σ (x + 33) (x + 1)) (x + 1 + 4 + q) 4 0) (x + 1 + 4 + q) 5 (-1)) (x + 1 + 4 + q) 6 (-1)) (x + 1 + 28 + p) 2 (σ.1 (x + 1 + 28 + p) 2 + 1)) := by
    unfold Ff_X6_giveBack
    rw [if_neg c1, if_neg c2, hqc, hpc, if_pos c3, ← kheld k3 (nI p)]
    rfl
  rw [er] at k3 hC e7
  rw [e8]
  exact ⟨_, e7, nF_op hF hC k3 (kI_mono (Nat.le_succ c) (kI_lo ki (by omega))), nU_C hF hC⟩
theorem nheld_rn {r r' : Int32} (i : Nat) (hO : mOk S) : mheld (mRN S r i) r' = mheld S r' := by
  unfold mheld
  rw [(mRN_ok (r := r) (i := i) hO).2]
  exact jct_cg fun j hj => by rw [mRN_ne (fun k => by omega), mRN_ne (fun k => by omega)]
theorem nc_renew (hF : nF G c σ x S) {p : Nat} (hp : p < 4) : ∃ τ, Ff_X6_renew G x (nI p) σ = (.inl (some (.int (nI (mheld S (nI p))))), τ) ∧ nF G (c + 1) τ x (mRN S (nI p) (mN S)) ∧ nU σ τ x := by
  have hR := hF.2.1
  have hI := hF.2.2
  have h24 := hI.1.2
  have c1 : ¬ (nI p < 0 ∨ ¬ nI p < 4) := nix (n := 4) hp (by decide)
  have kr := kren_R hF (nI p)
  have hC := kren_C hF (nI p)
  refine ⟨_, ?_, nF_op hF hC kr (kI_mono (Nat.le_succ c) (kren_I hF (nI p))), nU_C hF hC⟩
  unfold Ff_X6_renew
  rw [if_neg c1]
  unfold Ff_X5_holdsOf Ff_X5_prolongHolds
  dsimp only
  rw [kheld kr (nI p), nheld_rn _ hI.1]
theorem nc_pass (hF : nF G c σ x S) {u : Nat} (h1 : 1 ≤ u) (h2 : u ≤ 99) (hT : ∀ T : Nat, S 3 = nI T → T ≤ 9999 → T + u ≤ 9999) : ∃ τ, Ff_X6_pass G x (nI u) σ = (.inl (some (.int (nI (mGcn S u)))), τ) ∧ nF G (c + 1) τ x (mGn S u) ∧ nU σ τ x := by
  have hR := hF.2.1
  have hI := hF.2.2
  have h24 := hI.1.2
  have c1 : ¬ (nI u < 1 ∨ 99 < nI u) := nSv_r (m := 99) h1 h2 (by decide)
  have et : σ.1 (x + 1) 4 = S 3 := hR.1.2.1
  have c2 : ¬ 9999 < σ.1 (x + 1) 4 + nI u := by
    obtain ⟨hO, P, T, D, g1, g2, g3, g4, g5⟩ := hI
    rw [et, g3, nI_add, show (9999 : Int32) = nI 9999 from rfl, nI_ltI (by decide) (by omega)]
    have := hT T g3 g4
    omega
  have hRK := kRK hF
  have hjn := kn hRK
  have hC : kCop σ (jsM (jHkeep σ (x + 33) (x + 1)) (x + 1) ((jHkeep σ (x + 33) (x + 1)).1 (x + 1) 4 + nI u) (jn (jHkeep σ (x + 33) (x + 1)) (x + 1))) x := by
    refine kCop_c (kCop_K σ x) rfl (fun a h1 _ => funext fun k => ?_)
    unfold jsM
    rw [jmp_out (by rw [hjn]; omega), jRd_out (by omega), jI_wI, if_neg (by omega)]
  refine ⟨_, ?_, nF_op hF hC (kmv hRK hI (by omega)) (kI_mono (Nat.le_succ c) (kImv hI (by omega) hT)), nU_C hF hC⟩
  unfold Ff_X6_pass
  rw [if_neg c1, if_neg c2]
  show ((.inl (some (.int (nI (jct (fun j => (jHkeep σ (x + 33) (x + 1)).1 (x + 1 + 4 + j) 4 = 1 ∧ (jHkeep σ (x + 33) (x + 1)).1 (x + 1 + 4 + j) 6 ≤ (jHkeep σ (x + 33) (x + 1)).1 (x + 1) 4 + nI u) (jn (jHkeep σ (x + 33) (x + 1)) (x + 1)))))), _) : jgR) = _
  rw [kpassc hRK hI (by omega)]
theorem nc_sweep (hF : nF G c σ x S) : ∃ τ, Ff_X6_sweep G x σ = (.inl (some (.int (S 0 - nI (mSc S (mN S))))), τ) ∧ nF G (c + 1) τ x (mSW S) ∧ nU σ τ x := by
  have hR := hF.2.1
  have hI := hF.2.2
  have h24 := hI.1.2
  have hC := kswp_C hF
  refine ⟨_, ?_, nF_op hF hC (kswp_R hF) (kI_mono (Nat.le_succ c) (kswp_I hF)), nU_C hF hC⟩
  rw [kswp_E hF, kn (kRK hF), ← hI.1.1]
theorem nc_take (hF : nF G c σ x S) (hc : c ≤ 600) {p : Nat} (hp : p < 4) {d : Nat} (h1 : 1 ≤ d) (h2 : d ≤ 24) : ∃ τ, Ff_X6_take G x (nI p) (nI d) σ = (.inl (some (.int (mTG S p (mroom S (nI p) (nI d)) (mTot S)).2.1)), τ) ∧ nF G (c + 1) τ x (mTS S p (mroom S (nI p) (nI d))) ∧ nU σ τ x := by
  have hR := hF.2.1
  have hI := hF.2.2
  have h24 := hI.1.2
  have hpc : (nI p).toNatClampNeg = p := nI_clamp (by omega)
  have c1 : ¬ (nI p < 0 ∨ ¬ nI p < 4) := nix (n := 4) hp (by decide)
  have c2 : ¬ (nI d < 1 ∨ 24 < nI d) := nSv_r (m := 24) h1 h2 (by decide)
  have hRK := kRK hF
  have hL := klk hRK hI hp (nI d)
  have hjn := kn hRK
  generalize hs : jLG (jHkeep σ (x + 33) (x + 1)) (x + 1) p (jroom (jHkeep σ (x + 33) (x + 1)) (x + 1) (nI p) (nI d)) (jct (fun j => (jHkeep σ (x + 33) (x + 1)).1 (x + 1 + 4 + j) 4 = 0 ∨ (jHkeep σ (x + 33) (x + 1)).1 (x + 1 + 4 + j) 4 = 1) (jn (jHkeep σ (x + 33) (x + 1)) (x + 1))) = s at *
  have ea : (Ff_X2_along G (x + 232) (x + 1) (nI p) (nI d) (jHkeep σ (x + 33) (x + 1))).2 = jwL (jHkeep σ (x + 33) (x + 1)) (x + 232) s := by
    unfold Ff_X2_along
    rw [hpc, hs]
  have eh : (Ff_X5_holdAndSkip G (x + 1) (nI p) (x + 232) (jwL (jHkeep σ (x + 33) (x + 1)) (x + 232) s)).2 = jsS (jwL (jHkeep σ (x + 33) (x + 1)) (x + 232) s) (x + 1) (x + 232) (nI p) (mN S) := by
    unfold Ff_X5_holdAndSkip
    have e : jn (jwL (jHkeep σ (x + 33) (x + 1)) (x + 232) s) (x + 1) = mN S := by unfold jn; rw [jwL_out (by omega)]; exact hjn
    rw [e]
  have hC : kCop σ (jsS (jwL (jHkeep σ (x + 33) (x + 1)) (x + 232) s) (x + 1) (x + 232) (nI p) (mN S)) x := by
    refine kCop_c (kCop_K σ x) ((jsS_2 _ _ _ _ _).trans (jwL_2 _ _ _)) (fun a h1 h2 => funext fun k => ?_)
    unfold jsS
    rw [jmp_out (by omega), jI_wI, if_neg (by omega), jwL_out h2]
  refine ⟨_, ?_, nF_op hF hC (ktk hRK h24 hL) (ktkI hc hI hp hL), nU_C hF hC⟩
  unfold Ff_X6_take
  rw [if_neg c1, if_neg c2, hpc, hs, ea, eh, ← hL.1.1]
end NC
