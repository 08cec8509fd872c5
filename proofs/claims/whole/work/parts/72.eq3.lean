/-! renew, pass, sweep, take, both sides -/
theorem kRw_l {f f' g g' : Nat → Int32} {L : Int32} (h : kRw f g) (h3 : g 3 = 1) (e6 : f' 6 = L) (s5 : g' 5 = L) (e : ∀ k, k < 9 → ¬ k = 6 → f' k = f k) (s : ∀ p, p < 9 → ¬ p = 5 → g' p = g p) : kRw f' g' := by
  obtain ⟨r0, r1, r2, r3, r4, r5, r6, r7, r8⟩ := h
  unfold kRw
  rw [e 0 (by decide) (by decide), e 1 (by decide) (by decide), e 2 (by decide) (by decide), e 3 (by decide) (by decide), e 4 (by decide) (by decide), e 5 (by decide) (by decide), e6, e 7 (by decide) (by decide), e 8 (by decide) (by decide), s 0 (by decide) (by decide), s 1 (by decide) (by decide), s 2 (by decide) (by decide), s 8 (by decide) (by decide), s 3 (by decide) (by decide), s 4 (by decide) (by decide), s 6 (by decide) (by decide), s 7 (by decide) (by decide), s5, if_pos h3, if_pos h3]
  rw [if_pos h3] at r5
  exact ⟨r0, r1, r2, r3, r4, r5, rfl, r7, r8⟩
section KC3
variable {G : jgG} {c x : Nat} {σ : jgS}
theorem kren_R (hF : kF G c σ x) (r : Int32) : kR (jmp (jHkeep σ (x + 33) (x + 1)) (x + 1) (jn (jHkeep σ (x + 33) (x + 1)) (x + 1)) (jvP (jHkeep σ (x + 33) (x + 1)) (x + 1) r)) (x + 1) (mRN (σ.1 (x + 233 + 1)) r (mN (σ.1 (x + 233 + 1)))) := by
  have hR := hF.2.2.1
  have hI := hF.2.2.2.1
  have h24 := hI.1.2
  have hRK := kRK hF
  have hjn := kn hRK
  have ho : ∀ a, ¬ (x + 1 + 4 ≤ a ∧ a < x + 1 + 4 + mN (σ.1 (x + 233 + 1))) → (jmp (jHkeep σ (x + 33) (x + 1)) (x + 1) (jn (jHkeep σ (x + 33) (x + 1)) (x + 1)) (jvP (jHkeep σ (x + 33) (x + 1)) (x + 1) r)).1 a = (jHkeep σ (x + 33) (x + 1)).1 a := fun a ha => funext fun k => jmp_out (by rw [hjn]; omega)
  obtain ⟨hOr, hNr⟩ := mRN_ok (r := r) (i := mN (σ.1 (x + 233 + 1))) hI.1
  have sl : ∀ k, (∀ j, ¬ k = 25 + 9 * j + 5) → mRN (σ.1 (x + 233 + 1)) r (mN (σ.1 (x + 233 + 1))) k = σ.1 (x + 233 + 1) k := fun k hk => mRN_ne hk
  obtain ⟨g1, g2, g3, g4⟩ := hRK
  refine ⟨by rw [ho _ (by omega), sl 0 (by omega), sl 1 (by omega), sl 2 (by omega), sl 3 (by omega), sl 4 (by omega)]; exact g1, fun k hk => by rw [ho _ (by omega), sl _ (by omega)]; exact g2 k hk, fun q hq p hp => by rw [ho _ (by omega), sl _ (by omega)]; exact g3 q hq p hp, fun i hi => ?_⟩
  rw [hNr] at hi
  have hrow := g4 i hi
  have er : ∀ k, k < 9 → (jmp (jHkeep σ (x + 33) (x + 1)) (x + 1) (jn (jHkeep σ (x + 33) (x + 1)) (x + 1)) (jvP (jHkeep σ (x + 33) (x + 1)) (x + 1) r)).1 (x + 1 + 4 + i) k = jvP (jHkeep σ (x + 33) (x + 1)) (x + 1) r i k := fun k hk => jmp_in (by omega) hk
  have hhe := khe (kRK hF) (r := r) hi
  have so : ∀ p, p < 9 → ¬ p = 5 → mRN (σ.1 (x + 233 + 1)) r (mN (σ.1 (x + 233 + 1))) (25 + 9 * i + p) = σ.1 (x + 233 + 1) (25 + 9 * i + p) := fun p hp h5 => sl _ (fun j => by omega)
  by_cases hb : σ.1 (x + 233 + 1) (25 + 9 * i + 3) = 1 ∧ σ.1 (x + 233 + 1) (25 + 9 * i + 4) = r
  · have hb' := hhe.mpr hb
    have s5 : mRN (σ.1 (x + 233 + 1)) r (mN (σ.1 (x + 233 + 1))) (25 + 9 * i + 5) = σ.1 (x + 233 + 1) 3 + σ.1 (x + 233 + 1) 5 := by rw [mRN_at, if_pos ⟨hi, hb⟩]
    have eo : ∀ k, k < 9 → ¬ k = 6 → (jmp (jHkeep σ (x + 33) (x + 1)) (x + 1) (jn (jHkeep σ (x + 33) (x + 1)) (x + 1)) (jvP (jHkeep σ (x + 33) (x + 1)) (x + 1) r)).1 (x + 1 + 4 + i) k = (jHkeep σ (x + 33) (x + 1)).1 (x + 1 + 4 + i) k := fun k hk h6 => by rw [er k hk]; unfold jvP; rw [if_neg (fun z => h6 z.1)]
    have e6 : (jmp (jHkeep σ (x + 33) (x + 1)) (x + 1) (jn (jHkeep σ (x + 33) (x + 1)) (x + 1)) (jvP (jHkeep σ (x + 33) (x + 1)) (x + 1) r)).1 (x + 1 + 4 + i) 6 = σ.1 (x + 233 + 1) 3 + σ.1 (x + 233 + 1) 5 := by
      rw [er 6 (by decide)]
      unfold jvP
      rw [if_pos ⟨rfl, hb'⟩, g1.2.1, g2 0 (by decide)]
    exact kRw_l (g := fun p => σ.1 (x + 233 + 1) (25 + 9 * i + p)) (g' := fun p => mRN (σ.1 (x + 233 + 1)) r (mN (σ.1 (x + 233 + 1))) (25 + 9 * i + p)) hrow hb.1 e6 s5 eo so
  · have s5 : mRN (σ.1 (x + 233 + 1)) r (mN (σ.1 (x + 233 + 1))) (25 + 9 * i + 5) = σ.1 (x + 233 + 1) (25 + 9 * i + 5) := by rw [mRN_at, if_neg (fun z => hb z.2)]
    refine kRw_f (f := (jHkeep σ (x + 33) (x + 1)).1 (x + 1 + 4 + i)) (fun k hk => by rw [er k hk]; unfold jvP; rw [if_neg (fun z => hb (hhe.mp z.2))]) (kRw_g (g := fun p => σ.1 (x + 233 + 1) (25 + 9 * i + p)) (fun p hp => ?_) hrow)
    by_cases h5 : p = 5
    · subst h5; exact s5
    · exact so p hp h5
theorem kren_I (hF : kF G c σ x) (r : Int32) : kI c (mRN (σ.1 (x + 233 + 1)) r (mN (σ.1 (x + 233 + 1)))) := by
  have hR := hF.2.2.1
  have hI := hF.2.2.2.1
  have h24 := hI.1.2
  have hRK := kRK hF
  have hjn := kn hRK
  have ho : ∀ a, ¬ (x + 1 + 4 ≤ a ∧ a < x + 1 + 4 + mN (σ.1 (x + 233 + 1))) → (jmp (jHkeep σ (x + 33) (x + 1)) (x + 1) (jn (jHkeep σ (x + 33) (x + 1)) (x + 1)) (jvP (jHkeep σ (x + 33) (x + 1)) (x + 1) r)).1 a = (jHkeep σ (x + 33) (x + 1)).1 a := fun a ha => funext fun k => jmp_out (by rw [hjn]; omega)
  obtain ⟨hOr, hNr⟩ := mRN_ok (r := r) (i := mN (σ.1 (x + 233 + 1))) hI.1
  have sl : ∀ k, (∀ j, ¬ k = 25 + 9 * j + 5) → mRN (σ.1 (x + 233 + 1)) r (mN (σ.1 (x + 233 + 1))) k = σ.1 (x + 233 + 1) k := fun k hk => mRN_ne hk
  obtain ⟨hO, P, T, D, g1, g2, g3, g4, g5, g6, gr, g7, g8⟩ := hI
  have so : ∀ i p, p < 9 → ¬ p = 5 → mRN (σ.1 (x + 233 + 1)) r (mN (σ.1 (x + 233 + 1))) (25 + 9 * i + p) = σ.1 (x + 233 + 1) (25 + 9 * i + p) := fun i p hp h5 => sl _ (fun j => by omega)
  have ek : ∀ i, kmk (mRN (σ.1 (x + 233 + 1)) r (mN (σ.1 (x + 233 + 1)))) i = kmk (σ.1 (x + 233 + 1)) i := fun i => by unfold kmk; rw [so i 2 (by decide) (by decide)]
  refine ⟨hOr, P, T, D, by rw [sl 1 (by omega)]; exact g1, g2, by rw [sl 3 (by omega)]; exact g3, g4, by rw [sl 5 (by omega)]; exact g5, by rw [sl 8 (by omega)]; exact g6, fun i hi => ?_, fun i hi => ?_, fun i j hij hj => ?_⟩
  · rw [hNr] at hi
    obtain ⟨r0, r1, r3, rh, r7⟩ := gr i hi
    refine ⟨show vp_in (mRN (σ.1 (x + 233 + 1)) r (mN (σ.1 (x + 233 + 1))) (25 + 9 * i + 0)) 8 from by rw [so i 0 (by decide) (by decide)]; exact r0, show vp_in (mRN (σ.1 (x + 233 + 1)) r (mN (σ.1 (x + 233 + 1))) (25 + 9 * i + 1)) 10 from by rw [so i 1 (by decide) (by decide)]; exact r1, show vp_in (mRN (σ.1 (x + 233 + 1)) r (mN (σ.1 (x + 233 + 1))) (25 + 9 * i + 3)) 4 from by rw [so i 3 (by decide) (by decide)]; exact r3, fun z => ?_, show vp_in (mRN (σ.1 (x + 233 + 1)) r (mN (σ.1 (x + 233 + 1))) (25 + 9 * i + 7)) (c + 1) from by rw [so i 7 (by decide) (by decide)]; exact r7⟩
    have z : mRN (σ.1 (x + 233 + 1)) r (mN (σ.1 (x + 233 + 1))) (25 + 9 * i + 3) = 1 := z
    rw [so i 3 (by decide) (by decide)] at z
    obtain ⟨v4, L, e5, l1, l2⟩ := rh z
    refine ⟨show vp_in (mRN (σ.1 (x + 233 + 1)) r (mN (σ.1 (x + 233 + 1))) (25 + 9 * i + 4)) 4 from by rw [so i 4 (by decide) (by decide)]; exact v4, ?_⟩
    show ∃ L : Nat, mRN (σ.1 (x + 233 + 1)) r (mN (σ.1 (x + 233 + 1))) (25 + 9 * i + 5) = nI L ∧ T < L ∧ L ≤ 10098
    rw [mRN_at]
    by_cases hb : i < mN (σ.1 (x + 233 + 1)) ∧ σ.1 (x + 233 + 1) (25 + 9 * i + 3) = 1 ∧ σ.1 (x + 233 + 1) (25 + 9 * i + 4) = r
    · rw [if_pos hb, g3, g5.1, nI_add]
      exact ⟨T + D, rfl, by omega, by omega⟩
    · rw [if_neg hb]
      exact ⟨L, e5, l1, l2⟩
  · rw [hNr] at hi
    rw [ek, so i 2 (by decide) (by decide)]
    exact g7 i hi
  · rw [hNr] at hj
    rw [ek, ek]
    exact g8 i j hij hj
theorem kren_C (hF : kF G c σ x) (r : Int32) : kCop σ (jmp (jHkeep σ (x + 33) (x + 1)) (x + 1) (jn (jHkeep σ (x + 33) (x + 1)) (x + 1)) (jvP (jHkeep σ (x + 33) (x + 1)) (x + 1) r)) x := by
  have hjn := kn (kRK hF)
  have h24 := hF.2.2.2.1.1.2
  exact kCop_c (kCop_K σ x) (jmp_2 _ _ _ _) (fun a h1 _ => funext fun k => jmp_out (by omega))
theorem kc_renew (hF : kF G c σ x) (r : Int32) : kRes G (c + 1) σ x ["java/lang/IndexOutOfBoundsException"] (Ff_X6_renew G x r σ) (Ff_X7_renew G (x + 233) r (Ff_X6_renew G x r σ).2) := by
  unfold Ff_X6_renew
  by_cases c1 : r < 0 ∨ ¬ r < 4
  · rw [if_pos c1]
    unfold Ff_X7_renew
    rw [if_pos ((kr4 r).mp c1)]
    exact kTh (i := 0) hF rfl rfl
  rw [if_neg c1]
  have n1 : ¬ ¬ (¬ r < 0 ∧ ¬ 3 < r) := fun z => c1 ((kr4 r).mpr z)
  have kr := kren_R hF r
  have ki := kren_I hF r
  have hC := kren_C hF r
  have eS := kS1 hF hC
  have e6 : Ff_X5_holdsOf G (x + 1) r (Ff_X5_prolongHolds G (x + 1) r (jHkeep σ (x + 33) (x + 1))).2 = (.inl (some (.int (nI (mheld (mRN (σ.1 (x + 233 + 1)) r (mN (σ.1 (x + 233 + 1)))) r)))), jmp (jHkeep σ (x + 33) (x + 1)) (x + 1) (jn (jHkeep σ (x + 33) (x + 1)) (x + 1)) (jvP (jHkeep σ (x + 33) (x + 1)) (x + 1) r)) := by
    unfold Ff_X5_holdsOf Ff_X5_prolongHolds
    dsimp only
    rw [kheld kr r]
  rw [e6]
  generalize jmp (jHkeep σ (x + 33) (x + 1)) (x + 1) (jn (jHkeep σ (x + 33) (x + 1)) (x + 1)) (jvP (jHkeep σ (x + 33) (x + 1)) (x + 1) r) = τ at *
  have e7 : Ff_X7_renew G (x + 233) r τ = (.inl (some (.int (nI (mheld (mRN (σ.1 (x + 233 + 1)) r (mN (σ.1 (x + 233 + 1)))) r)))), jwS (mKeep (jwI τ (x + 233) 0 0) (x + 233)) (x + 233) (mRN (σ.1 (x + 233 + 1)) r (mN (σ.1 (x + 233 + 1))))) := by
    unfold Ff_X7_renew
    rw [eS, if_neg n1]
  show kRes G (c + 1) σ x _ _ (Ff_X7_renew G (x + 233) r τ)
  rw [e7]
  exact kOp hF hC (kMop_S _ _ _) kr (kI_mono (Nat.le_succ c) ki) rfl
theorem kc_pass (hF : kF G c σ x) (u : Int32) : kRes G (c + 1) σ x ["java/lang/IllegalArgumentException", "java/lang/IllegalStateException"] (Ff_X6_pass G x u σ) (Ff_X7_pass G (x + 233) u (Ff_X6_pass G x u σ).2) := by
  have hR := hF.2.2.1
  have hI := hF.2.2.2.1
  have h24 := hI.1.2
  unfold Ff_X6_pass
  by_cases c1 : u < 1 ∨ 99 < u
  · rw [if_pos c1]
    unfold Ff_X7_pass
    rw [if_pos (fun z => c1.elim z.1 z.2)]
    exact kTh (i := 0) hF rfl rfl
  rw [if_neg c1]
  have n1 : ¬ ¬ (¬ u < 1 ∧ ¬ 99 < u) := fun z => z ⟨fun w => c1 (Or.inl w), fun w => c1 (Or.inr w)⟩
  have h0 : ¬ u < 0 := fun z => c1 (Or.inl (by
    rw [Int32.lt_iff_toInt_lt] at z ⊢
    have h1 : (0 : Int32).toInt = 0 := by decide
    have h2 : (1 : Int32).toInt = 1 := by decide
    omega))
  have c1' : ¬ 99 < u := fun z => c1 (Or.inr z)
  obtain ⟨w, hw, rfl⟩ := nI_of2 (M := 99) (n := 99) (by decide) h0 (ji_le.mpr c1')
  have hwc : (nI w).toNatClampNeg = w := nI_clamp (by omega)
  have et : σ.1 (x + 1) 4 = σ.1 (x + 233 + 1) 3 := hR.1.2.1
  by_cases c2 : 9999 < σ.1 (x + 1) 4 + nI w
  · rw [if_pos c2]
    rw [et] at c2
    unfold Ff_X7_pass
    rw [if_neg n1, if_pos (show 9999 < (jwh σ 6).1 (x + 233 + 1) 3 + nI w from c2)]
    exact kTh (i := 1) hF rfl rfl
  rw [if_neg c2]
  have hRK := kRK hF
  have hjn := kn hRK
  have et2 : (jHkeep σ (x + 33) (x + 1)).1 (x + 1) 4 = σ.1 (x + 233 + 1) 3 := hRK.1.2.1
  have hC : kCop σ (jsM (jHkeep σ (x + 33) (x + 1)) (x + 1) ((jHkeep σ (x + 33) (x + 1)).1 (x + 1) 4 + nI w) (jn (jHkeep σ (x + 33) (x + 1)) (x + 1))) x := by
    refine kCop_c (kCop_K σ x) rfl (fun a h1 _ => funext fun k => ?_)
    unfold jsM
    rw [jmp_out (by rw [hjn]; omega), jRd_out (by omega), jI_wI, if_neg (by omega)]
  have eS := kS1 hF hC
  show kRes G (c + 1) σ x _ (.inl (some (.int (nI (jct (fun j => (jHkeep σ (x + 33) (x + 1)).1 (x + 1 + 4 + j) 4 = 1 ∧ (jHkeep σ (x + 33) (x + 1)).1 (x + 1 + 4 + j) 6 ≤ (jHkeep σ (x + 33) (x + 1)).1 (x + 1) 4 + nI w) (jn (jHkeep σ (x + 33) (x + 1)) (x + 1)))))), jsM (jHkeep σ (x + 33) (x + 1)) (x + 1) ((jHkeep σ (x + 33) (x + 1)).1 (x + 1) 4 + nI w) (jn (jHkeep σ (x + 33) (x + 1)) (x + 1))) (Ff_X7_pass G (x + 233) (nI w) (jsM (jHkeep σ (x + 33) (x + 1)) (x + 1) ((jHkeep σ (x + 33) (x + 1)).1 (x + 1) 4 + nI w) (jn (jHkeep σ (x + 33) (x + 1)) (x + 1))))
  unfold Ff_X7_pass
  rw [eS, if_neg n1, if_neg (show ¬ 9999 < σ.1 (x + 233 + 1) 3 + nI w from by rw [← et]; exact c2), hwc]
  refine kOp hF hC (kMop_S _ _ _) (kmv hRK hI (by omega)) (kI_mono (Nat.le_succ c) (kImv hI (by omega) (fun T eT hT => ?_))) (congrArg nI (kpassc hRK hI (by omega)))
  rw [et, eT, nI_add, show (9999 : Int32) = nI 9999 from rfl, nI_ltI (by decide) (by omega)] at c2
  omega
theorem jct_sur {p : Nat → Prop} [DecidablePred p] : ∀ {n i : Nat}, i < jct p n → ∃ j, j < n ∧ p j ∧ jct p j = i
  | 0, i, h => absurd h (by show ¬ i < 0; omega)
  | n + 1, i, h => by
    by_cases hp : p n
    · rw [jct_y hp] at h
      by_cases e : i = jct p n
      · exact ⟨n, by omega, hp, e.symm⟩
      · obtain ⟨j, h1, h2, h3⟩ := jct_sur (p := p) (n := n) (i := i) (by omega)
        exact ⟨j, by omega, h2, h3⟩
    · rw [jct_n hp] at h
      obtain ⟨j, h1, h2, h3⟩ := jct_sur (p := p) (n := n) (i := i) h
      exact ⟨j, by omega, h2, h3⟩
theorem mSw_at {S : Nat → Int32} {j p : Nat} (hp : p < 9) (hn : ¬ S (25 + 9 * j + 3) = 2) : ∀ i, j < i → mSw S i (25 + 9 * mSc S j + p) = S (25 + 9 * j + p)
  | 0, h => absurd h (by omega)
  | i + 1, h => by
    rw [mSw_s]
    have hle : mSc S i ≤ i := jct_le _ _
    by_cases e : j = i
    · subst e
      rw [if_pos hn]
      unfold mSp
      rw [if_pos (by omega)]
      exact congrArg S (by omega)
    · have hm : mSc S (j + 1) ≤ mSc S i := jct_mono _ (by omega)
      have hj : mSc S (j + 1) = mSc S j + 1 := jct_y hn
      have ih := mSw_at hp hn i (by omega)
      split
      · unfold mSp
        rw [if_neg (by omega)]
        exact ih
      · exact ih
theorem kswp_R (hF : kF G c σ x) : kR (jwI (jmp (jHkeep σ (x + 33) (x + 1)) (x + 1) (mSc (σ.1 (x + 233 + 1)) (mN (σ.1 (x + 233 + 1)))) (jvD (jHkeep σ (x + 33) (x + 1)) (x + 1))) (x + 1) 3 (nI (mSc (σ.1 (x + 233 + 1)) (mN (σ.1 (x + 233 + 1)))))) (x + 1) (mSW (σ.1 (x + 233 + 1))) := by
  have hR := hF.2.2.1
  have hI := hF.2.2.2.1
  have h24 := hI.1.2
  have hRK := kRK hF
  have hjn := kn hRK
  have ecd : ∀ i, i ≤ mN (σ.1 (x + 233 + 1)) → jct (fun j => ¬ (jHkeep σ (x + 33) (x + 1)).1 (x + 1 + 4 + j) 4 = 2) i = mSc (σ.1 (x + 233 + 1)) i := fun i hi => jct_cg fun j hj => by rw [kf4 hRK (by omega)]
  have hcle : mSc (σ.1 (x + 233 + 1)) (mN (σ.1 (x + 233 + 1))) ≤ mN (σ.1 (x + 233 + 1)) := jct_le _ _
  have hcc : (nI (mSc (σ.1 (x + 233 + 1)) (mN (σ.1 (x + 233 + 1))))).toNatClampNeg = mSc (σ.1 (x + 233 + 1)) (mN (σ.1 (x + 233 + 1))) := nI_clamp (by omega)
  have hN' : mN (mSW (σ.1 (x + 233 + 1))) = mSc (σ.1 (x + 233 + 1)) (mN (σ.1 (x + 233 + 1))) := by unfold mN mSW; rw [jup1_at]; exact hcc
  have s9 : ∀ i, i < mSc (σ.1 (x + 233 + 1)) (mN (σ.1 (x + 233 + 1))) → ∃ j, j < mN (σ.1 (x + 233 + 1)) ∧ mSc (σ.1 (x + 233 + 1)) j = i ∧ (¬ σ.1 (x + 233 + 1) (25 + 9 * j + 3) = 2) ∧ ∀ p, p < 9 → mSW (σ.1 (x + 233 + 1)) (25 + 9 * i + p) = σ.1 (x + 233 + 1) (25 + 9 * j + p) := by
    intro i hi
    obtain ⟨j, h1, h2, h3⟩ := jct_sur hi
    refine ⟨j, h1, h3, h2, fun p hp => ?_⟩
    have h3 : mSc (σ.1 (x + 233 + 1)) j = i := h3
    unfold mSW
    rw [jup1_ne (by omega), ← h3]
    exact mSw_at hp h2 _ h1
  have slo : ∀ k, k < 25 → ¬ k = 0 → mSW (σ.1 (x + 233 + 1)) k = σ.1 (x + 233 + 1) k := fun k h1 h2 => (jup1_ne h2).trans (mSw_lo h1)
  obtain ⟨g1, g2, g3, g4⟩ := id hRK
  have o : ∀ a, ¬ a = x + 1 → ¬ (x + 1 + 4 ≤ a ∧ a < x + 1 + 4 + mSc (σ.1 (x + 233 + 1)) (mN (σ.1 (x + 233 + 1)))) → (jwI (jmp (jHkeep σ (x + 33) (x + 1)) (x + 1) (mSc (σ.1 (x + 233 + 1)) (mN (σ.1 (x + 233 + 1)))) (jvD (jHkeep σ (x + 33) (x + 1)) (x + 1))) (x + 1) 3 (nI (mSc (σ.1 (x + 233 + 1)) (mN (σ.1 (x + 233 + 1)))))).1 a = (jHkeep σ (x + 33) (x + 1)).1 a := fun a h1 h2 => funext fun k => by rw [jI_wI, if_neg (fun z => h1 z.1), jmp_out (by omega)]
  have oh : ∀ k, ¬ k = 3 → (jwI (jmp (jHkeep σ (x + 33) (x + 1)) (x + 1) (mSc (σ.1 (x + 233 + 1)) (mN (σ.1 (x + 233 + 1)))) (jvD (jHkeep σ (x + 33) (x + 1)) (x + 1))) (x + 1) 3 (nI (mSc (σ.1 (x + 233 + 1)) (mN (σ.1 (x + 233 + 1)))))).1 (x + 1) k = (jHkeep σ (x + 33) (x + 1)).1 (x + 1) k := fun k h => by rw [jI_wI, if_neg (fun z => h z.2), jmp_h]
  refine ⟨⟨?_, ?_, ?_, ?_, ?_⟩, fun k hk => by rw [o _ (by omega) (by omega), slo _ (by omega) (by omega)]; exact g2 k hk, fun r hr p hp => by rw [o _ (by omega) (by omega), slo _ (by omega) (by omega)]; exact g3 r hr p hp, fun i hi => ?_⟩
  · rw [jI_wI, if_pos ⟨rfl, rfl⟩]; unfold mSW; rw [jup1_at]
  · rw [oh 4 (by decide), slo 3 (by decide) (by decide)]; exact g1.2.1
  · rw [oh 5 (by decide), slo 1 (by decide) (by decide)]; exact g1.2.2.1
  · rw [oh 6 (by decide), slo 2 (by decide) (by decide)]; exact g1.2.2.2.1
  · rw [oh 7 (by decide), slo 4 (by decide) (by decide)]; exact g1.2.2.2.2
  · rw [hN'] at hi
    obtain ⟨j, h1, h2, h3, h4⟩ := s9 i hi
    refine kRw_f (f := (jHkeep σ (x + 33) (x + 1)).1 (x + 1 + 4 + j)) (fun k hk => ?_) (kRw_g (g := fun p => σ.1 (x + 233 + 1) (25 + 9 * j + p)) h4 (g4 j h1))
    rw [jI_wI, if_neg (by omega), jmp_in hi hk]
    unfold jvD
    have e1 : jct (fun j => ¬ (jHkeep σ (x + 33) (x + 1)).1 (x + 1 + 4 + j) 4 = 2) j = i := (ecd j (by omega)).trans h2
    have e2 := jnth_at (p := fun j => ¬ (jHkeep σ (x + 33) (x + 1)).1 (x + 1 + 4 + j) 4 = 2) (i := j) (n := jn (jHkeep σ (x + 33) (x + 1)) (x + 1)) (by omega) (by rw [kf4 hRK h1]; exact h3)
    rw [e1] at e2
    rw [e2]
theorem kswp_I (hF : kF G c σ x) : kI c (mSW (σ.1 (x + 233 + 1))) := by
  have hR := hF.2.2.1
  have hI := hF.2.2.2.1
  have h24 := hI.1.2
  have hRK := kRK hF
  have hjn := kn hRK
  have ecd : ∀ i, i ≤ mN (σ.1 (x + 233 + 1)) → jct (fun j => ¬ (jHkeep σ (x + 33) (x + 1)).1 (x + 1 + 4 + j) 4 = 2) i = mSc (σ.1 (x + 233 + 1)) i := fun i hi => jct_cg fun j hj => by rw [kf4 hRK (by omega)]
  have hcle : mSc (σ.1 (x + 233 + 1)) (mN (σ.1 (x + 233 + 1))) ≤ mN (σ.1 (x + 233 + 1)) := jct_le _ _
  have hcc : (nI (mSc (σ.1 (x + 233 + 1)) (mN (σ.1 (x + 233 + 1))))).toNatClampNeg = mSc (σ.1 (x + 233 + 1)) (mN (σ.1 (x + 233 + 1))) := nI_clamp (by omega)
  have hN' : mN (mSW (σ.1 (x + 233 + 1))) = mSc (σ.1 (x + 233 + 1)) (mN (σ.1 (x + 233 + 1))) := by unfold mN mSW; rw [jup1_at]; exact hcc
  have s9 : ∀ i, i < mSc (σ.1 (x + 233 + 1)) (mN (σ.1 (x + 233 + 1))) → ∃ j, j < mN (σ.1 (x + 233 + 1)) ∧ mSc (σ.1 (x + 233 + 1)) j = i ∧ (¬ σ.1 (x + 233 + 1) (25 + 9 * j + 3) = 2) ∧ ∀ p, p < 9 → mSW (σ.1 (x + 233 + 1)) (25 + 9 * i + p) = σ.1 (x + 233 + 1) (25 + 9 * j + p) := by
    intro i hi
    obtain ⟨j, h1, h2, h3⟩ := jct_sur hi
    refine ⟨j, h1, h3, h2, fun p hp => ?_⟩
    have h3 : mSc (σ.1 (x + 233 + 1)) j = i := h3
    unfold mSW
    rw [jup1_ne (by omega), ← h3]
    exact mSw_at hp h2 _ h1
  have slo : ∀ k, k < 25 → ¬ k = 0 → mSW (σ.1 (x + 233 + 1)) k = σ.1 (x + 233 + 1) k := fun k h1 h2 => (jup1_ne h2).trans (mSw_lo h1)
  obtain ⟨hO, P, T, D, g1, g2, g3, g4, g5, g6, gr, g7, g8⟩ := hI
  have ek : ∀ i, i < mSc (σ.1 (x + 233 + 1)) (mN (σ.1 (x + 233 + 1))) → ∃ j, j < mN (σ.1 (x + 233 + 1)) ∧ mSc (σ.1 (x + 233 + 1)) j = i ∧ kmk (mSW (σ.1 (x + 233 + 1))) i = kmk (σ.1 (x + 233 + 1)) j ∧ mSW (σ.1 (x + 233 + 1)) (25 + 9 * i + 2) = σ.1 (x + 233 + 1) (25 + 9 * j + 2) := fun i hi => by
    obtain ⟨j, h1, h2, h3, h4⟩ := s9 i hi
    exact ⟨j, h1, h2, by unfold kmk; rw [h4 2 (by decide)], h4 2 (by decide)⟩
  refine ⟨⟨by rw [hN']; unfold mSW; rw [jup1_at], by rw [hN']; omega⟩, P, T, D, by rw [slo 1 (by decide) (by decide)]; exact g1, g2, by rw [slo 3 (by decide) (by decide)]; exact g3, g4, by rw [slo 5 (by decide) (by decide)]; exact g5, by rw [slo 8 (by decide) (by decide)]; exact g6, fun i hi => ?_, fun i hi => ?_, fun i i' hij hj => ?_⟩
  · rw [hN'] at hi
    obtain ⟨j, h1, h2, h3, h4⟩ := s9 i hi
    exact kRo_g (g := fun p => σ.1 (x + 233 + 1) (25 + 9 * j + p)) h4 (gr j h1)
  · rw [hN'] at hi
    obtain ⟨j, h1, h2, h3, h4⟩ := ek i hi
    rw [h3, h4]
    exact g7 j h1
  · rw [hN'] at hj
    obtain ⟨j, h1, h2, h3, h4⟩ := ek i (by omega)
    obtain ⟨j', h1', h2', h3', h4'⟩ := ek i' hj
    rw [h3, h3']
    refine g8 j j' ?_ h1'
    rcases Nat.lt_or_ge j j' with z | z
    · exact z
    · have : mSc (σ.1 (x + 233 + 1)) j' ≤ mSc (σ.1 (x + 233 + 1)) j := jct_mono _ z
      omega
theorem kswp_C (hF : kF G c σ x) : kCop σ (jwI (jmp (jHkeep σ (x + 33) (x + 1)) (x + 1) (mSc (σ.1 (x + 233 + 1)) (mN (σ.1 (x + 233 + 1)))) (jvD (jHkeep σ (x + 33) (x + 1)) (x + 1))) (x + 1) 3 (nI (mSc (σ.1 (x + 233 + 1)) (mN (σ.1 (x + 233 + 1)))))) x := by
  have hR := hF.2.2.1
  have hI := hF.2.2.2.1
  have h24 := hI.1.2
  have hcle : mSc (σ.1 (x + 233 + 1)) (mN (σ.1 (x + 233 + 1))) ≤ mN (σ.1 (x + 233 + 1)) := jct_le _ _
  exact kCop_w (kCop_c (kCop_K σ x) (jmp_2 _ _ _ _) (fun a h1 _ => funext fun k => jmp_out (by omega))) (by omega) (by omega)
theorem kswp_E (hF : kF G c σ x) : Ff_X6_sweep G x σ = (.inl (some (.int (nI (jn (jHkeep σ (x + 33) (x + 1)) (x + 1)) - nI (mSc (σ.1 (x + 233 + 1)) (mN (σ.1 (x + 233 + 1))))))), jwI (jmp (jHkeep σ (x + 33) (x + 1)) (x + 1) (mSc (σ.1 (x + 233 + 1)) (mN (σ.1 (x + 233 + 1)))) (jvD (jHkeep σ (x + 33) (x + 1)) (x + 1))) (x + 1) 3 (nI (mSc (σ.1 (x + 233 + 1)) (mN (σ.1 (x + 233 + 1)))))) := by
  have hR := hF.2.2.1
  have hI := hF.2.2.2.1
  have h24 := hI.1.2
  have hRK := kRK hF
  have hjn := kn hRK
  have ecd : ∀ i, i ≤ mN (σ.1 (x + 233 + 1)) → jct (fun j => ¬ (jHkeep σ (x + 33) (x + 1)).1 (x + 1 + 4 + j) 4 = 2) i = mSc (σ.1 (x + 233 + 1)) i := fun i hi => jct_cg fun j hj => by rw [kf4 hRK (by omega)]
  unfold Ff_X6_sweep Ff_X5_dropDoneRows
  rw [ecd _ (by omega), hjn]
theorem kc_sweep (hF : kF G c σ x) : kRes G (c + 1) σ x [] (Ff_X6_sweep G x σ) (Ff_X7_sweep G (x + 233) (Ff_X6_sweep G x σ).2) := by
  have hR := hF.2.2.1
  have hI := hF.2.2.2.1
  have h24 := hI.1.2
  have hjn := kn (kRK hF)
  have kr := kswp_R hF
  have ki := kswp_I hF
  have hC := kswp_C hF
  have eS := kS1 hF hC
  rw [kswp_E hF]
  generalize jwI (jmp (jHkeep σ (x + 33) (x + 1)) (x + 1) (mSc (σ.1 (x + 233 + 1)) (mN (σ.1 (x + 233 + 1)))) (jvD (jHkeep σ (x + 33) (x + 1)) (x + 1))) (x + 1) 3 (nI (mSc (σ.1 (x + 233 + 1)) (mN (σ.1 (x + 233 + 1))))) = τ at *
  have e7 : Ff_X7_sweep G (x + 233) τ = (.inl (some (.int (σ.1 (x + 233 + 1) 0 - nI (mSc (σ.1 (x + 233 + 1)) (mN (σ.1 (x + 233 + 1))))))), jwS (mKeep (jwI τ (x + 233) 0 0) (x + 233)) (x + 233) (mSW (σ.1 (x + 233 + 1)))) := by
    unfold Ff_X7_sweep
    rw [eS]
  rw [hjn]
  show kRes G (c + 1) σ x _ _ (Ff_X7_sweep G (x + 233) τ)
  rw [e7]
  exact kOp hF hC (kMop_S _ _ _) kr (kI_mono (Nat.le_succ c) ki) (by rw [← hI.1.1])
end KC3
