/-! take, undo, texts, both sides -/
section KC4
variable {G : jgG} {c x : Nat} {σ : jgS}
/-- the table behind a take, on both sides -/
theorem ktk {κ : jgS} {S : Nat → Int32} {p : Nat} {s : jLS} {T : mTT} (hR : kR κ (x + 1) S) (h24 : mN S ≤ 24) (hL : kLT S p (mTot S) s T) : kR (jsS (jwL κ (x + 232) s) (x + 1) (x + 232) (nI p) (mN S)) (x + 1) (jup1 T.1 4 (T.1 4 + T.2.2.2)) := by
  obtain ⟨⟨a1, a2, a3⟩, t1, t2, t3, t4, t5⟩ := hL
  obtain ⟨g1, g2, g3, g4⟩ := hR
  have l0 : (jwL κ (x + 232) s).1 (x + 232) 0 = s.1 := (if_pos ⟨rfl, by decide⟩).trans (if_pos rfl)
  have l2 : (jwL κ (x + 232) s).1 (x + 232) 2 = s.2.2.1 := (if_pos ⟨rfl, by decide⟩).trans ((if_neg (by decide)).trans ((if_neg (by decide)).trans (if_pos rfl)))
  have lo : ∀ a k, ¬ a = x + 232 → (jwL κ (x + 232) s).1 a k = κ.1 a k := fun a k h => jwL_out h
  have lo1 : ∀ k, k < 25 → ¬ k = 4 → jup1 T.1 4 (T.1 4 + T.2.2.2) k = S k := fun k h1 h2 => (jup1_ne h2).trans (t1 k h1)
  have hN : mN (jup1 T.1 4 (T.1 4 + T.2.2.2)) = mN S := by unfold mN; rw [lo1 0 (by decide) (by decide)]
  have htk : ∀ j, j < 24 → (((jwL κ (x + 232) s).1 (x + 232) 0 >>> (nI j &&& 31)) &&& 1 = 1 ↔ bt s.1 j = true) := fun j hj => by rw [l0]; exact b_tst _ hj
  have hsk : ∀ j, j < 24 → (((jwL κ (x + 232) s).1 (x + 232) 2 >>> (nI j &&& 31)) &&& 1 = 1 ↔ bt s.2.2.1 j = true) := fun j hj => by rw [l2]; exact b_tst _ hj
  refine ⟨⟨?_, ?_, ?_, ?_, ?_⟩, fun k hk => ?_, fun r hr q hq => ?_, fun i hi => ?_⟩
  · rw [jsS_h _ _ _ _ _ _ (by decide), lo _ _ (by omega), lo1 0 (by decide) (by decide)]; exact g1.1
  · rw [jsS_h _ _ _ _ _ _ (by decide), lo _ _ (by omega), lo1 3 (by decide) (by decide)]; exact g1.2.1
  · rw [jsS_h _ _ _ _ _ _ (by decide), lo _ _ (by omega), lo1 1 (by decide) (by decide)]; exact g1.2.2.1
  · rw [jsS_h _ _ _ _ _ _ (by decide), lo _ _ (by omega), lo1 2 (by decide) (by decide)]; exact g1.2.2.2.1
  · rw [jsS_h7, lo _ _ (by omega), jup1_at, t1 4 (by decide), ← a3, t5, g1.2.2.2.2]
    refine congrArg (fun z => S 4 + nI z) (jct_cg fun j hj => ?_)
    rw [htk j (by omega), hsk j (by omega)]
  · rw [jsS_3, lo _ _ (by omega), lo1 _ (by omega) (by omega)]; exact g2 k hk
  · have e : (jsS (jwL κ (x + 232) s) (x + 1) (x + 232) (nI p) (mN S)).1 (x + 1 + 28 + r) q = (jwL κ (x + 232) s).1 (x + 1 + 28 + r) q := by
      unfold jsS
      rw [jmp_out (by omega), jI_wI, if_neg (by omega)]
    rw [e, lo _ _ (by omega), lo1 _ (by omega) (by omega)]; exact g3 r hr q hq
  · rw [hN] at hi
    have er : ∀ k, k < 9 → (jsS (jwL κ (x + 232) s) (x + 1) (x + 232) (nI p) (mN S)).1 (x + 1 + 4 + i) k = jvS (jwL κ (x + 232) s) (x + 1) (x + 232) (nI p) i k := fun k hk => jmp_in hi hk
    have es : ∀ q, q < 9 → jup1 T.1 4 (T.1 4 + T.2.2.2) (25 + 9 * i + q) = kLc S p s i q := fun q hq => (jup1_ne (by omega)).trans (t2 i q (by omega) hq)
    have hrow := g4 i hi
    by_cases h1 : bt s.1 i = true
    · have h1' := (htk i (by omega)).mpr h1
      have ev : ∀ k, jvS (jwL κ (x + 232) s) (x + 1) (x + 232) (nI p) i k = if k = 4 then 1 else if k = 5 then nI p else if k = 6 then S 3 + S 5 else κ.1 (x + 1 + 4 + i) k := fun k => by
        unfold jvS
        rw [if_pos h1', lo _ _ (by omega), lo _ _ (by omega), lo _ _ (by omega), g1.2.1, g2 0 (by decide)]
      have ec : ∀ q, kLc S p s i q = if q = 3 then 1 else if q = 4 then nI p else if q = 5 then S 3 + S 5 else S (25 + 9 * i + q) := fun q => if_pos h1
      obtain ⟨r0, r1, r2, r3, r4, r5, r6, r7, r8⟩ := hrow
      refine kRw_g (g := fun q => if q = 3 then 1 else if q = 4 then nI p else if q = 5 then S 3 + S 5 else S (25 + 9 * i + q)) (fun q hq => (es q hq).trans (ec q)) (kRw_f (f := fun k => if k = 4 then 1 else if k = 5 then nI p else if k = 6 then S 3 + S 5 else κ.1 (x + 1 + 4 + i) k) (fun k hk => (er k hk).trans (ev k)) ?_)
      exact ⟨r0, r1, r2, r3, rfl, rfl, rfl, r7, r8⟩
    · have h1' := fun z => h1 ((htk i (by omega)).mp z)
      by_cases h2 : bt s.2.2.1 i = true
      · have h2' := (hsk i (by omega)).mpr h2
        have ev : ∀ k, jvS (jwL κ (x + 232) s) (x + 1) (x + 232) (nI p) i k = if k = 8 then κ.1 (x + 1 + 4 + i) 8 + 1 else κ.1 (x + 1 + 4 + i) k := fun k => by
          unfold jvS
          rw [if_neg h1', if_pos h2', lo _ _ (by omega), lo _ _ (by omega)]
        have ec : ∀ q, kLc S p s i q = if q = 7 then S (25 + 9 * i + 7) + 1 else S (25 + 9 * i + q) := fun q => by
          unfold kLc
          rw [if_neg h1]
          by_cases z : q = 7
          · rw [if_pos ⟨h2, z⟩, if_pos z]
          · rw [if_neg (fun y => z y.2), if_neg z]
        obtain ⟨r0, r1, r2, r3, r4, r5, r6, r7, r8⟩ := hrow
        refine kRw_g (g := fun q => if q = 7 then S (25 + 9 * i + 7) + 1 else S (25 + 9 * i + q)) (fun q hq => (es q hq).trans (ec q)) (kRw_f (f := fun k => if k = 8 then κ.1 (x + 1 + 4 + i) 8 + 1 else κ.1 (x + 1 + 4 + i) k) (fun k hk => (er k hk).trans (ev k)) ?_)
        exact ⟨r0, r1, r2, r3, r4, r5, r6, r7, congrArg (fun z => z + 1) r8⟩
      · have h2' := fun z => h2 ((hsk i (by omega)).mp z)
        refine kRw_g (g := fun q => S (25 + 9 * i + q)) (fun q hq => (es q hq).trans ?_) (kRw_f (f := κ.1 (x + 1 + 4 + i)) (fun k hk => (er k hk).trans ?_) hrow)
        · unfold kLc
          rw [if_neg h1, if_neg (fun z => h2 z.1)]
        · unfold jvS
          rw [if_neg h1', if_neg h2', lo _ _ (by omega)]
theorem ktkI {S : Nat → Int32} {p : Nat} {s : jLS} {T : mTT} (hc : c ≤ 600) (hI : kI c S) (hp : p < 4) (hL : kLT S p (mTot S) s T) : kI (c + 1) (jup1 T.1 4 (T.1 4 + T.2.2.2)) := by
  obtain ⟨⟨a1, a2, a3⟩, t1, t2, t3, t4, t5⟩ := hL
  obtain ⟨hO, P, Tm, D, g1, g2, g3, g4, g5, g6, gr, g7, g8⟩ := hI
  have h24 := hO.2
  have lo1 : ∀ k, k < 25 → ¬ k = 4 → jup1 T.1 4 (T.1 4 + T.2.2.2) k = S k := fun k h1 h2 => (jup1_ne h2).trans (t1 k h1)
  have hN : mN (jup1 T.1 4 (T.1 4 + T.2.2.2)) = mN S := by unfold mN; rw [lo1 0 (by decide) (by decide)]
  have es : ∀ i q, i < mN S → q < 9 → jup1 T.1 4 (T.1 4 + T.2.2.2) (25 + 9 * i + q) = kLc S p s i q := fun i q hi hq => (jup1_ne (by omega)).trans (t2 i q (by omega) hq)
  have ec2 : ∀ i q, ¬ q = 3 → ¬ q = 4 → ¬ q = 5 → ¬ q = 7 → kLc S p s i q = S (25 + 9 * i + q) := fun i q h3 h4 h5 h7 => by
    unfold kLc
    by_cases z : bt s.1 i = true
    · rw [if_pos z, if_neg h3, if_neg h4, if_neg h5]
    · rw [if_neg z, if_neg (fun y => h7 y.2)]
  have ek : ∀ i, i < mN S → kmk (jup1 T.1 4 (T.1 4 + T.2.2.2)) i = kmk S i := fun i hi => by unfold kmk; rw [es i 2 hi (by decide), ec2 i 2 (by decide) (by decide) (by decide) (by decide)]
  refine ⟨⟨by rw [hN, lo1 0 (by decide) (by decide)]; exact hO.1, by rw [hN]; exact hO.2⟩, P, Tm, D, by rw [lo1 1 (by decide) (by decide)]; exact g1, by omega, by rw [lo1 3 (by decide) (by decide)]; exact g3, g4, by rw [lo1 5 (by decide) (by decide)]; exact g5, by rw [lo1 8 (by decide) (by decide)]; exact g6, fun i hi => ?_, fun i hi => ?_, fun i j hij hj => ?_⟩
  · rw [hN] at hi
    refine kRo_g (g := kLc S p s i) (fun q hq => es i q hi hq) ?_
    obtain ⟨r0, r1, r3, rh, r7⟩ := gr i hi
    have e0 := ec2 i 0 (by decide) (by decide) (by decide) (by decide)
    have e1 := ec2 i 1 (by decide) (by decide) (by decide) (by decide)
    unfold kRo
    rw [e0, e1]
    by_cases h1 : bt s.1 i = true
    · have e3 : kLc S p s i 3 = 1 := (if_pos h1).trans (if_pos rfl)
      have e4 : kLc S p s i 4 = nI p := (if_pos h1).trans ((if_neg (by decide)).trans (if_pos rfl))
      have e5 : kLc S p s i 5 = nI (Tm + D) := (if_pos h1).trans ((if_neg (by decide)).trans ((if_neg (by decide)).trans ((if_pos rfl).trans (by rw [g3, g5.1, nI_add]))))
      have e7 : kLc S p s i 7 = S (25 + 9 * i + 7) := (if_pos h1).trans ((if_neg (by decide)).trans ((if_neg (by decide)).trans (if_neg (by decide))))
      rw [e3, e4, e5, e7]
      exact ⟨r0, r1, vp_in_nI (n := 1) (by decide) (by decide), fun _ => ⟨vp_in_nI hp (by decide), Tm + D, rfl, by omega, by omega⟩, vp_in_mono (by omega) r7⟩
    · have eo : ∀ q, ¬ q = 7 → kLc S p s i q = S (25 + 9 * i + q) := fun q h7 => by
        unfold kLc
        rw [if_neg h1, if_neg (fun z => h7 z.2)]
      rw [eo 3 (by decide), eo 4 (by decide), eo 5 (by decide)]
      refine ⟨r0, r1, r3, rh, ?_⟩
      unfold kLc
      rw [if_neg h1]
      by_cases h2 : bt s.2.2.1 i = true
      · rw [if_pos ⟨h2, rfl⟩]
        obtain ⟨m, hm, em⟩ := vp_in_of r7 (by omega)
        have em : S (25 + 9 * i + 7) = nI m := em
        rw [em, nI_1]
        exact vp_in_nI (by omega) (by omega)
      · rw [if_neg (fun z => h2 z.1)]
        exact vp_in_mono (by omega) r7
  · rw [hN] at hi
    rw [ek i hi, es i 2 hi (by decide), ec2 i 2 (by decide) (by decide) (by decide) (by decide)]
    exact g7 i hi
  · rw [hN] at hj
    rw [ek i (by omega), ek j hj]
    exact g8 i j hij hj
theorem kMop_T (σ : jgS) (m r : Nat) (M : Int32) (S' : Nat → Int32) (e : mTS ((mKeep (jwI σ m 0 0) m).1 (m + 1)) r M = S') : kMop σ (mTk (mKeep (jwI σ m 0 0) m) m r M) m S' := by
  have o : ∀ a k, ¬ a = m + 1 → ¬ a = m + 5 → ¬ (a = m ∧ (k = 8 ∨ k = 9 ∨ k = 10)) → (mTk (mKeep (jwI σ m 0 0) m) m r M).1 a k = (mKeep (jwI σ m 0 0) m).1 a k := fun a k h1 h2 h3 => mTk_ne h1 h2 h3
  have o2 : ∀ a k, ¬ (a = m ∧ k = 4) → ¬ a = m + 3 → ¬ (a = m ∧ k = 0) → (mKeep (jwI σ m 0 0) m).1 a k = σ.1 a k := fun a k h1 h2 h3 => by rw [mKp_ne h1 h2, jI_wI, if_neg h3]
  refine ⟨rfl, fun a ha => funext fun k => by rw [o a k (by omega) (by omega) (by omega), o2 a k (by omega) (by omega) (by omega)], (mTk_S _ _ _ _).trans e, fun k => o _ _ (by omega) (by omega) (by omega), o m 4 (by omega) (by omega) (by omega), by rw [o m 6 (by omega) (by omega) (by omega), o2 m 6 (by omega) (by omega) (by omega)], funext fun k => by rw [o _ k (by omega) (by omega) (by omega), o2 _ k (by omega) (by omega) (by omega)], ?_⟩
  rw [o m 0 (by omega) (by omega) (by omega), mKp_ne (by omega) (by omega), jI_wI, if_pos ⟨rfl, rfl⟩]
theorem kc_take (hF : kF G c σ x) (hc : c ≤ 600) (r m : Int32) : kRes G (c + 1) σ x ["java/lang/IndexOutOfBoundsException", "java/lang/IllegalArgumentException"] (Ff_X6_take G x r m σ) (Ff_X7_take G (x + 233) r m (Ff_X6_take G x r m σ).2) := by
  have hR := hF.2.2.1
  have hI := hF.2.2.2.1
  have h24 := hI.1.2
  unfold Ff_X6_take
  by_cases c1 : r < 0 ∨ ¬ r < 4
  · rw [if_pos c1]
    unfold Ff_X7_take
    rw [if_pos ((kr4 r).mp c1)]
    exact kTh (i := 0) hF rfl rfl
  rw [if_neg c1]
  obtain ⟨p, hp, rfl, hpc⟩ := kr4_q c1
  have n1 : ¬ ¬ (¬ nI p < 0 ∧ ¬ 3 < nI p) := fun z => c1 ((kr4 (nI p)).mpr z)
  rw [hpc]
  by_cases c2 : m < 1 ∨ 24 < m
  · rw [if_pos c2]
    unfold Ff_X7_take
    rw [if_neg n1, if_pos (fun z => c2.elim z.1 z.2)]
    exact kTh (i := 1) hF rfl rfl
  rw [if_neg c2]
  have n2 : ¬ ¬ (¬ m < 1 ∧ ¬ 24 < m) := fun z => z ⟨fun w => c2 (Or.inl w), fun w => c2 (Or.inr w)⟩
  have hRK := kRK hF
  have hL := klk hRK hI hp m
  have hjn := kn hRK
  generalize hs : jLG (jHkeep σ (x + 33) (x + 1)) (x + 1) p (jroom (jHkeep σ (x + 33) (x + 1)) (x + 1) (nI p) m) (jct (fun j => (jHkeep σ (x + 33) (x + 1)).1 (x + 1 + 4 + j) 4 = 0 ∨ (jHkeep σ (x + 33) (x + 1)).1 (x + 1 + 4 + j) 4 = 1) (jn (jHkeep σ (x + 33) (x + 1)) (x + 1))) = s at *
  have ea : (Ff_X2_along G (x + 232) (x + 1) (nI p) m (jHkeep σ (x + 33) (x + 1))).2 = jwL (jHkeep σ (x + 33) (x + 1)) (x + 232) s := by
    unfold Ff_X2_along
    rw [hpc, hs]
  have eh : (Ff_X5_holdAndSkip G (x + 1) (nI p) (x + 232) (jwL (jHkeep σ (x + 33) (x + 1)) (x + 232) s)).2 = jsS (jwL (jHkeep σ (x + 33) (x + 1)) (x + 232) s) (x + 1) (x + 232) (nI p) (mN (σ.1 (x + 233 + 1))) := by
    unfold Ff_X5_holdAndSkip
    have e : jn (jwL (jHkeep σ (x + 33) (x + 1)) (x + 232) s) (x + 1) = mN (σ.1 (x + 233 + 1)) := by unfold jn; rw [jwL_out (by omega)]; exact hjn
    rw [e]
  rw [ea, eh]
  have hC : kCop σ (jsS (jwL (jHkeep σ (x + 33) (x + 1)) (x + 232) s) (x + 1) (x + 232) (nI p) (mN (σ.1 (x + 233 + 1)))) x := by
    refine kCop_c (kCop_K σ x) ((jsS_2 _ _ _ _ _).trans (jwL_2 _ _ _)) (fun a h1 h2 => funext fun k => ?_)
    unfold jsS
    rw [jmp_out (by omega), jI_wI, if_neg (by omega), jwL_out h2]
  have eS := kS1 hF hC
  have kr := ktk hRK h24 hL
  have ki := ktkI hc hI hp hL
  generalize jsS (jwL (jHkeep σ (x + 33) (x + 1)) (x + 232) s) (x + 1) (x + 232) (nI p) (mN (σ.1 (x + 233 + 1))) = τ at *
  have e7 : Ff_X7_take G (x + 233) (nI p) m τ = (.inl (some (.int (mTG (σ.1 (x + 233 + 1)) p (mroom (σ.1 (x + 233 + 1)) (nI p) m) (mTot (σ.1 (x + 233 + 1)))).2.1)), mTk (mKeep (jwI τ (x + 233) 0 0) (x + 233)) (x + 233) p (mroom (σ.1 (x + 233 + 1)) (nI p) m)) := by
    unfold Ff_X7_take
    rw [eS, hpc, if_neg n1, if_neg n2]
  show kRes G (c + 1) σ x _ _ (Ff_X7_take G (x + 233) (nI p) m τ)
  rw [e7]
  refine kOp hF hC (kMop_T _ _ _ _ _ ?_) kr ki hL.1.1
  rw [mKp_S, mth_S, eS]
  rfl
/-- like kF_ro, with another text -/
theorem kF_bf {τ : jgS} {d : Nat} (hF : kF G c σ x) (hcd : c ≤ d) (hE : kE σ τ) (h1 : ∀ a, a < x + 227 → τ.1 a = σ.1 a) (hb1 : vp_in (τ.1 (x + 227) 1) 61) (hb2 : τ.1 (x + 227) 1 = τ.1 (x + 233) 6) (hb3 : τ.1 (x + 227 + 1) = τ.1 (x + 233 + 4)) (h4 : τ.1 (x + 233) 4 = σ.1 (x + 233) 4) (h6 : τ.1 (x + 233 + 1) = σ.1 (x + 233 + 1)) (h7 : τ.1 (x + 233 + 3) = σ.1 (x + 233 + 3)) : kF G d τ x := by
  refine kF_mono hcd ?_
  obtain ⟨g1, g2, g3, g4, ⟨g5, g5'⟩, g6, g7⟩ := hF
  have hH : τ.1 (x + 33) = σ.1 (x + 33) := h1 _ (by omega)
  have hn24 := g4.1.2
  have r1 : kR τ (x + 1) (σ.1 (x + 233 + 1)) := kR_cg (fun a _ _ => h1 a (by omega)) hn24 g3
  have ez : jHz τ (x + 33) = jHz σ (x + 33) := by unfold jHz; rw [hH]
  have eo : jHo τ (x + 33) = jHo σ (x + 33) := by unfold jHo; rw [hH]
  refine ⟨jSR_mk (S := σ.1 (x + 233 + 1)) g1 hE r1 g4 (fun i hi => ?_) (by rw [hH]; exact g1.2.2.1.2.2.2.1) (by rw [hH]; exact g1.2.2.1.2.2.2.2) hb1, by rw [hE.1, hE.2]; exact g2, by rw [h6]; exact r1, by rw [h6]; exact g4, ⟨by rw [hH, h4]; exact g5, fun j hj => ?_⟩, hb2, hb3⟩
  · have e := h1 (x + 33 + 2 + 32 * i) (by omega)
    unfold jn
    rw [e]
    exact (g1.2.2.1.2.2.1 i hi).2
  · rw [ez] at hj
    obtain ⟨q1, q2⟩ := g5' j hj
    rw [eo, h7]
    exact ⟨kR_cg (fun a _ ha => h1 a (by omega)) q2.1.2 q1, q2⟩
theorem kc_append (hF : kF G c σ x) (v : Int32) : kRes G (c + 1) σ x ["java/lang/IllegalArgumentException", "java/lang/IllegalStateException"] (Ff_X6_append G x v σ) (Ff_X7_append G (x + 233) v (Ff_X6_append G x v σ).2) := by
  have e6 := hF.2.2.2.2.2.1
  have e7 := hF.2.2.2.2.2.2
  have hbl := hF.1.2.2.2.1.2.2.2
  obtain ⟨l, hl61, hl⟩ := vp_in_of hbl (by decide)
  have hlm : σ.1 (x + 233) 6 = nI l := e6.symm.trans hl
  have hlc : (nI l).toNatClampNeg = l := nI_clamp (by omega)
  have hB : jBn σ (x + 227) = l := by unfold jBn; rw [hl]; exact hlc
  unfold Ff_X6_append
  by_cases c1 : v < 33 ∨ 126 < v
  · rw [if_pos c1]
    unfold Ff_X7_append
    rw [if_pos (fun z => c1.elim z.1 z.2)]
    exact kTh (i := 0) hF rfl rfl
  rw [if_neg c1]
  have n1 : ¬ ¬ (¬ v < 33 ∧ ¬ 126 < v) := fun z => z ⟨fun w => c1 (Or.inl w), fun w => c1 (Or.inr w)⟩
  have e60 : σ.1 (x + 227) 1 < 60 ↔ ¬ σ.1 (x + 233) 6 = 60 := by
    rw [hl, hlm, show (60 : Int32) = nI 60 from rfl, nI_ltI (by omega) (by decide)]
    constructor
    · intro z y
      have := nI_inj (by omega) (by decide) y
      omega
    · intro z
      rcases Nat.lt_or_ge l 60 with y | y
      · exact y
      · exact absurd (by rw [show l = 60 by omega]) z
  by_cases c2 : σ.1 (x + 227) 1 < 60
  · rw [if_pos c2]
    have eC : (Ff_X0_addCode G (x + 227) v σ).2 = jwI (jwI σ (x + 227 + 1) l v) (x + 227) 1 (nI l + 1) := by
      unfold Ff_X0_addCode
      rw [hB]
    have hl60 : l < 60 := by
      rw [hl, show (60 : Int32) = nI 60 from rfl, nI_ltI (by omega) (by decide)] at c2
      exact c2
    rw [eC, hB]
    have s6 : (jwI (jwI σ (x + 227 + 1) l v) (x + 227) 1 (nI l + 1)).1 (x + 233) 6 = nI l := by rw [jI_wI, if_neg (by omega), jI_wI, if_neg (by omega)]; exact hlm
    have e9 : Ff_X7_append G (x + 233) v (jwI (jwI σ (x + 227 + 1) l v) (x + 227) 1 (nI l + 1)) = (.inl (some (.int (nI l + 1))), jwI (jwI (jwI (jwI (jwI σ (x + 227 + 1) l v) (x + 227) 1 (nI l + 1)) (x + 233) 0 0) (x + 233 + 4) l v) (x + 233) 6 (nI l + 1)) := by
      unfold Ff_X7_append mLn
      rw [s6, if_neg n1, if_neg (by rw [← hlm]; exact e60.mp c2), hlc]
    show kRes G (c + 1) σ x _ _ (Ff_X7_append G (x + 233) v (jwI (jwI σ (x + 227 + 1) l v) (x + 227) 1 (nI l + 1)))
    rw [e9]
    refine ⟨Or.inl ⟨nI l + 1, rfl, rfl, ?_⟩, ⟨Or.inl rfl, fun a ha => funext fun k => ?_⟩, rfl, ?_⟩
    · show (jwI _ (x + 233) 6 (nI l + 1)).1 (x + 233) 0 = 0
      rw [jI_wI, if_neg (by omega), jI_wI, if_neg (by omega), jI_wI, if_pos ⟨rfl, rfl⟩]
    · show (jwI (jwI σ (x + 227 + 1) l v) (x + 227) 1 (nI l + 1)).1 a k = σ.1 a k
      rw [jI_wI, if_neg (by omega), jI_wI, if_neg (by omega)]
    · show kF G (c + 1) (jwI (jwI (jwI (jwI (jwI σ (x + 227 + 1) l v) (x + 227) 1 (nI l + 1)) (x + 233) 0 0) (x + 233 + 4) l v) (x + 233) 6 (nI l + 1)) x
      have b1 : (jwI (jwI (jwI (jwI (jwI σ (x + 227 + 1) l v) (x + 227) 1 (nI l + 1)) (x + 233) 0 0) (x + 233 + 4) l v) (x + 233) 6 (nI l + 1)).1 (x + 227) 1 = nI l + 1 := by rw [jI_wI, if_neg (by omega), jI_wI, if_neg (by omega), jI_wI, if_neg (by omega), jI_wI, if_pos ⟨rfl, rfl⟩]
      refine kF_bf hF (Nat.le_succ c) (kE_2 rfl) (fun a ha => funext fun k => ?_) (by rw [b1, nI_1]; exact vp_in_nI (by omega) (by decide)) (by rw [b1, jI_wI, if_pos ⟨rfl, rfl⟩]) (funext fun k => ?_) ?_ (funext fun k => ?_) (funext fun k => ?_)
      · rw [jI_wI, if_neg (by omega), jI_wI, if_neg (by omega), jI_wI, if_neg (by omega), jI_wI, if_neg (by omega), jI_wI, if_neg (by omega)]
      · have eL : (jwI (jwI (jwI (jwI (jwI σ (x + 227 + 1) l v) (x + 227) 1 (nI l + 1)) (x + 233) 0 0) (x + 233 + 4) l v) (x + 233) 6 (nI l + 1)).1 (x + 227 + 1) k = if k = l then v else σ.1 (x + 227 + 1) k := by
          have m1 : ¬ (x + 227 + 1 = x + 233 ∧ k = 6) := by omega
          have m2 : ¬ (x + 227 + 1 = x + 233 + 4 ∧ k = l) := by omega
          have m3 : ¬ (x + 227 + 1 = x + 233 ∧ k = 0) := by omega
          have m4 : ¬ (x + 227 + 1 = x + 227 ∧ k = 1) := by omega
          rw [jI_wI, if_neg m1, jI_wI, if_neg m2, jI_wI, if_neg m3, jI_wI, if_neg m4, jI_wI]
          by_cases z : k = l
          · rw [if_pos ⟨rfl, z⟩, if_pos z]
          · rw [if_neg (fun y => z y.2), if_neg z]
        have eR : (jwI (jwI (jwI (jwI (jwI σ (x + 227 + 1) l v) (x + 227) 1 (nI l + 1)) (x + 233) 0 0) (x + 233 + 4) l v) (x + 233) 6 (nI l + 1)).1 (x + 233 + 4) k = if k = l then v else σ.1 (x + 233 + 4) k := by
          have m1 : ¬ (x + 233 + 4 = x + 233 ∧ k = 6) := by omega
          have m3 : ¬ (x + 233 + 4 = x + 233 ∧ k = 0) := by omega
          have m4 : ¬ (x + 233 + 4 = x + 227 ∧ k = 1) := by omega
          have m5 : ¬ (x + 233 + 4 = x + 227 + 1 ∧ k = l) := by omega
          rw [jI_wI, if_neg m1, jI_wI]
          by_cases z : k = l
          · rw [if_pos ⟨rfl, z⟩, if_pos z]
          · rw [if_neg (fun y => z y.2), if_neg z, jI_wI, if_neg m3, jI_wI, if_neg m4, jI_wI, if_neg m5]
        rw [eL, eR, e7]
      · rw [jI_wI, if_neg (by omega), jI_wI, if_neg (by omega), jI_wI, if_neg (by omega), jI_wI, if_neg (by omega), jI_wI, if_neg (by omega)]
      · rw [jI_wI, if_neg (by omega), jI_wI, if_neg (by omega), jI_wI, if_neg (by omega), jI_wI, if_neg (by omega), jI_wI, if_neg (by omega)]
      · rw [jI_wI, if_neg (by omega), jI_wI, if_neg (by omega), jI_wI, if_neg (by omega), jI_wI, if_neg (by omega), jI_wI, if_neg (by omega)]
  · rw [if_neg c2]
    show kRes G (c + 1) σ x _ _ (Ff_X7_append G (x + 233) v (jwh σ 6))
    unfold Ff_X7_append
    rw [if_neg n1, if_pos (show (jwh σ 6).1 (x + 233) 6 = 60 from Classical.byContradiction fun z => c2 (e60.mpr z))]
    exact kTh (i := 1) hF rfl rfl
theorem kc_clearBuffer (hF : kF G c σ x) : kRes G (c + 1) σ x [] (Ff_X6_clearBuffer G x σ) (Ff_X7_clearBuffer G (x + 233) (Ff_X6_clearBuffer G x σ).2) := by
  have e6 := hF.2.2.2.2.2.1
  have e7 := hF.2.2.2.2.2.2
  have s6 : (jwI σ (x + 227) 1 0).1 (x + 233) 6 = σ.1 (x + 227) 1 := by rw [jI_wI, if_neg (by omega)]; exact e6.symm
  have e9 : Ff_X7_clearBuffer G (x + 233) (jwI σ (x + 227) 1 0) = (.inl (some (.int (σ.1 (x + 227) 1))), jwI (jwI (jwI σ (x + 227) 1 0) (x + 233) 0 0) (x + 233) 6 0) := by
    unfold Ff_X7_clearBuffer
    rw [s6]
  show kRes G (c + 1) σ x _ (.inl (some (.int (σ.1 (x + 227) 1))), jwI σ (x + 227) 1 0) (Ff_X7_clearBuffer G (x + 233) (jwI σ (x + 227) 1 0))
  rw [e9]
  refine ⟨Or.inl ⟨_, rfl, rfl, ?_⟩, ⟨Or.inl rfl, fun a ha => funext fun k => ?_⟩, rfl, ?_⟩
  · show (jwI _ (x + 233) 6 0).1 (x + 233) 0 = 0
    rw [jI_wI, if_neg (by omega), jI_wI, if_pos ⟨rfl, rfl⟩]
  · show (jwI σ (x + 227) 1 0).1 a k = σ.1 a k
    rw [jI_wI, if_neg (by omega)]
  · show kF G (c + 1) (jwI (jwI (jwI σ (x + 227) 1 0) (x + 233) 0 0) (x + 233) 6 0) x
    have b1 : (jwI (jwI (jwI σ (x + 227) 1 0) (x + 233) 0 0) (x + 233) 6 0).1 (x + 227) 1 = 0 := by rw [jI_wI, if_neg (by omega), jI_wI, if_neg (by omega), jI_wI, if_pos ⟨rfl, rfl⟩]
    refine kF_bf hF (Nat.le_succ c) (kE_2 rfl) (fun a ha => funext fun k => ?_) (by rw [b1]; exact vp_in_nI (n := 0) (by decide) (by decide)) (by rw [b1, jI_wI, if_pos ⟨rfl, rfl⟩]) (funext fun k => ?_) ?_ (funext fun k => ?_) (funext fun k => ?_)
    · rw [jI_wI, if_neg (by omega), jI_wI, if_neg (by omega), jI_wI, if_neg (by omega)]
    · rw [jI_wI, if_neg (by omega), jI_wI, if_neg (by omega), jI_wI, if_neg (by omega), jI_wI, if_neg (by omega), jI_wI, if_neg (by omega), jI_wI, if_neg (by omega), e7]
    · rw [jI_wI, if_neg (by omega), jI_wI, if_neg (by omega), jI_wI, if_neg (by omega)]
    · rw [jI_wI, if_neg (by omega), jI_wI, if_neg (by omega), jI_wI, if_neg (by omega)]
    · rw [jI_wI, if_neg (by omega), jI_wI, if_neg (by omega), jI_wI, if_neg (by omega)]
theorem kc_undo (hF : kF G c σ x) : kRes G (c + 1) σ x ["java/lang/IllegalStateException"] (Ff_X6_undo G x σ) (Ff_X7_undo G (x + 233) (Ff_X6_undo G x σ).2) := by
  obtain ⟨g1, g2, g3, g4, ⟨g5, g5'⟩, g6, g7⟩ := id hF
  obtain ⟨_, hT, ⟨c1, c2, c3, c4, c5⟩, _⟩ := id g1
  obtain ⟨z, hz, ez⟩ := vp_in_of c5 (by decide)
  have hz' : jHz σ (x + 33) = z := by unfold jHz; rw [ez]; exact nI_clamp (by omega)
  have em : σ.1 (x + 233) 4 = nI z := g5.symm.trans ez
  unfold Ff_X6_undo
  by_cases d1 : σ.1 (x + 33) 2 = 0
  · rw [if_pos d1]
    show kRes G (c + 1) σ x _ _ (Ff_X7_undo G (x + 233) (jwh σ 6))
    unfold Ff_X7_undo
    rw [if_pos (show (jwh σ 6).1 (x + 233) 4 = 0 from g5.symm.trans d1)]
    exact kTh (i := 0) hF rfl rfl
  rw [if_neg d1, hz']
  have hz0 : 0 < z := by
    rcases Nat.eq_zero_or_pos z with y | y
    · exact absurd (by rw [ez, y]; rfl) d1
    · exact y
  obtain ⟨q1, q2⟩ := g5' (z - 1) (by omega)
  generalize hsl : (jHo σ (x + 33) + (z - 1)) % 6 = s at *
  have hs6 : s < 6 := by omega
  have eb : jHback σ (x + 33) (x + 1) = jcp (jwI σ (x + 33) 2 (nI (z - 1))) (x + 33 + 2 + 32 * s) (x + 1) (jn σ (x + 33 + 2 + 32 * s)) 4 4 5 := by
    unfold jHback
    rw [hz', hsl]
  rw [eb]
  have hn := (c3 s hs6).2.2
  have hr0 : kR (jwI σ (x + 33) 2 (nI (z - 1))) (x + 33 + 2 + 32 * s) (fun k => σ.1 (x + 233 + 3) (241 * (z - 1) + k)) := kR_cg (fun a h1 h2 => funext fun k => by rw [jI_wI, if_neg (by omega)]) q2.1.2 q1
  have hjn : jn (jwI σ (x + 33) 2 (nI (z - 1))) (x + 33 + 2 + 32 * s) = jn σ (x + 33 + 2 + 32 * s) := by rw [kn hr0, kn q1]
  have hr1 := kR_cp (h := x + 1) q2.1.2 (by omega) hr0
  rw [hjn] at hr1
  have o1 : ∀ a, ¬ (x + 1 ≤ a ∧ a < x + 33) → ¬ a = x + 33 → (jcp (jwI σ (x + 33) 2 (nI (z - 1))) (x + 33 + 2 + 32 * s) (x + 1) (jn σ (x + 33 + 2 + 32 * s)) 4 4 5).1 a = σ.1 a := fun a h1 h2 => funext fun k => by rw [jcp_n (by omega) hn, jI_wI, if_neg (fun y => h2 y.1)]
  have oH : ∀ k, (jcp (jwI σ (x + 33) 2 (nI (z - 1))) (x + 33 + 2 + 32 * s) (x + 1) (jn σ (x + 33 + 2 + 32 * s)) 4 4 5).1 (x + 33) k = if k = 2 then nI (z - 1) else σ.1 (x + 33) k := fun k => by
    rw [jcp_n (by omega) hn, jI_wI]
    by_cases y : k = 2
    · rw [if_pos ⟨rfl, y⟩, if_pos y]
    · rw [if_neg (fun w => y w.2), if_neg y]
  have o2 := jcp_2 (jwI σ (x + 33) 2 (nI (z - 1))) (x + 33 + 2 + 32 * s) (x + 1) (jn σ (x + 33 + 2 + 32 * s)) 4 4 5
  generalize jcp (jwI σ (x + 33) 2 (nI (z - 1))) (x + 33 + 2 + 32 * s) (x + 1) (jn σ (x + 33 + 2 + 32 * s)) 4 4 5 = τ at *
  have o2 : τ.2 = σ.2 := o2
  have t4 : τ.1 (x + 233) 4 = nI z := by rw [o1 _ (by omega) (by omega)]; exact em
  have tz : mz τ (x + 233) = z := by unfold mz; rw [t4]; exact nI_clamp (by omega)
  have e9 : Ff_X7_undo G (x + 233) τ = (.inl (some (.int (nI (z - 1)))), jcc (jwI (jwI τ (x + 233) 0 0) (x + 233) 4 (nI (z - 1))) (x + 233 + 3) (241 * (z - 1)) (x + 233 + 1) 0 241) := by
    unfold Ff_X7_undo
    rw [tz, t4, if_neg (fun y => d1 (by rw [ez]; exact y))]
  show kRes G (c + 1) σ x _ _ (Ff_X7_undo G (x + 233) τ)
  rw [e9]
  have w1 : ∀ a k, ¬ a = x + 233 + 1 → ¬ (a = x + 233 ∧ k = 4) → ¬ (a = x + 233 ∧ k = 0) → (jcc (jwI (jwI τ (x + 233) 0 0) (x + 233) 4 (nI (z - 1))) (x + 233 + 3) (241 * (z - 1)) (x + 233 + 1) 0 241).1 a k = τ.1 a k := fun a k h1 h2 h3 => by rw [jcc_ne h1, jI_wI, if_neg h2, jI_wI, if_neg h3]
  have w4 : (jcc (jwI (jwI τ (x + 233) 0 0) (x + 233) 4 (nI (z - 1))) (x + 233 + 3) (241 * (z - 1)) (x + 233 + 1) 0 241).1 (x + 233) 4 = nI (z - 1) := by rw [jcc_ne (by omega), jI_wI, if_pos ⟨rfl, rfl⟩]
  have w0 : (jcc (jwI (jwI τ (x + 233) 0 0) (x + 233) 4 (nI (z - 1))) (x + 233 + 3) (241 * (z - 1)) (x + 233 + 1) 0 241).1 (x + 233) 0 = 0 := by rw [jcc_ne (by omega), jI_wI, if_neg (by omega), jI_wI, if_pos ⟨rfl, rfl⟩]
  have wS : ∀ k, k < 241 → (jcc (jwI (jwI τ (x + 233) 0 0) (x + 233) 4 (nI (z - 1))) (x + 233 + 3) (241 * (z - 1)) (x + 233 + 1) 0 241).1 (x + 233 + 1) k = σ.1 (x + 233 + 3) (241 * (z - 1) + k) := fun k hk => by
    have e : (jcc (jwI (jwI τ (x + 233) 0 0) (x + 233) 4 (nI (z - 1))) (x + 233 + 3) (241 * (z - 1)) (x + 233 + 1) 0 241).1 (x + 233 + 1) k = (jwI (jwI τ (x + 233) 0 0) (x + 233) 4 (nI (z - 1))).1 (x + 233 + 3) (k - 0 + 241 * (z - 1)) := if_pos ⟨rfl, Nat.zero_le _, by omega⟩
    rw [e, jI_wI, if_neg (by omega), jI_wI, if_neg (by omega), o1 _ (by omega) (by omega)]
    exact congrArg _ (by omega)
  have w2 : (jcc (jwI (jwI τ (x + 233) 0 0) (x + 233) 4 (nI (z - 1))) (x + 233 + 3) (241 * (z - 1)) (x + 233 + 1) 0 241).2 = τ.2 := jcc_2 _ _ _ _ _ _
  refine ⟨Or.inl ⟨_, rfl, rfl, w0⟩, ⟨Or.inl o2, fun a ha => o1 a (by omega) (by omega)⟩, w2, ?_⟩
  dsimp only
  generalize jcc (jwI (jwI τ (x + 233) 0 0) (x + 233) 4 (nI (z - 1))) (x + 233 + 3) (241 * (z - 1)) (x + 233 + 1) 0 241 = υ at *
  have v1 : ∀ a, ¬ (x + 1 ≤ a ∧ a < x + 33) → ¬ a = x + 33 → ¬ a = x + 233 → ¬ a = x + 233 + 1 → υ.1 a = σ.1 a := fun a h1 h2 h3 h4 => (funext fun k => w1 a k h4 (fun y => h3 y.1) (fun y => h3 y.1)).trans (o1 a h1 h2)
  have vH : ∀ k, υ.1 (x + 33) k = if k = 2 then nI (z - 1) else σ.1 (x + 33) k := fun k => (w1 _ k (by omega) (by omega) (by omega)).trans (oH k)
  have hE : kE σ υ := kE_2 (w2.trans o2)
  have kr : kR υ (x + 1) (υ.1 (x + 233 + 1)) := kR_g (S := fun k => σ.1 (x + 233 + 3) (241 * (z - 1) + k)) q2.1.2 wS (kR_cg (fun a h1 h2 => funext fun k => w1 a k (by omega) (by omega) (by omega)) q2.1.2 hr1)
  have ki : kI c (υ.1 (x + 233 + 1)) := kI_g (S := fun k => σ.1 (x + 233 + 3) (241 * (z - 1) + k)) wS q2
  have v2 : υ.1 (x + 33) 2 = nI (z - 1) := (vH 2).trans (if_pos rfl)
  have vo : jHo υ (x + 33) = jHo σ (x + 33) := by unfold jHo; rw [vH, if_neg (by decide)]
  have vz : jHz υ (x + 33) = z - 1 := by unfold jHz; rw [v2]; exact nI_clamp (by omega)
  have v6 : υ.1 (x + 233) 6 = σ.1 (x + 233) 6 := by rw [w1 _ 6 (by omega) (by omega) (by omega), o1 _ (by omega) (by omega)]
  refine kF_mono (Nat.le_succ c) ⟨jSR_mk g1 hE kr ki (fun i hi => ?_) (by rw [vH, if_neg (by decide)]; exact c4) (by rw [v2]; exact vp_in_nI (by omega) (by decide)) (by rw [v1 _ (by omega) (by omega) (by omega) (by omega)]; exact g1.2.2.2.1.2.2.2), by rw [hE.1, hE.2]; exact g2, kr, ki, ⟨by rw [v2, w4], fun j hj => ?_⟩, by rw [v1 _ (by omega) (by omega) (by omega) (by omega), v6]; exact g6, by rw [v1 (x + 227 + 1) (by omega) (by omega) (by omega) (by omega), v1 (x + 233 + 4) (by omega) (by omega) (by omega) (by omega)]; exact g7⟩
  · unfold jn
    rw [v1 _ (by omega) (by omega) (by omega) (by omega)]
    exact (c3 i hi).2
  · rw [vz] at hj
    obtain ⟨y1, y2⟩ := g5' j (by omega)
    rw [vo, v1 (x + 233 + 3) (by omega) (by omega) (by omega) (by omega)]
    exact ⟨kR_cg (fun a h1 h2 => v1 a (by omega) (by omega) (by omega) (by omega)) y2.1.2 y1, y2⟩
end KC4
