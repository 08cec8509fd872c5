/-! putAll and the looks, both sides -/
theorem kRes_cg {G : jgG} {d x : Nat} {σ σ' : jgS} {ex : List String} {r1 r2 : jgR} (h2 : σ'.2 = σ.2) (h : ∀ a, x + 233 ≤ a → σ'.1 a = σ.1 a) (hr : kRes G d σ' x ex r1 r2) : kRes G d σ x ex r1 r2 := by
  obtain ⟨q1, ⟨q2, q3⟩, q4, q5⟩ := hr
  refine ⟨q1, ⟨?_, fun a ha => (q3 a ha).trans (h a ha)⟩, q4, q5⟩
  rcases q2 with q | q
  · exact Or.inl (q.trans h2)
  · refine Or.inr (q.trans ?_)
    unfold jwh
    dsimp only
    rw [h2]
def kAf (T : jPS) (p : Nat) (S : Nat → Int32) : Nat → Int32 := jfd (fun i s => mIt s (T.2.2.1 i) (T.2.2.2.1 i) ((T.2.2.2.2 i).toNatClampNeg)) p S
theorem kAf_s (T : jPS) (p : Nat) (S : Nat → Int32) : kAf T (p + 1) S = mIt (kAf T p S) (T.2.2.1 p) (T.2.2.2.1 p) ((T.2.2.2.2 p).toNatClampNeg) := jfd_s _ _ _
theorem kAd_f (T : jPS) (S : Nat → Int32) : ∀ d q, kAd T q d (kAf T q S) = kAf T (q + d) S
  | 0, q => rfl
  | d + 1, q => by
    show kAd T (q + 1) d (mIt (kAf T q S) (T.2.2.1 q) (T.2.2.2.1 q) ((T.2.2.2.2 q).toNatClampNeg)) = _
    rw [← kAf_s, kAd_f T S d (q + 1), show q + 1 + d = q + (d + 1) by omega]
theorem kAddN {κ : jgS} {h c b : Nat} {S : Nat → Int32} {k u : Int32} (hR : kR κ h S) (hI : kIb c b S) (hb : b + 24 ≤ 100000) (hk : vp_in k 8) (hu : vp_in u 10) : ∀ t, mN S + t ≤ 24 → kR (jAdN κ h k u t) h (mIt S k u t) ∧ kIb c (b + t) (mIt S k u t)
  | 0, _ => ⟨hR, hI⟩
  | t + 1, ht => by
    obtain ⟨h1, h2⟩ := kAddN hR hI hb hk hu t (by omega)
    obtain ⟨n1, n2⟩ := mIt_N (t := t) k u hI.1 (by omega)
    have hlt : mN (mIt S k u t) < 24 := by omega
    have e2 : jAdN κ h k u (t + 1) = jAdd (jAdN κ h k u t) h k u := rfl
    rw [mIt_s, e2, ← Nat.add_assoc]
    exact ⟨kAdd_R h1 n2 hlt, kAdd_I h2 hlt (by omega) hk hu⟩
theorem kAddP {κ : jgS} {h c b : Nat} {S : Nat → Int32} {T : jPS} (hR : kR κ h S) (hI : kIb c b S) (hb : b + 100 ≤ 100000) {n : Nat} (hv : ∀ i, i < n → vp_in (T.2.2.1 i) 8 ∧ vp_in (T.2.2.2.1 i) 10) (h24 : mN S + jts T n ≤ 24) : ∀ p, p ≤ n → kR (jAdP κ h T p) h (kAf T p S) ∧ kIb c (b + jts T p) (kAf T p S) ∧ mN (kAf T p S) = mN S + jts T p
  | 0, _ => ⟨hR, hI, rfl⟩
  | p + 1, hp => by
    obtain ⟨h1, h2, h3⟩ := kAddP hR hI hb hv h24 p (by omega)
    have hm := jts_m (T := T) hp
    rw [jts_s] at hm
    rw [jAdP_s, kAf_s, jts_s]
    obtain ⟨q1, q2⟩ := kAddN h1 h2 (by omega) (hv p (by omega)).1 (hv p (by omega)).2 ((T.2.2.2.2 p).toNatClampNeg) (by omega)
    obtain ⟨n1, _⟩ := mIt_N (t := (T.2.2.2.2 p).toNatClampNeg) (T.2.2.1 p) (T.2.2.2.1 p) h2.1 (by omega)
    exact ⟨q1, by rw [← Nat.add_assoc]; exact q2, by omega⟩
section KC5
variable {G : jgG} {c x : Nat} {σ : jgS}
theorem jwB_cd (σ : jgS) (B : Nat) (s : jPS) : (jwB σ B s).1 (B + 1) = σ.1 (B + 1) := funext fun k => jwB_c σ B s k
theorem kF_wB (hF : kF G c σ x) (s : jPS) : kF G c (jwB σ (x + 227) s) x := kF_ro hF (kE_2 rfl) (fun a ha => funext fun k => jwB_o (by omega)) (jwB_1 _ _ _) (jwB_cd _ _ _) (jwB_o (by omega)) (jwB_o (by omega)) (funext fun k => jwB_o (by omega)) (funext fun k => jwB_o (by omega)) (funext fun k => jwB_o (by omega))
theorem pp_putAll (hF : kF G c σ x) : Pp_X6_putAll G x σ := by
  have e6 := hF.2.2.2.2.2.1
  have e7 := hF.2.2.2.2.2.2
  obtain ⟨l, hl61, hl⟩ := vp_in_of hF.1.2.2.2.1.2.2.2 (by decide)
  have hlm : σ.1 (x + 233) 6 = nI l := e6.symm.trans hl
  have hlc : (nI l).toNatClampNeg = l := nI_clamp (by omega)
  have hB : jBn σ (x + 227) = l := by unfold jBn; rw [hl]; exact hlc
  refine ⟨hF.1, fun hc i hi => ?_⟩
  rw [hB] at hc hi ⊢
  exact ((ktext (kcpl.mp hc) (by omega)).2.2.2 i hi).2.2
theorem pp_putAll7 {σ1 : jgS} (hF : kF G c σ x) (hr : kFr σ σ1 x) : Pp_X7_putAll G (x + 233) σ1 := by
  have e6 := hF.2.2.2.2.2.1
  have e7 := hF.2.2.2.2.2.2
  obtain ⟨l, hl61, hl⟩ := vp_in_of hF.1.2.2.2.1.2.2.2 (by decide)
  have hlm : σ.1 (x + 233) 6 = nI l := e6.symm.trans hl
  have hlc : (nI l).toNatClampNeg = l := nI_clamp (by omega)
  have hB : jBn σ (x + 227) = l := by unfold jBn; rw [hl]; exact hlc
  refine ⟨jMO_cg hr (kMO hF), fun hc => ?_⟩
  have eb : σ1.1 (x + 233 + 4) = σ.1 (x + 227 + 1) := (hr.2 _ (by omega)).trans e7.symm
  have em : mLn σ1 (x + 233) = l := by unfold mLn; rw [hr.2 _ (Nat.le_refl _), hlm]; exact hlc
  rw [eb, em] at hc ⊢
  exact (ktext hc (by omega)).1
theorem kc_putAll (hF : kF G c σ x) (hc : c ≤ 600) : kRes G (c + 1) σ x ["java/lang/IllegalArgumentException", "java/lang/IllegalStateException"] (Ff_X6_putAll G x σ) (Ff_X7_putAll G (x + 233) (Ff_X6_putAll G x σ).2) := by
  have hR := hF.2.2.1
  have hI := hF.2.2.2.1
  have h24 := hI.1.2
  have e6 := hF.2.2.2.2.2.1
  have e7 := hF.2.2.2.2.2.2
  obtain ⟨l, hl61, hl⟩ := vp_in_of hF.1.2.2.2.1.2.2.2 (by decide)
  have hlm : σ.1 (x + 233) 6 = nI l := e6.symm.trans hl
  have hlc : (nI l).toNatClampNeg = l := nI_clamp (by omega)
  have hB : jBn σ (x + 227) = l := by unfold jBn; rw [hl]; exact hlc
  unfold Ff_X6_putAll
  rw [hB]
  have hF' := kF_wB hF (jPG σ (x + 227) l)
  have hcc := kcpl (σ := σ) (B := x + 227) (n := l)
  have o2 : ∀ a, x + 233 ≤ a → (jwB σ (x + 227) (jPG σ (x + 227) l)).1 a = σ.1 a := fun a ha => funext fun k => jwB_o (by omega)
  have o1 : ∀ a, a < x + 227 → (jwB σ (x + 227) (jPG σ (x + 227) l)).1 a = σ.1 a := fun a ha => funext fun k => jwB_o (by omega)
  have oS := jwB_2 σ (x + 227) (jPG σ (x + 227) l)
  have mC : ∀ τ : jgS, (∀ a, x + 233 ≤ a → τ.1 a = σ.1 a) → τ.1 (x + 233 + 4) = σ.1 (x + 227 + 1) ∧ mLn τ (x + 233) = l ∧ τ.1 (x + 233 + 1) = σ.1 (x + 233 + 1) := fun τ h => ⟨(h _ (by omega)).trans e7.symm, by unfold mLn; rw [h _ (Nat.le_refl _), hlm]; exact hlc, h _ (by omega)⟩
  by_cases c1 : jct (fun k => ¬ (jPG σ (x + 227) (k + 1)).1 = 7) l = l ∧ ((jPG σ (x + 227) l).1 = 2 ∨ (jPG σ (x + 227) l).1 = 4 ∨ (jPG σ (x + 227) l).1 = 6)
  · rw [if_neg (not_not_intro c1)]
    have d1 : (jpl (σ.1 (x + 227 + 1)) l = 2 ∨ jpl (σ.1 (x + 227 + 1)) l = 4 ∨ jpl (σ.1 (x + 227 + 1)) l = 6) := hcc.mp c1
    obtain ⟨t1, t2, t3, t4⟩ := ktext (σ := σ) (B := x + 227) d1 (by omega)
    have h3 : σ.1 (x + 1) 3 = σ.1 (x + 233 + 1) 0 := hR.1.1
    by_cases c2 : 24 < σ.1 (x + 1) 3 + nI (jts (jPG σ (x + 227) l) (jPG σ (x + 227) l).2.1)
    · rw [if_pos c2]
      refine kRes_cg oS o2 ?_
      show kRes G (c + 1) _ x _ _ (Ff_X7_putAll G (x + 233) (jwh (jwB σ (x + 227) (jPG σ (x + 227) l)) 6))
      obtain ⟨m1, m2, m3⟩ := mC (jwh (jwB σ (x + 227) (jPG σ (x + 227) l)) 6) o2
      have e9 : Ff_X7_putAll G (x + 233) (jwh (jwB σ (x + 227) (jPG σ (x + 227) l)) 6) = (.inl (some (.int 0)), jwI (jwh (jwB σ (x + 227) (jPG σ (x + 227) l)) 6) (x + 233) 0 2) := by
        unfold Ff_X7_putAll
        rw [m1, m2, m3, if_neg (not_not_intro d1), t2, if_pos (by rw [← h3]; exact c2)]
      rw [e9]
      exact kTh (i := 1) hF' rfl rfl
    · rw [if_neg c2]
      refine kRes_cg oS o2 ?_
      have hle := (jPG_le σ (x + 227) l).2
      have hj : jts (jPG σ (x + 227) l) (jPG σ (x + 227) l).2.1 ≤ 9 * 20 := by
        have := (jts_I (T := jPG σ (x + 227) l) hle (fun i hi => (t4 i hi).2.2)).2
        omega
      have hcap : mN (σ.1 (x + 233 + 1)) + jts (jPG σ (x + 227) l) (jPG σ (x + 227) l).2.1 ≤ 24 := by
        rw [h3, hI.1.1, nI_add, show (24 : Int32) = nI 24 from rfl, nI_ltI (by decide) (by omega)] at c2
        omega
      have hRK := kRK hF'
      have eS' : (jwB σ (x + 227) (jPG σ (x + 227) l)).1 (x + 233 + 1) = σ.1 (x + 233 + 1) := o2 _ (by omega)
      rw [eS'] at hRK
      obtain ⟨p1, p2, p3⟩ := kAddP (n := (jPG σ (x + 227) l).2.1) hRK (b := 24 * c) (c := c) hI (by omega) (fun i hi => ⟨(t4 i hi).1, (t4 i hi).2.1⟩) hcap _ (Nat.le_refl _)
      have ead := kAd_f (jPG σ (x + 227) l) (σ.1 (x + 233 + 1)) (jPG σ (x + 227) l).2.1 0
      rw [Nat.zero_add] at ead
      have ead : kAd (jPG σ (x + 227) l) 0 (jPG σ (x + 227) l).2.1 (σ.1 (x + 233 + 1)) = kAf (jPG σ (x + 227) l) (jPG σ (x + 227) l).2.1 (σ.1 (x + 233 + 1)) := ead
      obtain ⟨_, _, a2, a4⟩ := jAdP_f (G := G) (σ := jHkeep (jwB σ (x + 227) (jPG σ (x + 227) l)) (x + 33) (x + 1)) (h := x + 1) (T := jPG σ (x + 227) l) (p := (jPG σ (x + 227) l).2.1) (jT_cgE (kE_2 (jHk_2 _ _ _)) ⟨by rw [kn hRK, hRK.1.1]; exact hI.1.1, by rw [kn hRK]; exact h24⟩ hF'.1.2.1) (by rw [kn hRK]; exact hcap)
      have aK := jHk_2 (jwB σ (x + 227) (jPG σ (x + 227) l)) (x + 33) (x + 1)
      have hn' : jn (jwB σ (x + 227) (jPG σ (x + 227) l)) (x + 1) ≤ 24 := hF'.1.2.1.2.2
      have ejn : jn σ (x + 1) = mN (σ.1 (x + 233 + 1)) := kn hR
      rw [ejn]
      generalize hK : jHkeep (jwB σ (x + 227) (jPG σ (x + 227) l)) (x + 33) (x + 1) = κ at *
      have kout : ∀ a, ¬ (x + 33 ≤ a ∧ a < x + 227) → κ.1 a = (jwB σ (x + 227) (jPG σ (x + 227) l)).1 a := fun a ha => funext fun k => by rw [← hK]; exact jHk_out hn' (by omega) (by omega)
      generalize hP : jAdP κ (x + 1) (jPG σ (x + 227) l) (jPG σ (x + 227) l).2.1 = ρ at *
      have w0 : ∀ a, ¬ a = x + 227 → (jwI ρ (x + 227) 1 0).1 a = ρ.1 a := fun a ha => funext fun k => by rw [jI_wI, if_neg (fun z => ha z.1)]
      have w1 : ∀ a, x + 233 ≤ a → (jwI ρ (x + 227) 1 0).1 a = σ.1 a := fun a ha => ((w0 a (by omega)).trans (funext fun k => a4 a (by omega) k)).trans ((kout a (by omega)).trans (o2 a ha))
      obtain ⟨m1, m2, m3⟩ := mC (jwI ρ (x + 227) 1 0) w1
      have e9 : Ff_X7_putAll G (x + 233) (jwI ρ (x + 227) 1 0) = (.inl (some (.int (kAf (jPG σ (x + 227) l) (jPG σ (x + 227) l).2.1 (σ.1 (x + 233 + 1)) 0))), jwI (jwS (mKeep (jwI (jwI ρ (x + 227) 1 0) (x + 233) 0 0) (x + 233)) (x + 233) (kAf (jPG σ (x + 227) l) (jPG σ (x + 227) l).2.1 (σ.1 (x + 233 + 1)))) (x + 233) 6 0) := by
        unfold Ff_X7_putAll
        rw [m1, m2, m3, if_neg (not_not_intro d1), t2, if_neg (by rw [← h3]; exact c2), t3, ead]
      show kRes G (c + 1) _ x _ _ (Ff_X7_putAll G (x + 233) (jwI ρ (x + 227) 1 0))
      rw [e9]
      obtain ⟨q2, qo, q1, q3, q4, q6, qb, q0⟩ := kMop_S (jwI ρ (x + 227) 1 0) (x + 233) (kAf (jPG σ (x + 227) l) (jPG σ (x + 227) l).2.1 (σ.1 (x + 233 + 1)))
      generalize jwS (mKeep (jwI (jwI ρ (x + 227) 1 0) (x + 233) 0 0) (x + 233)) (x + 233) (kAf (jPG σ (x + 227) l) (jPG σ (x + 227) l).2.1 (σ.1 (x + 233 + 1))) = υ at *
      have u0 : ∀ a, ¬ a = x + 233 → (jwI υ (x + 233) 6 0).1 a = υ.1 a := fun a ha => funext fun k => by rw [jI_wI, if_neg (fun z => ha z.1)]
      have um : ∀ k, ¬ k = 6 → (jwI υ (x + 233) 6 0).1 (x + 233) k = υ.1 (x + 233) k := fun k hk => by rw [jI_wI, if_neg (fun z => hk z.2)]
      have r2 : (jwI ρ (x + 227) 1 0).2 = (jwB σ (x + 227) (jPG σ (x + 227) l)).2 := (show (jwI ρ (x + 227) 1 0).2 = ρ.2 from rfl).trans (a2.trans aK)
      obtain ⟨y3, y4⟩ := mKeep_cg (σ := jwB σ (x + 227) (jPG σ (x + 227) l)) (τ := jwI (jwI ρ (x + 227) 1 0) (x + 233) 0 0) (m := x + 233) (by rw [jI_wI, if_neg (by omega), w1 _ (Nat.le_refl _), o2 _ (Nat.le_refl _)]) (by rw [mth_S, w1 _ (by omega), o2 _ (by omega)]) (funext fun k => by rw [jI_wI, if_neg (by omega), w1 _ (by omega), o2 _ (by omega)])
      have b1 : (jwI υ (x + 233) 6 0).1 (x + 227) 1 = 0 := by rw [u0 _ (by omega), qo _ (by omega), jI_wI, if_pos ⟨rfl, rfl⟩]
      refine ⟨Or.inl ⟨_, rfl, ?_, ?_⟩, ⟨Or.inl r2, fun a ha => (w1 a ha).trans (o2 a ha).symm⟩, q2, ?_⟩
      · rw [p2.1.1, p3]
      · show (jwI υ (x + 233) 6 0).1 (x + 233) 0 = 0
        rw [um 0 (by decide)]
        exact q0
      · refine kF_op hF' (Nat.le_succ c) (kE_2 ((show (jwI υ (x + 233) 6 0).2 = υ.2 from rfl).trans (q2.trans r2))) (fun a h1 h2 => ?_) ((u0 _ (by omega)).trans q1) (kR_cg (fun a h1 h2 => ?_) p2.1.2 p1) (kIb_I (by omega) p2) (fun k => ?_) ?_ ?_ ?_ ?_
        · rw [hK]
          exact (u0 a (by omega)).trans ((qo a (by omega)).trans ((w0 a (by omega)).trans (funext fun k => a4 a (by omega) k)))
        · exact (u0 a (by omega)).trans ((qo a (by omega)).trans (w0 a (by omega)))
        · rw [u0 _ (by omega)]; exact (q3 k).trans (y3 k)
        · rw [um 4 (by decide)]; exact q4.trans y4
        · rw [b1]; exact vp_in_nI (n := 0) (by decide) (by decide)
        · rw [b1, jI_wI, if_pos ⟨rfl, rfl⟩]
        · rw [u0 _ (by omega), u0 _ (by omega), qo _ (by omega), w0 _ (by omega), qb, w1 _ (by omega), ← e7]
          exact (funext fun k => a4 _ (by omega) k).trans ((kout _ (by omega)).trans (jwB_cd _ _ _))
  · rw [if_pos c1]
    refine kRes_cg oS o2 ?_
    show kRes G (c + 1) _ x _ _ (Ff_X7_putAll G (x + 233) (jwh (jwB σ (x + 227) (jPG σ (x + 227) l)) 6))
    obtain ⟨m1, m2, m3⟩ := mC (jwh (jwB σ (x + 227) (jPG σ (x + 227) l)) 6) o2
    have e9 : Ff_X7_putAll G (x + 233) (jwh (jwB σ (x + 227) (jPG σ (x + 227) l)) 6) = (.inl (some (.int 0)), jwI (jwh (jwB σ (x + 227) (jPG σ (x + 227) l)) 6) (x + 233) 0 1) := by
      unfold Ff_X7_putAll
      rw [m1, m2, if_pos (fun z => c1 (hcc.mpr z))]
    rw [e9]
    exact kTh (i := 0) hF' rfl rfl
theorem kc_firstError (hF : kF G c σ x) : kRes G (c + 1) σ x [] (Ff_X6_firstError G x σ) (Ff_X7_firstError G (x + 233) (Ff_X6_firstError G x σ).2) := by
  have e6 := hF.2.2.2.2.2.1
  have e7 := hF.2.2.2.2.2.2
  obtain ⟨l, hl61, hl⟩ := vp_in_of hF.1.2.2.2.1.2.2.2 (by decide)
  have hlm : σ.1 (x + 233) 6 = nI l := e6.symm.trans hl
  have hlc : (nI l).toNatClampNeg = l := nI_clamp (by omega)
  have hB : jBn σ (x + 227) = l := by unfold jBn; rw [hl]; exact hlc
  have e1 : Ff_X6_firstError G x σ = (.inl (some (.int (nI (jct (fun k => ¬ (jPG σ (x + 227) (k + 1)).1 = 7) l)))), jwB σ (x + 227) (jPG σ (x + 227) l)) := by
    unfold Ff_X6_firstError Ff_X0_readParts
    rw [hB]
  have o2 : ∀ a, x + 233 ≤ a → (jwB σ (x + 227) (jPG σ (x + 227) l)).1 a = σ.1 a := fun a ha => funext fun k => jwB_o (by omega)
  have e9 : Ff_X7_firstError G (x + 233) (jwB σ (x + 227) (jPG σ (x + 227) l)) = (.inl (some (.int (nI (jct (fun k => ¬ jpl (σ.1 (x + 227 + 1)) (k + 1) = 7) l)))), jwI (jwB σ (x + 227) (jPG σ (x + 227) l)) (x + 233) 0 0) := by
    have m2 : mLn (jwB σ (x + 227) (jPG σ (x + 227) l)) (x + 233) = l := by unfold mLn; rw [o2 _ (Nat.le_refl _), hlm]; exact hlc
    unfold Ff_X7_firstError
    rw [m2, o2 _ (by omega), ← e7]
  rw [e1]
  show kRes G (c + 1) σ x _ _ (Ff_X7_firstError G (x + 233) (jwB σ (x + 227) (jPG σ (x + 227) l)))
  rw [e9]
  exact kLook hF (jwB_2 _ _ _) (fun a ha => funext fun k => jwB_o (by omega)) (jwB_1 _ _ _) (jwB_cd _ _ _) (mSm_r _ _) (congrArg nI kcnt)
end KC5
