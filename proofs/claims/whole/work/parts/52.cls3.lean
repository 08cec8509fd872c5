/-! SkipRows: the digest -/
def jgk (σ : jgS) (h : Nat) : Int32 := jfd (fun i s => if σ.1 (h + 4 + i) 4 = 0 then (if s < σ.1 (h + 4 + i) 8 then σ.1 (h + 4 + i) 8 else s) else s) (jn σ h) 0
def jfr (σ : jgS) (h : Nat) : UInt64 := FP.ddiv 4607182418800017408 (FP.dadd 4607182418800017408 (FP.i2d (jgk σ h)))
def jFair (σ : jgS) (h : Nat) : Prop := vf_n64 (FP.dadd 4607182418800017408 (FP.i2d (jgk σ h))) ∧ vf_n64 (jfr σ h)
def jipV (σ : jgS) (h : Nat) (u w : Int32) : Int32 := if w = 0 then nI (jct (fun i => σ.1 (h + 4 + i) 4 = 1 ∧ σ.1 (h + 4 + i) 6 ≤ σ.1 h 4 + u) (jn σ h)) else nI (jct (fun i => σ.1 (h + 4 + i) 4 = 3) (jn σ h) + jct (fun i => (σ.1 (h + 4 + i) 4 = 1 ∧ σ.1 (h + 4 + i) 6 ≤ σ.1 h 4 + u) ∧ σ.1 (h + 3) 1 ≤ σ.1 (h + 4 + i) 7 + 1) (jn σ h))
def jd1 (σ : jgS) (x : Nat) : Int64 := mhf (σ.1 (x + 1 + 3)) 4 (mhf (jctV σ (x + 1) (x + 33)) 13 2683)
def jd2 (σ : jgS) (x : Nat) : jDT := jds x (jh3 σ (x + 1) (jn σ (x + 1)) (jd1 σ x), σ) 4
def jd3 (σ : jgS) (x : Nat) (p : Int64) : Int64 := mhf (fun w => jipV σ (x + 1) 10 (nI w)) 2 (jh5 σ (x + 1) 8 p)
def jd4 (T : jDT) (x : Nat) : jDT := (31 * jd3 T.2 x T.1 + (jfG T.2 x 4).1.toInt64, (jfG T.2 x 4).2.2)
def jd5 (T : jDT) (x : Nat) : Int64 := mhf (T.2.1 (x + 227 + 1)) (jBn T.2 (x + 227)) (31 * (31 * T.1 + jbV (jfr T.2 (x + 1))) + (T.2.1 (x + 227) 1).toInt64)
theorem jd2_ls (σ : jgS) (x : Nat) : jLs x σ (jd2 σ x).2 := jds_ls x (jh3 σ (x + 1) (jn σ (x + 1)) (jd1 σ x), σ) 4
theorem jd4_ls (T : jDT) (x : Nat) : jLs x T.2 (jd4 T x).2 := jfG_ls T.2 x 4
def Pp_X6_digest (G : jgG) (x : Nat) (σ : jgS) : Prop := jSR G σ x ∧ ∀ τ, jLs x σ τ → jFair τ (x + 1) ∧ jbp (jfr τ (x + 1))
def Ff_X6_digest (G : jgG) (x : Nat) (σ : jgS) : jgR := (.inl (some (.long (jd5 (jd4 (jd2 σ x) x) x))), (jd4 (jd2 σ x) x).2)
def P_X6_digest (G : jgG) (As : List Value) (σ : jgS) : Prop := ∃ x : Nat, As = [.ref x] ∧ Pp_X6_digest G x σ
def F_X6_digest (G : jgG) (As : List Value) (σ : jgS) : jgR := Ff_X6_digest G (jaR As 0) σ
def S_X6_digest (G : jgG) : jgSpec := jsp (P_X6_digest G) (F_X6_digest G)
theorem PX_X6_digest {G : jgG} {x : Nat} {σ : jgS} : P_X6_digest G [.ref x] σ ↔ Pp_X6_digest G x σ := by unfold P_X6_digest; simp [and_assoc]
theorem FX_X6_digest {G : jgG} {x : Nat} {σ : jgS} : F_X6_digest G [.ref x] σ = Ff_X6_digest G x σ := rfl
def I_X6_digest : jgI := (0, 6, yX6_digest, cX6_digest, 4, (some .long), 0, 9, 161, [])
theorem jd_X6_digest : I_X6_digest.2.2.1.cls ≠ "java/lang/invoke/MethodHandle" ∧ I_X6_digest.2.2.1.cls ≠ "java/lang/invoke/VarHandle" ∧ (parseMethodDescriptor I_X6_digest.2.2.1.desc).map (fun d => d.parameters.length) = some I_X6_digest.2.2.2.2.2.2.1 := ⟨by decide +kernel, by decide +kernel, by decide +kernel⟩
def M_X6_digest (G : jgG) : jgM := (cX6_digest, [(10, jpF 6 0), (102, jpF 5 2), (264, jpK (.long 2683)), (266, jpC I_X6_count (S_X6_count G)), (269, jpC I_X6_mixed (S_X6_mixed G)), (273, jpC I_X6_withRows (S_X6_withRows G)), (277, jpC I_X6_withReaders (S_X6_withReaders G)), (280, jpC I_X6_withGroups (S_X6_withGroups G)), (283, jpC I_X6_ifPassed (S_X6_ifPassed G)), (287, jpC I_X6_freest (S_X6_freest G)), (290, jpC I_X6_fairness (S_X6_fairness G)), (294, jpC I_X6_bitsOf (S_X6_bitsOf G)), (298, jpC I_X6_withBuffer (S_X6_withBuffer G))], [], [], (some .long), false)
theorem lp1_X6_digest {G : jgG} {x : Nat} {h : Int64} {σ : jgS} {Φ : jgR → Prop} (hp : jSR G σ x) (hE : ∀ k, Jr G (M_X6_digest G) 29 [some (.ref x), some (.long (mhf (jctV σ (x + 1) (x + 33)) 13 h)), none, some (.int (k))] [] σ Φ) : Jr G (M_X6_digest G) 6 [some (.ref x), some (.long (h)), none, some (.int (0))] [] σ Φ := by
  obtain ⟨⟨r0, r1, r2, r3, r4⟩, hT, hH, hB, hL, ⟨⟨x1, x2⟩, x3, x4⟩, hu, hh⟩ := id hp
  refine jloop (P := fun i => Jr G (M_X6_digest G) 6 [some (.ref x), some (.long (mhf (jctV σ (x + 1) (x + 33)) i h)), none, some (.int (nI i))] [] σ Φ) (n := 13) ?_ (fun i hlt ih => ?_)
  · show Jr G (M_X6_digest G) 6 _ _ _ _
    rw [jq_iload3 (M := M_X6_digest G) 7 dX6_digest_6 rfl]
    simp only [jq_bipush (M := M_X6_digest G) 13 9 dX6_digest_7 (by decide) rfl, jq_icmp_ge (M := M_X6_digest G) 29 12 dX6_digest_9 (by decide) rfl, eq_self, jref_10, jref_11, jref_12, jk_v, jk_n, jcat_nil, jcat_i, jcat_r, jcat_l, jcat_d, jc2_i, jc2_r, jc2_n, jc1_i, jc1_r, jrf_some, jwtq_wI, jwtq_wh, jR_wI, jI_wh, jR_wh, List.cons.injEq, Value.int.injEq, Value.ref.injEq, Value.long.injEq, Value.double.injEq, true_and, and_true, and_self, Nat.reduceAdd, Nat.reduceLeDiff, if_true, if_false, ite_true, ite_false, jc1q_i, jc1q_r, jc1q_l, jwtq_wR, jwtq_wY, jI_wI, Nat.reduceEqDiff, and_false, false_and, not_false_eq_true, not_true_eq_false, show (13 : Int32) ≤ nI 13 from by decide]
    exact hE _
  · show Jr G (M_X6_digest G) 6 _ _ _ _
    have hc : ¬ (13 : Int32) ≤ nI i := nI_ge (b := 13) hlt (by decide)
    have n2 : ¬ (nI i < 0 ∨ 12 < nI i) := by
      rintro (z | z)
      · exact nI_pos (by omega) z
      · exact absurd ((nI_ltI (a := 12) (b := i) (by decide) (by omega)).mp z) (by omega)
    have hF : Ff_X6_count G x (nI i) σ = (.inl (some (.int (jctV σ (x + 1) (x + 33) i))), σ) := by
      unfold Ff_X6_count
      rw [if_neg n2, nI_clamp (by omega)]
    rw [mhf_s, ← nI_1] at ih
    rw [jq_iload3 (M := M_X6_digest G) 7 dX6_digest_6 rfl]
    generalize mhf (jctV σ (x + 1) (x + 33)) i h = T at *
    simp only [jq_bipush (M := M_X6_digest G) 13 9 dX6_digest_7 (by decide) rfl, jq_icmp_ge (M := M_X6_digest G) 29 12 dX6_digest_9 (by decide) rfl, jq_lload1 (M := M_X6_digest G) 13 dX6_digest_12 rfl, jq_aload0 (M := M_X6_digest G) 14 dX6_digest_13 rfl, jq_iload3 (M := M_X6_digest G) 15 dX6_digest_14 rfl, jq_virt1 (M := M_X6_digest G) I_X6_count 6 dX6_digest_15 rfl rfl rfl rfl, jq_i2l (M := M_X6_digest G) 19 dX6_digest_18 rfl, jq_stat2 (M := M_X6_digest G) I_X6_mixed dX6_digest_19 rfl (Or.inl rfl) rfl, jq_lstore1 (M := M_X6_digest G) 23 dX6_digest_22 rfl, jq_iinc3 (M := M_X6_digest G) 1 26 dX6_digest_23 (by decide) rfl, jq_goto (M := M_X6_digest G) 6 dX6_digest_26 (by decide), eq_self, jref_10, jref_11, jref_12, jk_v, jk_n, jcat_nil, jcat_i, jcat_r, jcat_l, jcat_d, jc2_i, jc2_r, jc2_n, jc1_i, jc1_r, jrf_some, jwtq_wI, jwtq_wh, jR_wI, jI_wh, jR_wh, List.cons.injEq, Value.int.injEq, Value.ref.injEq, Value.long.injEq, Value.double.injEq, true_and, and_true, and_self, Nat.reduceAdd, Nat.reduceLeDiff, if_true, if_false, ite_true, ite_false, jc1q_i, jc1q_r, jc1q_l, jwtq_wR, jwtq_wY, jI_wI, Nat.reduceEqDiff, and_false, false_and, not_false_eq_true, not_true_eq_false, hc, r0, r1, r2, r3, r4, PX_X6_count, FX_X6_count, Pp_X6_count, hF, show jSR G σ x from hp, PX_X6_mixed, FX_X6_mixed, Pp_X6_mixed, Ff_X6_mixed]
    exact ih
theorem lp2_X6_digest {G : jgG} {x : Nat} {h : Int64} {σ : jgS} {Φ : jgR → Prop} (hp : jSR G σ x) (hE : ∀ k, Jr G (M_X6_digest G) 57 [some (.ref x), some (.long (mhf (σ.1 (x + 1 + 3)) 4 h)), none, some (.int (k))] [] σ Φ) : Jr G (M_X6_digest G) 31 [some (.ref x), some (.long (h)), none, some (.int (0))] [] σ Φ := by
  obtain ⟨⟨r0, r1, r2, r3, r4⟩, hT, hH, hB, hL, ⟨⟨x1, x2⟩, x3, x4⟩, hu, hh⟩ := id hp
  obtain ⟨⟨t0, ⟨t1, t2, t3⟩, ⟨⟨a1, k1⟩, ⟨a2, k2⟩, ⟨a3, k3⟩⟩, tr, td⟩, hn, hn24⟩ := id hT
  refine jloop (P := fun i => Jr G (M_X6_digest G) 31 [some (.ref x), some (.long (mhf (σ.1 (x + 1 + 3)) i h)), none, some (.int (nI i))] [] σ Φ) (n := 4) ?_ (fun i hlt ih => ?_)
  · show Jr G (M_X6_digest G) 31 _ _ _ _
    rw [jq_iload3 (M := M_X6_digest G) 32 dX6_digest_31 rfl]
    simp only [jq_iconst (M := M_X6_digest G) 4 33 dX6_digest_32 (by decide) rfl, jq_icmp_ge (M := M_X6_digest G) 57 36 dX6_digest_33 (by decide) rfl, eq_self, jref_10, jref_11, jref_12, jk_v, jk_n, jcat_nil, jcat_i, jcat_r, jcat_l, jcat_d, jc2_i, jc2_r, jc2_n, jc1_i, jc1_r, jrf_some, jwtq_wI, jwtq_wh, jR_wI, jI_wh, jR_wh, List.cons.injEq, Value.int.injEq, Value.ref.injEq, Value.long.injEq, Value.double.injEq, true_and, and_true, and_self, Nat.reduceAdd, Nat.reduceLeDiff, if_true, if_false, ite_true, ite_false, jc1q_i, jc1q_r, jc1q_l, jwtq_wR, jwtq_wY, jI_wI, Nat.reduceEqDiff, and_false, false_and, not_false_eq_true, not_true_eq_false, show (4 : Int32) ≤ nI 4 from by decide]
    exact hE _
  · show Jr G (M_X6_digest G) 31 _ _ _ _
    have hq3 : ¬ (4 : Int32) ≤ nI i := nI_ge (b := 4) (by omega) (by decide)
    have hv : vp_in (nI i) 4 := vp_in_nI (by omega) (by decide)
    have hcl : (nI i).toNatClampNeg = i := nI_clamp (by omega)
    rw [mhf_s, ← nI_1] at ih
    rw [jq_iload3 (M := M_X6_digest G) 32 dX6_digest_31 rfl]
    generalize mhf (σ.1 (x + 1 + 3)) i h = T at *
    simp only [jq_iconst (M := M_X6_digest G) 4 33 dX6_digest_32 (by decide) rfl, jq_icmp_ge (M := M_X6_digest G) 57 36 dX6_digest_33 (by decide) rfl, jq_lload1 (M := M_X6_digest G) 37 dX6_digest_36 rfl, jq_aload0 (M := M_X6_digest G) 38 dX6_digest_37 rfl, jq_getR (M := M_X6_digest G) 6 0 41 dX6_digest_38 rfl rfl rfl, jq_getR (M := M_X6_digest G) 5 2 44 dX6_digest_41 rfl rfl rfl, jq_iload3 (M := M_X6_digest G) 45 dX6_digest_44 rfl, jq_iald (M := M_X6_digest G) 46 dX6_digest_45 rfl, jq_i2l (M := M_X6_digest G) 47 dX6_digest_46 rfl, jq_stat2 (M := M_X6_digest G) I_X6_mixed dX6_digest_47 rfl (Or.inl rfl) rfl, jq_lstore1 (M := M_X6_digest G) 51 dX6_digest_50 rfl, jq_iinc3 (M := M_X6_digest G) 1 54 dX6_digest_51 (by decide) rfl, jq_goto (M := M_X6_digest G) 31 dX6_digest_54 (by decide), eq_self, jref_10, jref_11, jref_12, jk_v, jk_n, jcat_nil, jcat_i, jcat_r, jcat_l, jcat_d, jc2_i, jc2_r, jc2_n, jc1_i, jc1_r, jrf_some, jwtq_wI, jwtq_wh, jR_wI, jI_wh, jR_wh, List.cons.injEq, Value.int.injEq, Value.ref.injEq, Value.long.injEq, Value.double.injEq, true_and, and_true, and_self, Nat.reduceAdd, Nat.reduceLeDiff, if_true, if_false, ite_true, ite_false, jc1q_i, jc1q_r, jc1q_l, jwtq_wR, jwtq_wY, jI_wI, Nat.reduceEqDiff, and_false, false_and, not_false_eq_true, not_true_eq_false, hq3, r0, r1, r2, r3, r4, t0, t1, t2, t3, a1, k1, a2, k2, a3, k3, hn, hv, hcl, PX_X6_mixed, FX_X6_mixed, Pp_X6_mixed, Ff_X6_mixed]
    exact ih
theorem lp3_X6_digest {G : jgG} {x : Nat} {h : Int64} {σ : jgS} {Φ : jgR → Prop} (hp : jSR G σ x) (hE : ∀ k, Jr G (M_X6_digest G) 101 [some (.ref x), some (.long (mhf (fun w => jipV σ (x + 1) 10 (nI w)) 2 h)), none, some (.int (k))] [] σ Φ) : Jr G (M_X6_digest G) 77 [some (.ref x), some (.long (h)), none, some (.int (0))] [] σ Φ := by
  obtain ⟨⟨r0, r1, r2, r3, r4⟩, hT, hH, hB, hL, ⟨⟨x1, x2⟩, x3, x4⟩, hu, hh⟩ := id hp
  refine jloop (P := fun i => Jr G (M_X6_digest G) 77 [some (.ref x), some (.long (mhf (fun w => jipV σ (x + 1) 10 (nI w)) i h)), none, some (.int (nI i))] [] σ Φ) (n := 2) ?_ (fun i hlt ih => ?_)
  · show Jr G (M_X6_digest G) 77 _ _ _ _
    rw [jq_iload3 (M := M_X6_digest G) 78 dX6_digest_77 rfl]
    simp only [jq_iconst (M := M_X6_digest G) 2 79 dX6_digest_78 (by decide) rfl, jq_icmp_ge (M := M_X6_digest G) 101 82 dX6_digest_79 (by decide) rfl, eq_self, jref_10, jref_11, jref_12, jk_v, jk_n, jcat_nil, jcat_i, jcat_r, jcat_l, jcat_d, jc2_i, jc2_r, jc2_n, jc1_i, jc1_r, jrf_some, jwtq_wI, jwtq_wh, jR_wI, jI_wh, jR_wh, List.cons.injEq, Value.int.injEq, Value.ref.injEq, Value.long.injEq, Value.double.injEq, true_and, and_true, and_self, Nat.reduceAdd, Nat.reduceLeDiff, if_true, if_false, ite_true, ite_false, jc1q_i, jc1q_r, jc1q_l, jwtq_wR, jwtq_wY, jI_wI, Nat.reduceEqDiff, and_false, false_and, not_false_eq_true, not_true_eq_false, show (2 : Int32) ≤ nI 2 from by decide]
    exact hE _
  · show Jr G (M_X6_digest G) 77 _ _ _ _
    have hc : ¬ (2 : Int32) ≤ nI i := nI_ge (b := 2) hlt (by decide)
    have n2 : ¬ (nI i < 0 ∨ 1 < nI i) := by
      rintro (z | z)
      · exact nI_pos (by omega) z
      · exact absurd ((nI_ltI (a := 1) (b := i) (by decide) (by omega)).mp z) (by omega)
    have hF : Ff_X6_ifPassed G x 10 (nI i) σ = (.inl (some (.int (jipV σ (x + 1) 10 (nI i)))), σ) := by
      unfold Ff_X6_ifPassed jipV
      rw [if_neg (by decide), if_neg n2]
      by_cases z : nI i = 0
      · rw [if_pos z, if_pos z]; rfl
      · rw [if_neg z, if_neg z]; rfl
    rw [mhf_s, ← nI_1] at ih
    rw [jq_iload3 (M := M_X6_digest G) 78 dX6_digest_77 rfl]
    generalize mhf (fun w => jipV σ (x + 1) 10 (nI w)) i h = T at *
    simp only [jq_iconst (M := M_X6_digest G) 2 79 dX6_digest_78 (by decide) rfl, jq_icmp_ge (M := M_X6_digest G) 101 82 dX6_digest_79 (by decide) rfl, jq_lload1 (M := M_X6_digest G) 83 dX6_digest_82 rfl, jq_aload0 (M := M_X6_digest G) 84 dX6_digest_83 rfl, jq_bipush (M := M_X6_digest G) 10 86 dX6_digest_84 (by decide) rfl, jq_iload3 (M := M_X6_digest G) 87 dX6_digest_86 rfl, jq_virt2 (M := M_X6_digest G) I_X6_ifPassed 6 dX6_digest_87 rfl rfl rfl rfl, jq_i2l (M := M_X6_digest G) 91 dX6_digest_90 rfl, jq_stat2 (M := M_X6_digest G) I_X6_mixed dX6_digest_91 rfl (Or.inl rfl) rfl, jq_lstore1 (M := M_X6_digest G) 95 dX6_digest_94 rfl, jq_iinc3 (M := M_X6_digest G) 1 98 dX6_digest_95 (by decide) rfl, jq_goto (M := M_X6_digest G) 77 dX6_digest_98 (by decide), eq_self, jref_10, jref_11, jref_12, jk_v, jk_n, jcat_nil, jcat_i, jcat_r, jcat_l, jcat_d, jc2_i, jc2_r, jc2_n, jc1_i, jc1_r, jrf_some, jwtq_wI, jwtq_wh, jR_wI, jI_wh, jR_wh, List.cons.injEq, Value.int.injEq, Value.ref.injEq, Value.long.injEq, Value.double.injEq, true_and, and_true, and_self, Nat.reduceAdd, Nat.reduceLeDiff, if_true, if_false, ite_true, ite_false, jc1q_i, jc1q_r, jc1q_l, jwtq_wR, jwtq_wY, jI_wI, Nat.reduceEqDiff, and_false, false_and, not_false_eq_true, not_true_eq_false, hc, r0, r1, r2, r3, r4, PX_X6_ifPassed, FX_X6_ifPassed, Pp_X6_ifPassed, hF, show jSR G σ x from hp, PX_X6_mixed, FX_X6_mixed, Pp_X6_mixed, Ff_X6_mixed]
    exact ih
theorem jfr_F (G : jgG) (x : Nat) (σ : jgS) : Ff_X6_fairness G x σ = (.inl (some (.double (jfr σ (x + 1)))), σ) := rfl
theorem lp4_X6_digest {G : jgG} {x : Nat} {k : Int32} {T : jDT} {Φ : jgR → Prop} (hp : jSR G T.2 x) (hfa : ∀ τ, jLs x T.2 τ → jFair τ (x + 1) ∧ jbp (jfr τ (x + 1))) (hE : Φ (.inl (some (.long (jd5 (jd4 T x) x))), (jd4 T x).2)) (q : Int64) (hq : jd3 T.2 x T.1 = q) : Jr G (M_X6_digest G) 101 [some (.ref x), some (.long (q)), none, some (.int (k))] [] T.2 Φ := by
  have r0 : jo G (jwt T.2) x 6 := hp.1.1
  have hls := jd4_ls T x
  have hp4 := jLs_SR hls hp
  have ew : jwt (jd4 T x).2 = jwt T.2 := jLs_wt hls
  obtain ⟨⟨hf1, hf2⟩, hb⟩ := hfa _ hls
  have hF : Ff_X6_freest G x T.2 = (.inl (some (.int (jfG T.2 x 4).1)), (jd4 T x).2) := rfl
  have hF2 : Ff_X6_fairness G x (jd4 T x).2 = (.inl (some (.double (jfr (jd4 T x).2 (x + 1)))), (jd4 T x).2) := rfl
  have hP2 : Pp_X6_fairness G x (jd4 T x).2 := ⟨hp4, hf1, hf2⟩
  have hv : (jd4 T x).1 = 31 * q + (jfG T.2 x 4).1.toInt64 := by rw [← hq]; rfl
  unfold jd5 at hE
  rw [hv] at hE
  simp only [jq_lload1 (M := M_X6_digest G) 102 dX6_digest_101 rfl, jq_aload0 (M := M_X6_digest G) 103 dX6_digest_102 rfl, jq_virt0 (M := M_X6_digest G) I_X6_freest 6 dX6_digest_103 rfl rfl rfl rfl, jq_i2l (M := M_X6_digest G) 107 dX6_digest_106 rfl, jq_stat2 (M := M_X6_digest G) I_X6_mixed dX6_digest_107 rfl (Or.inl rfl) rfl, jq_lstore1 (M := M_X6_digest G) 111 dX6_digest_110 rfl, eq_self, jref_10, jref_11, jref_12, jk_v, jk_n, jcat_nil, jcat_i, jcat_r, jcat_l, jcat_d, jc2_i, jc2_r, jc2_n, jc1_i, jc1_r, jrf_some, jwtq_wI, jwtq_wh, jR_wI, jI_wh, jR_wh, List.cons.injEq, Value.int.injEq, Value.ref.injEq, Value.long.injEq, Value.double.injEq, true_and, and_true, and_self, Nat.reduceAdd, Nat.reduceLeDiff, if_true, if_false, ite_true, ite_false, jc1q_i, jc1q_r, jc1q_l, jwtq_wR, jwtq_wY, jI_wI, Nat.reduceEqDiff, and_false, false_and, not_false_eq_true, not_true_eq_false, r0, PX_X6_freest, FX_X6_freest, Pp_X6_freest, hF, show jSR G T.2 x from hp, PX_X6_mixed, FX_X6_mixed, Pp_X6_mixed, Ff_X6_mixed]
  generalize (jd4 T x).2 = υ at *
  simp only [jq_lload1 (M := M_X6_digest G) 112 dX6_digest_111 rfl, jq_aload0 (M := M_X6_digest G) 113 dX6_digest_112 rfl, jq_virt0 (M := M_X6_digest G) I_X6_fairness 6 dX6_digest_113 rfl rfl rfl rfl, jq_stat1 (M := M_X6_digest G) I_X6_bitsOf dX6_digest_116 rfl (Or.inl rfl) rfl, jq_stat2 (M := M_X6_digest G) I_X6_mixed dX6_digest_119 rfl (Or.inl rfl) rfl, jq_lstore1 (M := M_X6_digest G) 123 dX6_digest_122 rfl, jq_aload0 (M := M_X6_digest G) 124 dX6_digest_123 rfl, jq_lload1 (M := M_X6_digest G) 125 dX6_digest_124 rfl, jq_virt1 (M := M_X6_digest G) I_X6_withBuffer 6 dX6_digest_125 rfl rfl rfl rfl, jq_lret (M := M_X6_digest G) dX6_digest_128 rfl, eq_self, jref_10, jref_11, jref_12, jk_v, jk_n, jcat_nil, jcat_i, jcat_r, jcat_l, jcat_d, jc2_i, jc2_r, jc2_n, jc1_i, jc1_r, jrf_some, jwtq_wI, jwtq_wh, jR_wI, jI_wh, jR_wh, List.cons.injEq, Value.int.injEq, Value.ref.injEq, Value.long.injEq, Value.double.injEq, true_and, and_true, and_self, Nat.reduceAdd, Nat.reduceLeDiff, if_true, if_false, ite_true, ite_false, jc1q_i, jc1q_r, jc1q_l, jwtq_wR, jwtq_wY, jI_wI, Nat.reduceEqDiff, and_false, false_and, not_false_eq_true, not_true_eq_false, ew, r0, PX_X6_fairness, FX_X6_fairness, hP2, hF2, hb, hp4, PX_X6_mixed, FX_X6_mixed, Pp_X6_mixed, Ff_X6_mixed, PX_X6_bitsOf, FX_X6_bitsOf, Pp_X6_bitsOf, Ff_X6_bitsOf, PX_X6_withBuffer, FX_X6_withBuffer, Pp_X6_withBuffer, Ff_X6_withBuffer, jnr_i]
  exact hE
theorem bd_X6_digest (G : jgG) : ∀ (As : List Value) (σ : jgS) (r : jgR), S_X6_digest G As σ r → jhs σ ≤ jhs r.2 ∧ jsl σ ≤ jsl r.2 ∧ (jent As).length ≤ I_X6_digest.2.2.2.2.1 ∧ Jr G (M_X6_digest G) 0 (jentry As I_X6_digest.2.2.2.2.1) [] σ (fun r' => r' = r) := by
  rintro As σ r ⟨⟨x, rfl, hp⟩, rfl⟩
  rw [FX_X6_digest]
  refine ⟨(jle2 (jLs_t (jd2_ls σ x) (jd4_ls (jd2 σ x) x)).1).1, (jle2 (jLs_t (jd2_ls σ x) (jd4_ls (jd2 σ x) x)).1).2, by simp [jent, Value.category, I_X6_digest], ?_⟩
  show Jr G (M_X6_digest G) 0 [some (.ref x), none, none, none] [] σ (fun r' => r' = Ff_X6_digest G x σ)
  obtain ⟨hp, hfa⟩ := hp
  have hp0 : jSR G σ x := hp
  obtain ⟨⟨r0, r1, r2, r3, r4⟩, hT, hH, hB, hL, ⟨⟨x1, x2⟩, x3, x4⟩, hu, hh⟩ := id hp
  have hls := jd2_ls σ x
  have hp2 := jLs_SR hls hp0
  simp only [jq_ldc2 (M := M_X6_digest G) (.long 2683) 3 dX6_digest_0 rfl rfl, jq_lstore1 (M := M_X6_digest G) 4 dX6_digest_3 rfl, jq_iconst (M := M_X6_digest G) 0 5 dX6_digest_4 (by decide) rfl, jq_istore3 (M := M_X6_digest G) 6 dX6_digest_5 rfl, eq_self, jref_10, jref_11, jref_12, jk_v, jk_n, jcat_nil, jcat_i, jcat_r, jcat_l, jcat_d, jc2_i, jc2_r, jc2_n, jc1_i, jc1_r, jrf_some, jwtq_wI, jwtq_wh, jR_wI, jI_wh, jR_wh, List.cons.injEq, Value.int.injEq, Value.ref.injEq, Value.long.injEq, Value.double.injEq, true_and, and_true, and_self, Nat.reduceAdd, Nat.reduceLeDiff, if_true, if_false, ite_true, ite_false, jc1q_i, jc1q_r, jc1q_l, jwtq_wR, jwtq_wY, jI_wI, Nat.reduceEqDiff, and_false, false_and, not_false_eq_true, not_true_eq_false]
  refine lp1_X6_digest hp0 (fun k => ?_)
  simp only [jq_iconst (M := M_X6_digest G) 0 30 dX6_digest_29 (by decide) rfl, jq_istore3 (M := M_X6_digest G) 31 dX6_digest_30 rfl, eq_self, jref_10, jref_11, jref_12, jk_v, jk_n, jcat_nil, jcat_i, jcat_r, jcat_l, jcat_d, jc2_i, jc2_r, jc2_n, jc1_i, jc1_r, jrf_some, jwtq_wI, jwtq_wh, jR_wI, jI_wh, jR_wh, List.cons.injEq, Value.int.injEq, Value.ref.injEq, Value.long.injEq, Value.double.injEq, true_and, and_true, and_self, Nat.reduceAdd, Nat.reduceLeDiff, if_true, if_false, ite_true, ite_false, jc1q_i, jc1q_r, jc1q_l, jwtq_wR, jwtq_wY, jI_wI, Nat.reduceEqDiff, and_false, false_and, not_false_eq_true, not_true_eq_false]
  refine lp2_X6_digest hp0 (fun k => ?_)
  have ew : jwt (jd2 σ x).2 = jwt σ := jLs_wt hls
  have hF : Ff_X6_withReaders G x (jh3 σ (x + 1) (jn σ (x + 1)) (mhf (σ.1 (x + 1 + 3)) 4 (mhf (jctV σ (x + 1) (x + 33)) 13 2683))) σ = (.inl (some (.long (jd2 σ x).1)), (jd2 σ x).2) := rfl
  simp only [jq_aload0 (M := M_X6_digest G) 58 dX6_digest_57 rfl, jq_lload1 (M := M_X6_digest G) 59 dX6_digest_58 rfl, jq_virt1 (M := M_X6_digest G) I_X6_withRows 6 dX6_digest_59 rfl rfl rfl rfl, jq_lstore1 (M := M_X6_digest G) 63 dX6_digest_62 rfl, jq_aload0 (M := M_X6_digest G) 64 dX6_digest_63 rfl, jq_lload1 (M := M_X6_digest G) 65 dX6_digest_64 rfl, jq_virt1 (M := M_X6_digest G) I_X6_withReaders 6 dX6_digest_65 rfl rfl rfl rfl, jq_lstore1 (M := M_X6_digest G) 69 dX6_digest_68 rfl, eq_self, jref_10, jref_11, jref_12, jk_v, jk_n, jcat_nil, jcat_i, jcat_r, jcat_l, jcat_d, jc2_i, jc2_r, jc2_n, jc1_i, jc1_r, jrf_some, jwtq_wI, jwtq_wh, jR_wI, jI_wh, jR_wh, List.cons.injEq, Value.int.injEq, Value.ref.injEq, Value.long.injEq, Value.double.injEq, true_and, and_true, and_self, Nat.reduceAdd, Nat.reduceLeDiff, if_true, if_false, ite_true, ite_false, jc1q_i, jc1q_r, jc1q_l, jwtq_wR, jwtq_wY, jI_wI, Nat.reduceEqDiff, and_false, false_and, not_false_eq_true, not_true_eq_false, r0, r1, r2, r3, r4, PX_X6_withRows, FX_X6_withRows, Pp_X6_withRows, Ff_X6_withRows, PX_X6_withReaders, FX_X6_withReaders, Pp_X6_withReaders, hF, show jSR G σ x from hp]
  have r0' : jo G (jwt (jd2 σ x).2) x 6 := hp2.1.1
  show Jr G (M_X6_digest G) _ _ _ _ (fun r' => r' = ((.inl (some (.long (jd5 (jd4 (jd2 σ x) x) x))), (jd4 (jd2 σ x) x).2) : jgR))
  have hfa2 : ∀ τ, jLs x (jd2 σ x).2 τ → jFair τ (x + 1) ∧ jbp (jfr τ (x + 1)) := fun τ h => hfa τ (jLs_t hls h)
  generalize jd2 σ x = T at *
  simp only [jq_aload0 (M := M_X6_digest G) 70 dX6_digest_69 rfl, jq_lload1 (M := M_X6_digest G) 71 dX6_digest_70 rfl, jq_virt1 (M := M_X6_digest G) I_X6_withGroups 6 dX6_digest_71 rfl rfl rfl rfl, jq_lstore1 (M := M_X6_digest G) 75 dX6_digest_74 rfl, jq_iconst (M := M_X6_digest G) 0 76 dX6_digest_75 (by decide) rfl, jq_istore3 (M := M_X6_digest G) 77 dX6_digest_76 rfl, eq_self, jref_10, jref_11, jref_12, jk_v, jk_n, jcat_nil, jcat_i, jcat_r, jcat_l, jcat_d, jc2_i, jc2_r, jc2_n, jc1_i, jc1_r, jrf_some, jwtq_wI, jwtq_wh, jR_wI, jI_wh, jR_wh, List.cons.injEq, Value.int.injEq, Value.ref.injEq, Value.long.injEq, Value.double.injEq, true_and, and_true, and_self, Nat.reduceAdd, Nat.reduceLeDiff, if_true, if_false, ite_true, ite_false, jc1q_i, jc1q_r, jc1q_l, jwtq_wR, jwtq_wY, jI_wI, Nat.reduceEqDiff, and_false, false_and, not_false_eq_true, not_true_eq_false, r0', PX_X6_withGroups, FX_X6_withGroups, Pp_X6_withGroups, Ff_X6_withGroups, show jSR G T.2 x from hp2]
  refine lp3_X6_digest hp2 (fun k => ?_)
  exact lp4_X6_digest (Φ := fun r' => r' = ((.inl (some (.long (jd5 (jd4 T x) x))), (jd4 T x).2) : jgR)) hp2 hfa2 rfl _ rfl
theorem met_X6_digest {l : Launch} (hl : l.stackTraces = false) (D : va_G) (cy : Nat → ClassId) (G : jgG) : jMet l D cy G I_X6_digest (S_X6_digest G) :=
  jr_met hl (M_X6_digest G) I_X6_digest (S_X6_digest G) RX6 rfl (by decide) rfl rfl rfl rfl (fun h => (by cases h)) jmAI jmAL (fun R h1 h2 => List.forall_mem_cons.mpr ⟨jpokF (r := (RX6, TX6, 4)) rfl jcls6 (by decide) (by decide) jm_274 (fun h => (by cases h)), List.forall_mem_cons.mpr ⟨jpokF (r := (RX5, TX5, 8)) rfl jcls5 (by decide) (by decide) jm_165 (fun h => (by cases h)), List.forall_mem_cons.mpr ⟨Or.inl ⟨_, rfl, jm_393⟩, List.forall_mem_cons.mpr ⟨⟨⟨jm_397, jm_50, jd_X6_count, ⟨by rw [h1]; exact Nat.le_of_ble_eq_true rfl, by rw [h2]; exact Nat.le_of_ble_eq_true rfl⟩, Or.inl ⟨rfl, jm_394, jm_395, jm_396, rfl, Nat.le_of_ble_eq_true rfl, _, rfl, rfl⟩⟩, met_X6_count hl D cy G⟩, List.forall_mem_cons.mpr ⟨⟨⟨jm_491, jm_50, jd_X6_mixed, ⟨by rw [h1]; exact Nat.le_of_ble_eq_true rfl, by rw [h2]; exact Nat.le_of_ble_eq_true rfl⟩, Or.inr (Or.inl ⟨rfl, jm_489, jm_490, rfl⟩)⟩, met_X6_mixed hl D cy G⟩, List.forall_mem_cons.mpr ⟨⟨⟨jm_496, jm_50, jd_X6_withRows, ⟨by rw [h1]; exact Nat.le_of_ble_eq_true rfl, by rw [h2]; exact Nat.le_of_ble_eq_true rfl⟩, Or.inl ⟨rfl, jm_493, jm_495, jm_6, rfl, Nat.le_of_ble_eq_true rfl, _, rfl, rfl⟩⟩, met_X6_withRows hl D cy G⟩, List.forall_mem_cons.mpr ⟨⟨⟨jm_534, jm_50, jd_X6_withReaders, ⟨by rw [h1]; exact Nat.le_of_ble_eq_true rfl, by rw [h2]; exact Nat.le_of_ble_eq_true rfl⟩, Or.inl ⟨rfl, jm_531, jm_533, jm_9, rfl, Nat.le_of_ble_eq_true rfl, _, rfl, rfl⟩⟩, met_X6_withReaders hl D cy G⟩, List.forall_mem_cons.mpr ⟨⟨⟨jm_555, jm_50, jd_X6_withGroups, ⟨by rw [h1]; exact Nat.le_of_ble_eq_true rfl, by rw [h2]; exact Nat.le_of_ble_eq_true rfl⟩, Or.inl ⟨rfl, jm_552, jm_554, jm_10, rfl, Nat.le_of_ble_eq_true rfl, _, rfl, rfl⟩⟩, met_X6_withGroups hl D cy G⟩, List.forall_mem_cons.mpr ⟨⟨⟨jm_567, jm_50, jd_X6_ifPassed, ⟨by rw [h1]; exact Nat.le_of_ble_eq_true rfl, by rw [h2]; exact Nat.le_of_ble_eq_true rfl⟩, Or.inl ⟨rfl, jm_564, jm_565, jm_566, rfl, Nat.le_of_ble_eq_true rfl, _, rfl, rfl⟩⟩, met_X6_ifPassed hl D cy G⟩, List.forall_mem_cons.mpr ⟨⟨⟨jm_337, jm_50, jd_X6_freest, ⟨by rw [h1]; exact Nat.le_of_ble_eq_true rfl, by rw [h2]; exact Nat.le_of_ble_eq_true rfl⟩, Or.inl ⟨rfl, jm_581, jm_335, jm_336, rfl, Nat.le_of_ble_eq_true rfl, _, rfl, rfl⟩⟩, met_X6_freest hl D cy G⟩, List.forall_mem_cons.mpr ⟨⟨⟨jm_381, jm_50, jd_X6_fairness, ⟨by rw [h1]; exact Nat.le_of_ble_eq_true rfl, by rw [h2]; exact Nat.le_of_ble_eq_true rfl⟩, Or.inl ⟨rfl, jm_582, jm_379, jm_380, rfl, Nat.le_of_ble_eq_true rfl, _, rfl, rfl⟩⟩, met_X6_fairness hl D cy G⟩, List.forall_mem_cons.mpr ⟨⟨⟨jm_585, jm_50, jd_X6_bitsOf, ⟨by rw [h1]; exact Nat.le_of_ble_eq_true rfl, by rw [h2]; exact Nat.le_of_ble_eq_true rfl⟩, Or.inr (Or.inl ⟨rfl, jm_583, jm_584, rfl⟩)⟩, met_X6_bitsOf hl D cy G⟩, List.forall_mem_cons.mpr ⟨⟨⟨jm_592, jm_50, jd_X6_withBuffer, ⟨by rw [h1]; exact Nat.le_of_ble_eq_true rfl, by rw [h2]; exact Nat.le_of_ble_eq_true rfl⟩, Or.inl ⟨rfl, jm_589, jm_591, jm_11, rfl, Nat.le_of_ble_eq_true rfl, _, rfl, rfl⟩⟩, met_X6_withBuffer hl D cy G⟩, fun _ h => nomatch h⟩⟩⟩⟩⟩⟩⟩⟩⟩⟩⟩⟩⟩) (fun h => absurd rfl h) (fun _ h => nomatch h) (bd_X6_digest G)
