/-! the law: the loop, and the whole of it -/
section KL
variable {G : jgG} {n : Nat} {f : Nat → Int32} {s x o h0 s0 : Nat} {Φ : jgR → Prop}
theorem kl_head {c : Nat} {σ : jgS} (J : kJ G n f s x o c h0 s0 σ) (hc : 4 * c + 4 ≤ n) (hn : n ≤ 2048) (k : ∀ (l5 l6 l7 l8 : Option Value) (σ' : jgS), kJ G n f s x o (c + 1) h0 s0 σ' → Jr G (M_L_law G) 1527 [some (.ref s), some (.ref x), some (.ref (x + 233)), some (.ref o), some (.int (nI (4 * c))), l5, l6, l7, l8] [] σ' Φ) (l5 l6 l7 l8 : Option Value) : Jr G (M_L_law G) 23 [some (.ref s), some (.ref x), some (.ref (x + 233)), some (.ref o), some (.int (nI (4 * c))), l5, l6, l7, l8] [] σ Φ := by
  obtain ⟨hF, ho, -, hs1, hs2⟩ := id J
  obtain ⟨⟨i1, v1, q1⟩, ⟨i2, v2, q2⟩, ⟨i3, v3, q3⟩, v0, q0⟩ := kix hc hn
  have e4 : Int32.ofNat n - 4 = nI (n - 4) := pk_sub (a := n) (b := 4) (by omega)
  have hg : ¬ nI (n - 4) < nI (4 * c) := nI_nlt (by omega) (by omega)
  simp only [jq_iloadW4 (M := M_L_law G) 25 dL_law_23 rfl, jq_aload0 (M := M_L_law G) 26 dL_law_25 rfl, jq_iconst (M := M_L_law G) 4 28 dL_law_27 (by decide) rfl, jq_isub (M := M_L_law G) 29 dL_law_28 rfl, jq_icmp_gt (M := M_L_law G) 1533 32 dL_law_29 (by decide) rfl, jq_aload0 (M := M_L_law G) 33 dL_law_32 rfl, jq_iloadW4 (M := M_L_law G) 35 dL_law_33 rfl, jq_iaX (M := M_L_law G) 36 dL_law_35 rfl n f hs1 hs2, jq_bipush (M := M_L_law G) 31 38 dL_law_36 (by decide) rfl, jq_iand (M := M_L_law G) 39 dL_law_38 rfl, jq_alX (M := M_L_law G) 27 dL_law_26 rfl n f hs1 hs2, eq_self, jref_10, jref_11, jref_12, jk_v, jk_n, jcat_nil, jcat_i, jcat_r, jcat_l, jcat_d, jc2_i, jc2_r, jc2_n, jc1_i, jc1_r, jrf_some, jwtq_wI, jwtq_wh, jR_wI, jI_wh, jR_wh, List.cons.injEq, Value.int.injEq, Value.ref.injEq, Value.long.injEq, Value.double.injEq, true_and, and_true, and_self, Nat.reduceAdd, Nat.reduceLeDiff, if_true, if_false, ite_true, ite_false, jc1q_i, jc1q_r, jc1q_l, jwtq_wR, jwtq_wY, jI_wI, Nat.reduceEqDiff, and_false, false_and, not_false_eq_true, not_true_eq_false, e4, hg, v0, q0]
  rw [jq_tsw (M := M_L_law G) dL_law_39]
  generalize f (4 * c) &&& 31 = y
  refine ⟨fun _ => (jtgt_eq (t := 1527) (by decide)).mpr (k _ _ _ _ _ (kJ_s J (kF_mono (Nat.le_succ c) hF) ⟨rfl, Nat.le_succ _, Nat.le_add_right _ _⟩)), fun h => ?_⟩
  have h26 : (y.toInt - 0).toNat < 26 := by omega
  generalize (y.toInt - 0).toNat = q at h26
  match q, h26 with
  | 0, _ => exact ⟨117, rfl, (jtgt_eq (t := 156) (by decide)).mpr (kl_0 J hc hn k l5 l6 l7 l8)⟩
  | 1, _ => exact ⟨185, rfl, (jtgt_eq (t := 224) (by decide)).mpr (kl_1 J hc hn k l5 l6 l7 l8)⟩
  | 2, _ => exact ⟨253, rfl, (jtgt_eq (t := 292) (by decide)).mpr (kl_2 J hc hn k l5 l6 l7 l8)⟩
  | 3, _ => exact ⟨309, rfl, (jtgt_eq (t := 348) (by decide)).mpr (kl_3 J hc hn k l5 l6 l7 l8)⟩
  | 4, _ => exact ⟨322, rfl, (jtgt_eq (t := 361) (by decide)).mpr (kl_4 J hc hn k l5 l6 l7 l8)⟩
  | 5, _ => exact ⟨390, rfl, (jtgt_eq (t := 429) (by decide)).mpr (kl_5 J hc hn k l5 l6 l7 l8)⟩
  | 6, _ => exact ⟨458, rfl, (jtgt_eq (t := 497) (by decide)).mpr (kl_6 J hc hn k l5 l6 l7 l8)⟩
  | 7, _ => exact ⟨526, rfl, (jtgt_eq (t := 565) (by decide)).mpr (kl_7 J hc hn k l5 l6 l7 l8)⟩
  | 8, _ => exact ⟨594, rfl, (jtgt_eq (t := 633) (by decide)).mpr (kl_8 J hc hn k l5 l6 l7 l8)⟩
  | 9, _ => exact ⟨662, rfl, (jtgt_eq (t := 701) (by decide)).mpr (kl_9 J hc hn k l5 l6 l7 l8)⟩
  | 10, _ => exact ⟨718, rfl, (jtgt_eq (t := 757) (by decide)).mpr (kl_10 J hc hn k l5 l6 l7 l8)⟩
  | 11, _ => exact ⟨774, rfl, (jtgt_eq (t := 813) (by decide)).mpr (kl_11 J hc hn k l5 l6 l7 l8)⟩
  | 12, _ => exact ⟨830, rfl, (jtgt_eq (t := 869) (by decide)).mpr (kl_12 J hc hn k l5 l6 l7 l8)⟩
  | 13, _ => exact ⟨843, rfl, (jtgt_eq (t := 882) (by decide)).mpr (kl_13 J hc hn k l5 l6 l7 l8)⟩
  | 14, _ => exact ⟨856, rfl, (jtgt_eq (t := 895) (by decide)).mpr (kl_14 J hc hn k l5 l6 l7 l8)⟩
  | 15, _ => exact ⟨900, rfl, (jtgt_eq (t := 939) (by decide)).mpr (kl_15 J hc hn k l5 l6 l7 l8)⟩
  | 16, _ => exact ⟨944, rfl, (jtgt_eq (t := 983) (by decide)).mpr (kl_16 J hc hn k l5 l6 l7 l8)⟩
  | 17, _ => exact ⟨1012, rfl, (jtgt_eq (t := 1051) (by decide)).mpr (kl_17 J hc hn k l5 l6 l7 l8)⟩
  | 18, _ => exact ⟨1080, rfl, (jtgt_eq (t := 1119) (by decide)).mpr (kl_18 J hc hn k l5 l6 l7 l8)⟩
  | 19, _ => exact ⟨1160, rfl, (jtgt_eq (t := 1199) (by decide)).mpr (kl_19 J hc hn k l5 l6 l7 l8)⟩
  | 20, _ => exact ⟨1216, rfl, (jtgt_eq (t := 1255) (by decide)).mpr (kl_20 J hc hn k l5 l6 l7 l8)⟩
  | 21, _ => exact ⟨1272, rfl, (jtgt_eq (t := 1311) (by decide)).mpr (kl_21 J hc hn k l5 l6 l7 l8)⟩
  | 22, _ => exact ⟨1352, rfl, (jtgt_eq (t := 1391) (by decide)).mpr (kl_22 J hc hn k l5 l6 l7 l8)⟩
  | 23, _ => exact ⟨1420, rfl, (jtgt_eq (t := 1459) (by decide)).mpr (kl_23 J hc hn k l5 l6 l7 l8)⟩
  | 24, _ => exact ⟨1433, rfl, (jtgt_eq (t := 1472) (by decide)).mpr (kl_24 J hc hn k l5 l6 l7 l8)⟩
  | 25, _ => exact ⟨1474, rfl, (jtgt_eq (t := 1513) (by decide)).mpr (kl_25 J hc hn k l5 l6 l7 l8)⟩
  | q + 26, h => exact absurd h (by omega)
theorem kl_out {c : Nat} {σ : jgS} (J : kJ G n f s x o c h0 s0 σ) (hc : n < 4 * c + 4) (hc2 : 4 * c ≤ n) (hn : n ≤ 2048) (hΦ : Φ (.inl (some (.int 1)), σ)) (l5 l6 l7 l8 : Option Value) : Jr G (M_L_law G) 23 [some (.ref s), some (.ref x), some (.ref (x + 233)), some (.ref o), some (.int (nI (4 * c))), l5, l6, l7, l8] [] σ Φ := by
  obtain ⟨hF, ho, -, hs1, hs2⟩ := id J
  have hg : Int32.ofNat n - 4 < nI (4 * c) := by
    by_cases h4 : 4 ≤ n
    · have e4 : Int32.ofNat n - 4 = nI (n - 4) := pk_sub (a := n) (b := 4) h4
      rw [e4]
      exact nI_lt (by omega) (by omega)
    · have h0 : Int32.ofNat n - 4 < 0 := pk_sneg (a := n) (b := 4) (by decide) (by omega)
      exact Int32.lt_of_lt_of_le h0 (nI_pos' (by omega))
  simp only [jq_iloadW4 (M := M_L_law G) 25 dL_law_23 rfl, jq_aload0 (M := M_L_law G) 26 dL_law_25 rfl, jq_iconst (M := M_L_law G) 4 28 dL_law_27 (by decide) rfl, jq_isub (M := M_L_law G) 29 dL_law_28 rfl, jq_icmp_gt (M := M_L_law G) 1533 32 dL_law_29 (by decide) rfl, jq_alX (M := M_L_law G) 27 dL_law_26 rfl n f hs1 hs2, jq_iconst (M := M_L_law G) 1 1534 dL_law_1533 (by decide) rfl, jq_iret (M := M_L_law G) .boolean dL_law_1534 rfl, eq_self, jref_10, jref_11, jref_12, jk_v, jk_n, jcat_nil, jcat_i, jcat_r, jcat_l, jcat_d, jc2_i, jc2_r, jc2_n, jc1_i, jc1_r, jrf_some, jwtq_wI, jwtq_wh, jR_wI, jI_wh, jR_wh, List.cons.injEq, Value.int.injEq, Value.ref.injEq, Value.long.injEq, Value.double.injEq, true_and, and_true, and_self, Nat.reduceAdd, Nat.reduceLeDiff, if_true, if_false, ite_true, ite_false, jc1q_i, jc1q_r, jc1q_l, jwtq_wR, jwtq_wY, jI_wI, Nat.reduceEqDiff, and_false, false_and, not_false_eq_true, not_true_eq_false, hg, jnr_b1]
  exact hΦ
theorem kl_loop (hn : n ≤ 2048) (hΦ : ∀ (c : Nat) (σ : jgS), 4 * c ≤ n → kJ G n f s x o c h0 s0 σ → Φ (.inl (some (.int 1)), σ)) : ∀ (d c : Nat) (σ : jgS) (l5 l6 l7 l8 : Option Value), n < 4 * c + 4 * d + 4 → 4 * c ≤ n → kJ G n f s x o c h0 s0 σ → Jr G (M_L_law G) 23 [some (.ref s), some (.ref x), some (.ref (x + 233)), some (.ref o), some (.int (nI (4 * c))), l5, l6, l7, l8] [] σ Φ
  | 0, c, σ, l5, l6, l7, l8, h1, h2, J => kl_out J (by omega) h2 hn (hΦ c σ h2 J) l5 l6 l7 l8
  | d + 1, c, σ, l5, l6, l7, l8, h1, h2, J => by
    by_cases hc : 4 * c + 4 ≤ n
    · refine kl_head J hc hn (fun a5 a6 a7 a8 τ J2 => ?_) l5 l6 l7 l8
      have ih := kl_loop hn hΦ d (c + 1) τ a5 a6 a7 a8 (by omega) (by omega) J2
      have e4 : nI (4 * c) + 4 = nI (4 * (c + 1)) := nI_add (4 * c) 4
      simp only [jq_iinc4 (M := M_L_law G) 4 1530 dL_law_1527 (by decide) rfl, jq_goto (M := M_L_law G) 23 dL_law_1530 (by decide), eq_self, jref_10, jref_11, jref_12, jk_v, jk_n, jcat_nil, jcat_i, jcat_r, jcat_l, jcat_d, jc2_i, jc2_r, jc2_n, jc1_i, jc1_r, jrf_some, jwtq_wI, jwtq_wh, jR_wI, jI_wh, jR_wh, List.cons.injEq, Value.int.injEq, Value.ref.injEq, Value.long.injEq, Value.double.injEq, true_and, and_true, and_self, Nat.reduceAdd, Nat.reduceLeDiff, if_true, if_false, ite_true, ite_false, jc1q_i, jc1q_r, jc1q_l, jwtq_wR, jwtq_wY, jI_wI, Nat.reduceEqDiff, and_false, false_and, not_false_eq_true, not_true_eq_false, e4]
      exact ih
    · exact kl_out J (by omega) h2 hn (hΦ c σ h2 J) l5 l6 l7 l8
end KL
/-- the whole of the law, in the small machine -/
theorem kLaw {G : jgG} {n : Nat} {f : Nat → Int32} {s x : Nat} {σ : jgS} (hw : jwt σ = x) (hh : jhs σ = x) (hG : G.1 ≤ x) (hl : jLx G x) (hm : jLm7 G (x + 233)) (ho : G.2.2.2.1 (x + 239) = (9, 1)) (hg : (¬ G.1 ≤ G.2.1 ∧ G.2.2.2.2 G.2.1 = some (4, jLV)) ∧ ¬ G.1 ≤ G.2.2.1 ∧ G.2.2.2.2 G.2.2.1 = some (4, jGV)) (hs1 : ¬ G.1 ≤ s) (hs2 : G.2.2.2.2 s = some (n, f)) (hn : n ≤ 2048) : Jr G (M_L_law G) 0 [some (.ref s), none, none, none, none, none, none, none, none] [] σ (fun r => r.1 = .inl (some (.int 1)) ∧ jhs r.2 ≤ x + 240 + 512 ∧ jsl r.2 ≤ jsl σ + 4073 + 6 * 512) := by
  obtain ⟨⟨w1, u1, _⟩, ⟨w2, u2, _⟩, ⟨w3, u3, t3⟩⟩ := kZ_f hw hG hl
  have hF0 := kF_0 hw hG hl hm hg
  have a1 : jwt (jwn σ 4) = x + 1 := by rw [jwt_n, hw]
  have a2 : jhs (jwn σ 4) = x + 1 := by rw [jhs_n, hh]
  have b1 : jwt (jwn (kZ1 σ x) 11) = x + 233 + 1 := by rw [jwt_n, w1]
  have b2 : jhs (jwn (kZ1 σ x) 11) = x + 233 + 1 := by rw [jhs_n, u1, hh]
  have P6 : Pp_X6_init G x (jwn σ 4) := ⟨⟨⟨hG, by omega⟩, hl.1⟩, a1, a2, hl⟩
  have P7 : Pp_X7_init G (x + 233) (jwn (kZ1 σ x) 11) := ⟨⟨⟨by omega, by omega⟩, hm.1⟩, b1, b2, hm⟩
  have F6 : Ff_X6_init G x (jwn σ 4) = (.inl none, kZ1 σ x) := rfl
  have F7 : Ff_X7_init G (x + 233) (jwn (kZ1 σ x) 11) = (.inl none, kZ2 σ x) := rfl
  have u1' : jhs (kZ1 σ x) = x + 233 := by omega
  have u2' : jhs (kZ2 σ x) = x + 239 := by omega
  have k6 : (G.2.2.2.1 x).1 = 6 := hl.1
  have k7 : (G.2.2.2.1 (x + 233)).1 = 7 := hm.1
  simp only [jq_new (M := M_L_law G) 6 3 dL_law_0 rfl rfl rfl, jq_dupR (M := M_L_law G) 4 dL_law_3 rfl, jq_dupI (M := M_L_law G) 4 dL_law_3 rfl, jq_spec (M := M_L_law G) I_X6_init dL_law_4 rfl (Or.inl rfl) rfl, jq_astore1 (M := M_L_law G) 8 dL_law_7 rfl, jq_new (M := M_L_law G) 7 11 dL_law_8 rfl rfl rfl, jq_dupR (M := M_L_law G) 12 dL_law_11 rfl, jq_dupI (M := M_L_law G) 12 dL_law_11 rfl, jq_spec (M := M_L_law G) I_X7_init dL_law_12 rfl (Or.inl rfl) rfl, jq_astore2 (M := M_L_law G) 16 dL_law_15 rfl, jq_iconst (M := M_L_law G) 1 17 dL_law_16 (by decide) rfl, jq_nwL (M := M_L_law G) 19 dL_law_17 rfl, jq_astore3 (M := M_L_law G) 20 dL_law_19 rfl, jq_iconst (M := M_L_law G) 0 21 dL_law_20 (by decide) rfl, jq_istoreW4 (M := M_L_law G) 23 dL_law_21 rfl, eq_self, jref_10, jref_11, jref_12, jk_v, jk_n, jcat_nil, jcat_i, jcat_r, jcat_l, jcat_d, jc2_i, jc2_r, jc2_n, jc1_i, jc1_r, jrf_some, jwtq_wI, jwtq_wh, jR_wI, jI_wh, jR_wh, List.cons.injEq, Value.int.injEq, Value.ref.injEq, Value.long.injEq, Value.double.injEq, true_and, and_true, and_self, Nat.reduceAdd, Nat.reduceLeDiff, if_true, if_false, ite_true, ite_false, jc1q_i, jc1q_r, jc1q_l, jwtq_wR, jwtq_wY, jI_wI, Nat.reduceEqDiff, and_false, false_and, not_false_eq_true, not_true_eq_false, jcat_r, jobj0, hw, hh, k6, PX_X6_init, FX_X6_init, P6, F6, w1, u1', k7, PX_X7_init, FX_X7_init, P7, F7, w2, u2', ho, show jN 6 = 4 from rfl, show jN 7 = 11 from rfl, show ¬ (1 : Int32) < 0 from by decide, show (1 : Int32).toNatClampNeg = 1 from by decide, show (1 : Nat) ≤ 60000000 from by decide]
  show Jr G (M_L_law G) 23 [some (.ref s), some (.ref x), some (.ref (x + 233)), some (.ref (x + 239)), some (.int (nI (4 * 0))), none, none, none, none] [] (kZ3 σ x) _
  refine kl_loop (n := n) (f := f) (o := x + 239) (h0 := x + 240) (s0 := jsl σ + 4073) hn (fun c τ hc J => ⟨rfl, ?_, ?_⟩) 512 0 (kZ3 σ x) none none none none (by omega) (by omega) ⟨hF0, ⟨⟨by omega, by omega⟩, ho⟩, ⟨by omega, by omega⟩, hs1, hs2⟩
  · have h9 := J.2.2.1.1
    show jhs τ ≤ _
    omega
  · have h9 := J.2.2.1.2
    show jsl τ ≤ _
    omega
