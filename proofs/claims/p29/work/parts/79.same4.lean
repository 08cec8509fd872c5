/-! the law's same: time, shares, counts; the whole of it -/
section YE
variable {G : jgG} {c x N : Nat} {S Y : Nat → Int32} {τ : jgS} {Φ : jgR → Prop} {L : jLS} {t : Int32 × Int32 × Int32}
theorem ye_1 (C : yC G c x N S τ) {l11 : Option Value} (h11 : jgc2 l11 = true) (h : ∀ l14 l15, Jr G (M_L_same G) 834 [some (.ref x), some (.ref (x + 233)), some (.ref (x + 234)), some (.ref (x + 235)), some (.ref (x + 236)), some (.ref (x + 237)), some (.ref N), some (.int (yb S (mN S))), some (.int (yi S (mN S))), some (.int (ym S (mN S))), some (.int (mfb S 4).1), l11, some (.int (nI (mGcn (lmix S Y) 7))), some (.int (nI (jct (fun j => mGn (lmix S Y) 7 (25 + 9 * j + 3) = 3) (mN S)))), l14, l15] [] (lz τ x L (mGn (lmix S Y) 7) t) Φ) (l12 l13 l14 l15 : Option Value) : Jr G (M_L_same G) 772 [some (.ref x), some (.ref (x + 233)), some (.ref (x + 234)), some (.ref (x + 235)), some (.ref (x + 236)), some (.ref (x + 237)), some (.ref N), some (.int (yb S (mN S))), some (.int (yi S (mN S))), some (.int (ym S (mN S))), some (.int (mfb S 4).1), l11, l12, l13, l14, l15] [] (lz τ x L Y t) Φ := by
  obtain ⟨hF, hS, ⟨hQR, hPV, hT, hN⟩, hO, hc64, hNx⟩ := id C
  have h7 := hO.1.2
  have dQP : ¬ (x + 233) = (x + 235) := by omega
  have dRP : ¬ (x + 234) = (x + 235) := by omega
  have dRV : ¬ (x + 234) = (x + 236) := by omega
  have dPT : ¬ (x + 235) = (x + 237) := by omega
  have dVT : ¬ (x + 236) = (x + 237) := by omega
  have hcp := lz_cp (L := L) (Y := Y) (t := t) C
  have hO1 := (n8_O (lmix_e S Y) hO).1
  have hH1 := kI_ho (n8_I (lmix_e S Y) h7 hF.2.2)
  have v7 : vp_in 7 1000 := vp_in_nI (n := 7) (by decide) (by decide)
  have c7 : (7 : Int32).toNatClampNeg = 7 := by decide
  have hpa : ∀ Y', Ff_L_pass G 7 (x + 235) (x + 236) (lz τ x L Y' t) = (.inl (some (.int (nI (mGcn Y' 7)))), lz τ x L (mGn Y' 7) t) := fun Y' => by
    unfold Ff_L_pass
    rw [c7, lz_P, lz_lw]
  simp only [jq_aload1 (M := M_L_same G) 773 dL_same_772 rfl, jq_aload2 (M := M_L_same G) 774 dL_same_773 rfl, jq_aload3 (M := M_L_same G) 775 dL_same_774 rfl, jq_aloadW4 (M := M_L_same G) 777 dL_same_775 rfl, jq_stat4 (M := M_L_same G) I_L_copy dL_same_777 rfl (Or.inl rfl) rfl, jq_bipush (M := M_L_same G) 7 782 dL_same_780 (by decide) rfl, jq_aload3 (M := M_L_same G) 783 dL_same_782 rfl, jq_aloadW4 (M := M_L_same G) 785 dL_same_783 rfl, jq_stat3 (M := M_L_same G) I_L_pass dL_same_785 rfl (Or.inl rfl) rfl, jq_istoreW12 (M := M_L_same G) 790 dL_same_788 rfl, jq_iconst (M := M_L_same G) 0 791 dL_same_790 (by decide) rfl, jq_istoreW13 (M := M_L_same G) 793 dL_same_791 rfl, jq_iconst (M := M_L_same G) 0 794 dL_same_793 (by decide) rfl, jq_istoreW14 (M := M_L_same G) 796 dL_same_794 rfl, eq_self, jref_10, jref_11, jref_12, jk_v, jk_n, jcat_nil, jcat_i, jcat_r, jcat_l, jcat_d, jc2_i, jc2_r, jc2_n, jc1_i, jc1_r, jrf_some, jwtq_wI, jwtq_wh, jR_wI, jI_wh, jR_wh, List.cons.injEq, Value.int.injEq, Value.ref.injEq, Value.long.injEq, Value.double.injEq, true_and, and_true, and_self, Nat.reduceAdd, Nat.reduceLeDiff, if_true, if_false, ite_true, ite_false, jc1q_i, jc1q_r, jc1q_l, jwtq_wR, jwtq_wY, jI_wI, Nat.reduceEqDiff, and_false, false_and, not_false_eq_true, not_true_eq_false, hQR, hPV, hT, hT.1, hT.2, PX_L_copy, FX_L_copy, Pp_L_copy, PX_L_take, FX_L_take, Pp_L_take, Ff_L_take, lz_2, lz_wt, lz_P, lz_tk, dQP, dRP, dRV, dPT, dVT, hcp, PX_L_pass, FX_L_pass, Pp_L_pass, hO1, hH1, v7, hpa, h11]
  generalize mGn (lmix S Y) 7 = Y2 at *
  have C2 := yC_z L Y2 t C
  have yQ0 : (lz τ x L Y2 t).1 (x + 233) 0 = nI (mN S) := by
    have e : lS (lz τ x L Y2 t) (x + 233) (x + 234) 0 = S 0 := by rw [C2.2.1]
    exact e.trans hO.1.1
  have yV : ∀ i p, (lz τ x L Y2 t).1 (x + 236) (9 * i + p) = Y2 (25 + 9 * i + p) := fun i p => by
    have e := lj_r ((lz τ x L Y2 t).1 (x + 235)) ((lz τ x L Y2 t).1 (x + 236)) i p
    rw [← e]
    exact congrFun lz_P _
  obtain ⟨⟨a1, k1⟩, ⟨a2, k2⟩, hQR1⟩ := id hQR
  obtain ⟨⟨a3, k3⟩, ⟨a4, k4⟩, hPV1⟩ := id hPV
  refine jloop (P := fun i => Jr G (M_L_same G) 796 [some (.ref x), some (.ref (x + 233)), some (.ref (x + 234)), some (.ref (x + 235)), some (.ref (x + 236)), some (.ref (x + 237)), some (.ref N), some (.int (yb S (mN S))), some (.int (yi S (mN S))), some (.int (ym S (mN S))), some (.int (mfb S 4).1), l11, some (.int (nI (mGcn (lmix S Y) 7))), some (.int (nI (jct (fun j => Y2 (25 + 9 * j + 3) = 3) i))), some (.int (nI i)), l15] [] (lz τ x L Y2 t) Φ) (n := mN S) ?_ (fun i hlt ih => ?_)
  · show Jr G (M_L_same G) 796 _ _ _ _
    rw [jq_iloadW14 (M := M_L_same G) 798 dL_same_796 rfl]
    simp only [jq_aload1 (M := M_L_same G) 799 dL_same_798 rfl, jq_iconst (M := M_L_same G) 0 800 dL_same_799 (by decide) rfl, jq_iald (M := M_L_same G) 801 dL_same_800 rfl, jq_icmp_ge (M := M_L_same G) 834 804 dL_same_801 (by decide) rfl, eq_self, jref_10, jref_11, jref_12, jk_v, jk_n, jcat_nil, jcat_i, jcat_r, jcat_l, jcat_d, jc2_i, jc2_r, jc2_n, jc1_i, jc1_r, jrf_some, jwtq_wI, jwtq_wh, jR_wI, jI_wh, jR_wh, List.cons.injEq, Value.int.injEq, Value.ref.injEq, Value.long.injEq, Value.double.injEq, true_and, and_true, and_self, Nat.reduceAdd, Nat.reduceLeDiff, if_true, if_false, ite_true, ite_false, jc1q_i, jc1q_r, jc1q_l, jwtq_wR, jwtq_wY, jI_wI, Nat.reduceEqDiff, and_false, false_and, not_false_eq_true, not_true_eq_false, a1, k1, a2, k2, lz_wt, lv25_0, lv25_1, lv25_2, lv25_3, lv25_4, lv25_5, lv25_6, lv25_7, lv25_8, jcl_0, jcl_1, jcl_2, jcl_3, jcl_4, jcl_5, jcl_6, jcl_7, jcl_8, jcl_9, jcl_10, jcl_11, jcl_12, yQ0, Int32.le_refl]
    exact h _ _
  · show Jr G (M_L_same G) 796 _ _ _ _
    have hc : ¬ nI (mN S) ≤ nI i := nI_ge hlt (by omega)
    have hi7 : i < 7 := by omega
    rw [jct_s] at ih
    rw [jq_iloadW14 (M := M_L_same G) 798 dL_same_796 rfl]
    by_cases h1 : Y2 (25 + 9 * i + 3) = 3
    · rw [if_pos h1] at ih
      simp only [jq_aload1 (M := M_L_same G) 799 dL_same_798 rfl, jq_iconst (M := M_L_same G) 0 800 dL_same_799 (by decide) rfl, jq_iald (M := M_L_same G) 801 dL_same_800 rfl, jq_icmp_ge (M := M_L_same G) 834 804 dL_same_801 (by decide) rfl, jq_iloadW13 (M := M_L_same G) 806 dL_same_804 rfl, jq_aloadW4 (M := M_L_same G) 808 dL_same_806 rfl, jq_bipush (M := M_L_same G) 9 810 dL_same_808 (by decide) rfl, jq_iloadW14 (M := M_L_same G) 812 dL_same_810 rfl, jq_imul (M := M_L_same G) 813 dL_same_812 rfl, jq_iconst (M := M_L_same G) 3 814 dL_same_813 (by decide) rfl, jq_iadd (M := M_L_same G) 815 dL_same_814 rfl, jq_iald (M := M_L_same G) 816 dL_same_815 rfl, jq_iconst (M := M_L_same G) 3 817 dL_same_816 (by decide) rfl, jq_icmp_ne (M := M_L_same G) 824 820 dL_same_817 (by decide) rfl, jq_iconst (M := M_L_same G) 1 821 dL_same_820 (by decide) rfl, jq_goto (M := M_L_same G) 825 dL_same_821 (by decide), jq_iconst (M := M_L_same G) 0 825 dL_same_824 (by decide) rfl, jq_iadd (M := M_L_same G) 826 dL_same_825 rfl, jq_istoreW13 (M := M_L_same G) 828 dL_same_826 rfl, jq_iinc14 (M := M_L_same G) 1 831 dL_same_828 (by decide) rfl, jq_goto (M := M_L_same G) 796 dL_same_831 (by decide), eq_self, jref_10, jref_11, jref_12, jk_v, jk_n, jcat_nil, jcat_i, jcat_r, jcat_l, jcat_d, jc2_i, jc2_r, jc2_n, jc1_i, jc1_r, jrf_some, jwtq_wI, jwtq_wh, jR_wI, jI_wh, jR_wh, List.cons.injEq, Value.int.injEq, Value.ref.injEq, Value.long.injEq, Value.double.injEq, true_and, and_true, and_self, Nat.reduceAdd, Nat.reduceLeDiff, if_true, if_false, ite_true, ite_false, jc1q_i, jc1q_r, jc1q_l, jwtq_wR, jwtq_wY, jI_wI, Nat.reduceEqDiff, and_false, false_and, not_false_eq_true, not_true_eq_false, a1, k1, a2, k2, a4, k4, lz_wt, lv25_0, lv25_1, lv25_2, lv25_3, lv25_4, lv25_5, lv25_6, lv25_7, lv25_8, jcl_0, jcl_1, jcl_2, jcl_3, jcl_4, jcl_5, jcl_6, jcl_7, jcl_8, jcl_9, jcl_10, jcl_11, jcl_12, l9, lip_1, lip_2, lip_3, lip_4, lip_5, lip_6, lip_7, lip_8, lcl_0, lcl_1, lcl_2, lcl_3, lcl_4, lcl_5, lcl_6, lcl_7, lcl_8, lvp_0, lvp_1, lvp_2, lvp_3, lvp_4, lvp_5, lvp_6, lvp_7, lvp_8, hi7, yQ0, yV, hc, h1, nI_1] at ih ⊢
      exact ih
    · rw [if_neg h1] at ih
      simp only [jq_aload1 (M := M_L_same G) 799 dL_same_798 rfl, jq_iconst (M := M_L_same G) 0 800 dL_same_799 (by decide) rfl, jq_iald (M := M_L_same G) 801 dL_same_800 rfl, jq_icmp_ge (M := M_L_same G) 834 804 dL_same_801 (by decide) rfl, jq_iloadW13 (M := M_L_same G) 806 dL_same_804 rfl, jq_aloadW4 (M := M_L_same G) 808 dL_same_806 rfl, jq_bipush (M := M_L_same G) 9 810 dL_same_808 (by decide) rfl, jq_iloadW14 (M := M_L_same G) 812 dL_same_810 rfl, jq_imul (M := M_L_same G) 813 dL_same_812 rfl, jq_iconst (M := M_L_same G) 3 814 dL_same_813 (by decide) rfl, jq_iadd (M := M_L_same G) 815 dL_same_814 rfl, jq_iald (M := M_L_same G) 816 dL_same_815 rfl, jq_iconst (M := M_L_same G) 3 817 dL_same_816 (by decide) rfl, jq_icmp_ne (M := M_L_same G) 824 820 dL_same_817 (by decide) rfl, jq_iconst (M := M_L_same G) 1 821 dL_same_820 (by decide) rfl, jq_goto (M := M_L_same G) 825 dL_same_821 (by decide), jq_iconst (M := M_L_same G) 0 825 dL_same_824 (by decide) rfl, jq_iadd (M := M_L_same G) 826 dL_same_825 rfl, jq_istoreW13 (M := M_L_same G) 828 dL_same_826 rfl, jq_iinc14 (M := M_L_same G) 1 831 dL_same_828 (by decide) rfl, jq_goto (M := M_L_same G) 796 dL_same_831 (by decide), eq_self, jref_10, jref_11, jref_12, jk_v, jk_n, jcat_nil, jcat_i, jcat_r, jcat_l, jcat_d, jc2_i, jc2_r, jc2_n, jc1_i, jc1_r, jrf_some, jwtq_wI, jwtq_wh, jR_wI, jI_wh, jR_wh, List.cons.injEq, Value.int.injEq, Value.ref.injEq, Value.long.injEq, Value.double.injEq, true_and, and_true, and_self, Nat.reduceAdd, Nat.reduceLeDiff, if_true, if_false, ite_true, ite_false, jc1q_i, jc1q_r, jc1q_l, jwtq_wR, jwtq_wY, jI_wI, Nat.reduceEqDiff, and_false, false_and, not_false_eq_true, not_true_eq_false, a1, k1, a2, k2, a4, k4, lz_wt, lv25_0, lv25_1, lv25_2, lv25_3, lv25_4, lv25_5, lv25_6, lv25_7, lv25_8, jcl_0, jcl_1, jcl_2, jcl_3, jcl_4, jcl_5, jcl_6, jcl_7, jcl_8, jcl_9, jcl_10, jcl_11, jcl_12, l9, lip_1, lip_2, lip_3, lip_4, lip_5, lip_6, lip_7, lip_8, lcl_0, lcl_1, lcl_2, lcl_3, lcl_4, lcl_5, lcl_6, lcl_7, lcl_8, lvp_0, lvp_1, lvp_2, lvp_3, lvp_4, lvp_5, lvp_6, lvp_7, lvp_8, hi7, yQ0, yV, hc, h1, Int32.add_zero] at ih ⊢
      exact ih
theorem ye_2 (C : yC G c x N S τ) {l11 : Option Value} {d1 d2 : Int32} (hd1 : d1 = mPV S 7 (nI 0)) (hd2 : d2 = mPV S 7 (nI 1)) (h : ∀ l14 l15, Jr G (M_L_same G) 884 [some (.ref x), some (.ref (x + 233)), some (.ref (x + 234)), some (.ref (x + 235)), some (.ref (x + 236)), some (.ref (x + 237)), some (.ref N), some (.int (yb S (mN S))), some (.int (yi S (mN S))), some (.int (ym S (mN S))), some (.int (mfb S 4).1), l11, some (.int d1), some (.int d2), l14, l15] [] (jwL τ (x + 232) (mLk S 3 24)) Φ) (l14 l15 : Option Value) : Jr G (M_L_same G) 834 [some (.ref x), some (.ref (x + 233)), some (.ref (x + 234)), some (.ref (x + 235)), some (.ref (x + 236)), some (.ref (x + 237)), some (.ref N), some (.int (yb S (mN S))), some (.int (yi S (mN S))), some (.int (ym S (mN S))), some (.int (mfb S 4).1), l11, some (.int d1), some (.int d2), l14, l15] [] τ Φ := by
  subst hd1 hd2
  obtain ⟨hF, hS, ⟨hQR, hPV, hT, hN⟩, hO, hc64, hNx⟩ := id C
  have hx6 : jo G (jwt τ) x 6 := hF.1.1.1
  have p0 : Ff_X6_ifPassed G x 7 0 τ = (.inl (some (.int (mPV S 7 (nI 0)))), τ) := nl_ifPassed hF (w := 0) (by decide)
  have p1 : Ff_X6_ifPassed G x 7 1 τ = (.inl (some (.int (mPV S 7 (nI 1)))), τ) := nl_ifPassed hF (w := 1) (by decide)
  have fr := nl_freest hF
  have hF2 : nF G c (jwL τ (x + 232) (mLk S 3 24)) x S := nF_ls hF ⟨rfl, fun a n => funext fun k => jwL_out n⟩
  obtain ⟨k, hk, ek, hP, fa⟩ := nl_fair hF2 hc64
  obtain ⟨b1, b2, b3⟩ := kbit hk
  have em : ym S (mN S) = nI k := ek
  unfold kd2 kd1 at b2 b3 fa
  unfold kd1 at b1
  rw [em]
  rw [em] at h
  simp only [jq_aload0 (M := M_L_same G) 835 dL_same_834 rfl, jq_bipush (M := M_L_same G) 7 837 dL_same_835 (by decide) rfl, jq_iconst (M := M_L_same G) 0 838 dL_same_837 (by decide) rfl, jq_virt2 (M := M_L_same G) I_X6_ifPassed 6 dL_same_838 rfl rfl rfl rfl, jq_iloadW12 (M := M_L_same G) 843 dL_same_841 rfl, jq_icmp_ne (M := M_L_same G) 882 846 dL_same_843 (by decide) rfl, jq_aload0 (M := M_L_same G) 847 dL_same_846 rfl, jq_bipush (M := M_L_same G) 7 849 dL_same_847 (by decide) rfl, jq_iconst (M := M_L_same G) 1 850 dL_same_849 (by decide) rfl, jq_virt2 (M := M_L_same G) I_X6_ifPassed 6 dL_same_850 rfl rfl rfl rfl, jq_iloadW13 (M := M_L_same G) 855 dL_same_853 rfl, jq_icmp_ne (M := M_L_same G) 882 858 dL_same_855 (by decide) rfl, jq_aload0 (M := M_L_same G) 859 dL_same_858 rfl, jq_virt0 (M := M_L_same G) I_X6_freest 6 dL_same_859 rfl rfl rfl rfl, jq_iloadW10 (M := M_L_same G) 864 dL_same_862 rfl, jq_icmp_ne (M := M_L_same G) 882 867 dL_same_864 (by decide) rfl, jq_aload0 (M := M_L_same G) 868 dL_same_867 rfl, jq_virt0 (M := M_L_same G) I_X6_fairness 6 dL_same_868 rfl rfl rfl rfl, jq_dconst (M := M_L_same G) 4607182418800017408 872 dL_same_871 (by decide +kernel) rfl, jq_dconst (M := M_L_same G) 4607182418800017408 873 dL_same_872 (by decide +kernel) rfl, jq_iloadW9 (M := M_L_same G) 875 dL_same_873 rfl, jq_i2d (M := M_L_same G) 876 dL_same_875 rfl, jq_dadd (M := M_L_same G) 877 dL_same_876 rfl, jq_ddiv (M := M_L_same G) 878 dL_same_877 rfl, jq_dcmp (M := M_L_same G) 879 dL_same_878 rfl, jq_if_eq (M := M_L_same G) 884 882 dL_same_879 (by decide) rfl, eq_self, jref_10, jref_11, jref_12, jk_v, jk_n, jcat_nil, jcat_i, jcat_r, jcat_l, jcat_d, jc2_i, jc2_r, jc2_n, jc1_i, jc1_r, jrf_some, jwtq_wI, jwtq_wh, jR_wI, jI_wh, jR_wh, List.cons.injEq, Value.int.injEq, Value.ref.injEq, Value.long.injEq, Value.double.injEq, true_and, and_true, and_self, Nat.reduceAdd, Nat.reduceLeDiff, if_true, if_false, ite_true, ite_false, jc1q_i, jc1q_r, jc1q_l, jwtq_wR, jwtq_wY, jI_wI, Nat.reduceEqDiff, and_false, false_and, not_false_eq_true, not_true_eq_false, jwL_2, jwL_wt, hx6, hF.1, PX_X6_ifPassed, FX_X6_ifPassed, Pp_X6_ifPassed, p0, p1, PX_X6_freest, FX_X6_freest, Pp_X6_freest, fr, PX_X6_fairness, FX_X6_fairness, hP, fa, b1, b2, b3]
  exact h _ _
theorem ye_3 (C : yC G c x N S τ) (hf : ∀ k, k < 4 → τ.1 N k = yf S (mN S) k) {l11 l12 l13 : Option Value} (h13 : jgc2 l13 = true) (h : Φ (.inl (some (.int 1)), τ)) (l14 l15 : Option Value) : Jr G (M_L_same G) 884 [some (.ref x), some (.ref (x + 233)), some (.ref (x + 234)), some (.ref (x + 235)), some (.ref (x + 236)), some (.ref (x + 237)), some (.ref N), some (.int (yb S (mN S))), some (.int (yi S (mN S))), some (.int (ym S (mN S))), some (.int (mfb S 4).1), l11, l12, l13, l14, l15] [] τ Φ := by
  obtain ⟨hF, hS, ⟨hQR, hPV, hT, hN⟩, hO, hc64, hNx⟩ := id C
  have h7 := hO.1.2
  obtain ⟨⟨a1, k1⟩, ⟨a2, k2⟩, hQR1⟩ := id hQR
  have hx6 : jo G (jwt τ) x 6 := hF.1.1.1
  have yR : ∀ i p, τ.1 (x + 234) (9 * i + p) = S (25 + 9 * i + p) := fun i p => by rw [← hS]; exact (lj_r _ _ i p).symm
  have yR0 : ∀ i, τ.1 (x + 234) (9 * i) = S (25 + 9 * i + 0) := fun i => yR i 0
  have yQ : ∀ k, k < 25 → τ.1 (x + 233) k = S k := fun k h => by rw [← hS]; exact (lj_q h).symm
  have yQ0 := yQ 0 (by decide)
  have yQ3 := yQ 3 (by decide)
  have hN1 := hN.1
  have hN2 := hN.2
  have q1 : τ.1 (x + 233) 1 = S 1 := yQ _ (by decide)
  have q2 : τ.1 (x + 233) 2 = S 2 := yQ _ (by decide)
  have q4 : τ.1 (x + 233) 4 = S 4 := yQ _ (by decide)
  have c0 : Ff_X6_count G x 0 τ = (.inl (some (.int (S 3))), τ) := nl_count hF (w := 0) (by decide)
  have c1 : Ff_X6_count G x 1 τ = (.inl (some (.int (S 0))), τ) := nl_count hF (w := 1) (by decide)
  have c6 : Ff_X6_count G x 6 τ = (.inl (some (.int (S 1))), τ) := nl_count hF (w := 6) (by decide)
  have c7 : Ff_X6_count G x 7 τ = (.inl (some (.int (S 2))), τ) := nl_count hF (w := 7) (by decide)
  have c8 : Ff_X6_count G x 8 τ = (.inl (some (.int (yb S (mN S)))), τ) := nl_count hF (w := 8) (by decide)
  have c9 : Ff_X6_count G x 9 τ = (.inl (some (.int (S 4))), τ) := nl_count hF (w := 9) (by decide)
  have c11 : Ff_X6_count G x 11 τ = (.inl (some (.int (yi S (mN S)))), τ) := nl_count hF (w := 11) (by decide)
  simp only [jq_iconst (M := M_L_same G) 0 885 dL_same_884 (by decide) rfl, jq_istoreW14 (M := M_L_same G) 887 dL_same_885 rfl, eq_self, jref_10, jref_11, jref_12, jk_v, jk_n, jcat_nil, jcat_i, jcat_r, jcat_l, jcat_d, jc2_i, jc2_r, jc2_n, jc1_i, jc1_r, jrf_some, jwtq_wI, jwtq_wh, jR_wI, jI_wh, jR_wh, List.cons.injEq, Value.int.injEq, Value.ref.injEq, Value.long.injEq, Value.double.injEq, true_and, and_true, and_self, Nat.reduceAdd, Nat.reduceLeDiff, if_true, if_false, ite_true, ite_false, jc1q_i, jc1q_r, jc1q_l, jwtq_wR, jwtq_wY, jI_wI, Nat.reduceEqDiff, and_false, false_and, not_false_eq_true, not_true_eq_false, h13]
  refine jloop (P := fun k => Jr G (M_L_same G) 887 [some (.ref x), some (.ref (x + 233)), some (.ref (x + 234)), some (.ref (x + 235)), some (.ref (x + 236)), some (.ref (x + 237)), some (.ref N), some (.int (yb S (mN S))), some (.int (yi S (mN S))), some (.int (ym S (mN S))), some (.int (mfb S 4).1), l11, l12, l13, some (.int (nI k)), l15] [] τ Φ) (n := 4) ?_ (fun k hlt ih => ?_)
  · show Jr G (M_L_same G) 887 _ _ _ _
    rw [jq_iloadW14 (M := M_L_same G) 889 dL_same_887 rfl]
    simp only [jq_iconst (M := M_L_same G) 4 890 dL_same_889 (by decide) rfl, jq_icmp_ge (M := M_L_same G) 932 893 dL_same_890 (by decide) rfl, jq_aload0 (M := M_L_same G) 933 dL_same_932 rfl, jq_iconst (M := M_L_same G) 0 934 dL_same_933 (by decide) rfl, jq_virt1 (M := M_L_same G) I_X6_count 6 dL_same_934 rfl rfl rfl rfl, jq_aload1 (M := M_L_same G) 938 dL_same_937 rfl, jq_iconst (M := M_L_same G) 3 939 dL_same_938 (by decide) rfl, jq_iald (M := M_L_same G) 940 dL_same_939 rfl, jq_icmp_ne (M := M_L_same G) 1016 943 dL_same_940 (by decide) rfl, jq_aload0 (M := M_L_same G) 944 dL_same_943 rfl, jq_iconst (M := M_L_same G) 1 945 dL_same_944 (by decide) rfl, jq_virt1 (M := M_L_same G) I_X6_count 6 dL_same_945 rfl rfl rfl rfl, jq_aload1 (M := M_L_same G) 949 dL_same_948 rfl, jq_iconst (M := M_L_same G) 0 950 dL_same_949 (by decide) rfl, jq_iald (M := M_L_same G) 951 dL_same_950 rfl, jq_icmp_ne (M := M_L_same G) 1016 954 dL_same_951 (by decide) rfl, jq_aload0 (M := M_L_same G) 955 dL_same_954 rfl, jq_bipush (M := M_L_same G) 6 957 dL_same_955 (by decide) rfl, jq_virt1 (M := M_L_same G) I_X6_count 6 dL_same_957 rfl rfl rfl rfl, jq_aload1 (M := M_L_same G) 961 dL_same_960 rfl, jq_iconst (M := M_L_same G) 1 962 dL_same_961 (by decide) rfl, jq_iald (M := M_L_same G) 963 dL_same_962 rfl, jq_icmp_ne (M := M_L_same G) 1016 966 dL_same_963 (by decide) rfl, jq_aload0 (M := M_L_same G) 967 dL_same_966 rfl, jq_bipush (M := M_L_same G) 7 969 dL_same_967 (by decide) rfl, jq_virt1 (M := M_L_same G) I_X6_count 6 dL_same_969 rfl rfl rfl rfl, jq_aload1 (M := M_L_same G) 973 dL_same_972 rfl, jq_iconst (M := M_L_same G) 2 974 dL_same_973 (by decide) rfl, jq_iald (M := M_L_same G) 975 dL_same_974 rfl, jq_icmp_ne (M := M_L_same G) 1016 978 dL_same_975 (by decide) rfl, jq_aload0 (M := M_L_same G) 979 dL_same_978 rfl, jq_bipush (M := M_L_same G) 8 981 dL_same_979 (by decide) rfl, jq_virt1 (M := M_L_same G) I_X6_count 6 dL_same_981 rfl rfl rfl rfl, jq_iloadW7 (M := M_L_same G) 986 dL_same_984 rfl, jq_icmp_ne (M := M_L_same G) 1016 989 dL_same_986 (by decide) rfl, jq_aload0 (M := M_L_same G) 990 dL_same_989 rfl, jq_bipush (M := M_L_same G) 9 992 dL_same_990 (by decide) rfl, jq_virt1 (M := M_L_same G) I_X6_count 6 dL_same_992 rfl rfl rfl rfl, jq_aload1 (M := M_L_same G) 996 dL_same_995 rfl, jq_iconst (M := M_L_same G) 4 997 dL_same_996 (by decide) rfl, jq_iald (M := M_L_same G) 998 dL_same_997 rfl, jq_icmp_ne (M := M_L_same G) 1016 1001 dL_same_998 (by decide) rfl, jq_aload0 (M := M_L_same G) 1002 dL_same_1001 rfl, jq_bipush (M := M_L_same G) 11 1004 dL_same_1002 (by decide) rfl, jq_virt1 (M := M_L_same G) I_X6_count 6 dL_same_1004 rfl rfl rfl rfl, jq_iloadW8 (M := M_L_same G) 1009 dL_same_1007 rfl, jq_icmp_ne (M := M_L_same G) 1016 1012 dL_same_1009 (by decide) rfl, jq_iconst (M := M_L_same G) 1 1013 dL_same_1012 (by decide) rfl, jq_goto (M := M_L_same G) 1017 dL_same_1013 (by decide), jq_iconst (M := M_L_same G) 0 1017 dL_same_1016 (by decide) rfl, jq_iret (M := M_L_same G) .boolean dL_same_1017 rfl, eq_self, jref_10, jref_11, jref_12, jk_v, jk_n, jcat_nil, jcat_i, jcat_r, jcat_l, jcat_d, jc2_i, jc2_r, jc2_n, jc1_i, jc1_r, jrf_some, jwtq_wI, jwtq_wh, jR_wI, jI_wh, jR_wh, List.cons.injEq, Value.int.injEq, Value.ref.injEq, Value.long.injEq, Value.double.injEq, true_and, and_true, and_self, Nat.reduceAdd, Nat.reduceLeDiff, if_true, if_false, ite_true, ite_false, jc1q_i, jc1q_r, jc1q_l, jwtq_wR, jwtq_wY, jI_wI, Nat.reduceEqDiff, and_false, false_and, not_false_eq_true, not_true_eq_false, a1, k1, a2, k2, lv25_0, lv25_1, lv25_2, lv25_3, lv25_4, lv25_5, lv25_6, lv25_7, lv25_8, jcl_0, jcl_1, jcl_2, jcl_3, jcl_4, jcl_5, jcl_6, jcl_7, jcl_8, jcl_9, jcl_10, jcl_11, jcl_12, show (4 : Int32) ≤ nI 4 from by decide, hx6, hF.1, PX_X6_count, FX_X6_count, Pp_X6_count, c0, c1, c6, c7, c8, c9, c11, yQ0, yQ3, q1, q2, q4, jnr_b1]
    exact h
  · show Jr G (M_L_same G) 887 _ _ _ _
    have hc : ¬ (4 : Int32) ≤ nI k := nI_ge (b := 4) hlt (by decide)
    have e1 : (2 : Int32) + nI k = nI (2 + k) := nI_add 2 k
    have e2 : (5 : Int32) + nI k = nI (5 + k) := nI_add 5 k
    have e3 : vp_in (nI (5 + k)) 25 := vp_in_nI (by omega) (by decide)
    have e4 : (nI (5 + k)).toNatClampNeg = 5 + k := nI_clamp (by omega)
    have e5 : vp_in (nI k) 4 := vp_in_nI hlt (by decide)
    have e6 : (nI k).toNatClampNeg = k := nI_clamp (by omega)
    have hq := yQ (5 + k) (by omega)
    have hn := hf k hlt
    have hcn : Ff_X6_count G x (nI (2 + k)) τ = (.inl (some (.int (yf S (mN S) k))), τ) := by
      rw [nl_count hF (w := 2 + k) (by omega)]
      rcases (show k = 0 ∨ k = 1 ∨ k = 2 ∨ k = 3 by omega) with rfl | rfl | rfl | rfl <;> rfl
    have hst := nl_setting hF hlt
    rw [jq_iloadW14 (M := M_L_same G) 889 dL_same_887 rfl]
    simp only [jq_iconst (M := M_L_same G) 4 890 dL_same_889 (by decide) rfl, jq_icmp_ge (M := M_L_same G) 932 893 dL_same_890 (by decide) rfl, jq_aload0 (M := M_L_same G) 894 dL_same_893 rfl, jq_iconst (M := M_L_same G) 2 895 dL_same_894 (by decide) rfl, jq_iloadW14 (M := M_L_same G) 897 dL_same_895 rfl, jq_iadd (M := M_L_same G) 898 dL_same_897 rfl, jq_virt1 (M := M_L_same G) I_X6_count 6 dL_same_898 rfl rfl rfl rfl, jq_aloadW6 (M := M_L_same G) 903 dL_same_901 rfl, jq_iloadW14 (M := M_L_same G) 905 dL_same_903 rfl, jq_iald (M := M_L_same G) 906 dL_same_905 rfl, jq_icmp_ne (M := M_L_same G) 924 909 dL_same_906 (by decide) rfl, jq_aload0 (M := M_L_same G) 910 dL_same_909 rfl, jq_iloadW14 (M := M_L_same G) 912 dL_same_910 rfl, jq_virt1 (M := M_L_same G) I_X6_setting 6 dL_same_912 rfl rfl rfl rfl, jq_aload1 (M := M_L_same G) 916 dL_same_915 rfl, jq_iconst (M := M_L_same G) 5 917 dL_same_916 (by decide) rfl, jq_iloadW14 (M := M_L_same G) 919 dL_same_917 rfl, jq_iadd (M := M_L_same G) 920 dL_same_919 rfl, jq_iald (M := M_L_same G) 921 dL_same_920 rfl, jq_icmp_eq (M := M_L_same G) 926 924 dL_same_921 (by decide) rfl, jq_iconst (M := M_L_same G) 0 925 dL_same_924 (by decide) rfl, jq_iret (M := M_L_same G) .boolean dL_same_925 rfl, jq_iinc14 (M := M_L_same G) 1 929 dL_same_926 (by decide) rfl, jq_goto (M := M_L_same G) 887 dL_same_929 (by decide), eq_self, jref_10, jref_11, jref_12, jk_v, jk_n, jcat_nil, jcat_i, jcat_r, jcat_l, jcat_d, jc2_i, jc2_r, jc2_n, jc1_i, jc1_r, jrf_some, jwtq_wI, jwtq_wh, jR_wI, jI_wh, jR_wh, List.cons.injEq, Value.int.injEq, Value.ref.injEq, Value.long.injEq, Value.double.injEq, true_and, and_true, and_self, Nat.reduceAdd, Nat.reduceLeDiff, if_true, if_false, ite_true, ite_false, jc1q_i, jc1q_r, jc1q_l, jwtq_wR, jwtq_wY, jI_wI, Nat.reduceEqDiff, and_false, false_and, not_false_eq_true, not_true_eq_false, a1, k1, a2, k2, h13, hN1, hN2, hc, e1, e2, e3, e4, e5, e6, hq, hn, hx6, hF.1, PX_X6_count, FX_X6_count, Pp_X6_count, hcn, PX_X6_setting, FX_X6_setting, Pp_X6_setting, hst, lip_1]
    exact ih
end YE
/-- two cells that are as before -/
theorem jwL_self (σ : jgS) (L : Nat) : jwL σ L (σ.1 L 0, σ.1 L 1, σ.1 L 2, σ.1 L 3, σ.1 L 4) = σ := by
  refine Prod.ext (funext fun a => funext fun k => ?_) rfl
  show (if _ then _ else _) = _
  by_cases c : a = L ∧ k < 5
  · obtain ⟨rfl, c⟩ := c
    rw [if_pos ⟨rfl, c⟩]
    rcases (show k = 0 ∨ k = 1 ∨ k = 2 ∨ k = 3 ∨ k = 4 by omega) with rfl | rfl | rfl | rfl | rfl <;> rfl
  · rw [if_neg c]
theorem lt3_self (τ : jgS) (T : Nat) : lt3 τ T (τ.1 T 0, τ.1 T 1, τ.1 T 2) = τ := by
  refine Prod.ext (funext fun a => funext fun k => ?_) rfl
  show (if _ then _ else if _ then _ else if _ then _ else _) = _
  by_cases c0 : a = T ∧ k = 0
  · rw [if_pos c0, c0.1, c0.2]
  rw [if_neg c0]
  by_cases c1 : a = T ∧ k = 1
  · rw [if_pos c1, c1.1, c1.2]
  rw [if_neg c1]
  by_cases c2 : a = T ∧ k = 2
  · rw [if_pos c2, c2.1, c2.2]
  rw [if_neg c2]
theorem lz_self (τ : jgS) (x : Nat) : lz τ x (τ.1 (x + 232) 0, τ.1 (x + 232) 1, τ.1 (x + 232) 2, τ.1 (x + 232) 3, τ.1 (x + 232) 4) (lS τ (x + 235) (x + 236)) (τ.1 (x + 237) 0, τ.1 (x + 237) 1, τ.1 (x + 237) 2) = τ := by
  unfold lz
  rw [jwL_self, lw_self (by omega), lt3_self]
theorem lz_cg {σ τ : jgS} {x b : Nat} {L : jLS} {Y : Nat → Int32} {t : Int32 × Int32 × Int32} (h : τ.1 b = σ.1 b) : (lz τ x L Y t).1 b = (lz σ x L Y t).1 b := by
  funext k
  show (if _ then _ else if _ then _ else if _ then _ else if _ then _ else if _ then _ else if _ then _ else τ.1 b k) = (if _ then _ else if _ then _ else if _ then _ else if _ then _ else if _ then _ else if _ then _ else σ.1 b k)
  rw [h]
/-! the class's object where the world has grown -/
section XE
variable {G : jgG} {σ : jgS} {a : Nat}
theorem xe_jo {b ci : Nat} (h : jo G (jwt σ) b ci) (ha : jwt σ ≤ a) : jo (jGx G (jwt σ) a) (a + 1) b ci := ⟨⟨h.1.1, by have := h.1.2; omega⟩, by rw [jGx_lo h.1.2]; exact h.2⟩
theorem xe_jl {b : Nat} (h : jl G (jwt σ) b) (ha : jwt σ ≤ a) : jl (jGx G (jwt σ) a) (a + 1) b := ⟨h.1, by have := h.2; omega⟩
theorem xe_k {b : Nat} {q : Nat × Nat} (h : jl G (jwt σ) b ∧ G.2.2.2.1 b = q) (ha : jwt σ ≤ a) : jl (jGx G (jwt σ) a) (a + 1) b ∧ (jGx G (jwt σ) a).2.2.2.1 b = q := ⟨xe_jl h.1 ha, by rw [jGx_lo h.1.2]; exact h.2⟩
theorem xe_A {b n : Nat} (h : lA G (jwt σ) b n) (ha : jwt σ ≤ a) : lA (jGx G (jwt σ) a) (a + 1) b n := xe_k h ha
theorem xe_P {Q R : Nat} (h : lP G (jwt σ) Q R) (ha : jwt σ ≤ a) : lP (jGx G (jwt σ) a) (a + 1) Q R := ⟨xe_A h.1 ha, xe_A h.2.1 ha, h.2.2⟩
theorem xe_T {h : Nat} (hT : jT G σ h) (ha : jwt σ ≤ a) : jT (jGx G (jwt σ) a) (jSx σ a) h := by
  obtain ⟨⟨t0, t1, ⟨t2, t3, t4⟩, t5, t6⟩, t7, t8⟩ := hT
  have e : ∀ k, (jSx σ a).1 h k = σ.1 h k := fun k => if_neg (by have := t0.1.2; omega)
  have en : jn (jSx σ a) h = jn σ h := by unfold jn; rw [e]
  exact ⟨⟨xe_jo t0 ha, t1, ⟨xe_k t2 ha, xe_k t3 ha, xe_k t4 ha⟩, fun i hi => ⟨(t5 i hi).1, xe_jo (t5 i hi).2 ha⟩, fun r hr => ⟨(t6 r hr).1, xe_jo (t6 r hr).2 ha⟩⟩, by rw [e, en]; exact t7, by rw [en]; exact t8⟩
theorem xe_SR {x : Nat} (hp : jSR G σ x) (ha : jwt σ ≤ a) (hx : x + 238 ≤ jwt σ) : jSR (jGx G (jwt σ) a) (jSx σ a) x := by
  obtain ⟨⟨g0, g1⟩, hT, ⟨⟨c1, c2, c3⟩, c4, c5, c6, c7⟩, ⟨b1, b2, ⟨b3, b4, b5, b6⟩, b7⟩, hL, g4, hu, hh⟩ := hp
  have e : ∀ b k, b < x + 238 → (jSx σ a).1 b k = σ.1 b k := fun b k hb => if_neg (by omega)
  have en : jn (jSx σ a) (x + 1) = jn σ (x + 1) := by unfold jn; rw [e _ _ (by omega)]
  have h24 := hT.2.2
  refine ⟨⟨xe_jo g0 ha, g1⟩, xe_T hT ha, ⟨⟨xe_jo c1 ha, c2, xe_k c3 ha⟩, c4, fun i hi => xe_T (c5 i hi) ha, by rw [e _ _ (by omega)]; exact c6, by rw [e _ _ (by omega)]; exact c7⟩, ⟨xe_jo b1 ha, b2, ⟨xe_k b3 ha, xe_k b4 ha, xe_k b5 ha, xe_k b6 ha⟩, by rw [e _ _ (by omega)]; exact b7⟩, xe_jo hL ha, g4, fun j hj => ?_, fun j hj => ?_⟩
  · rw [en] at hj
    rw [e _ _ (by omega)]
    exact hu j hj
  · rw [en] at hj
    rw [e _ _ (by omega), e _ _ (by omega)]
    exact hh j hj
theorem xe_C {c x : Nat} (hF : nF G c σ x (lS σ (x + 233) (x + 234))) (hO : lOr (lS σ (x + 233) (x + 234))) (hc : c < 64) (hQ : lP G (jwt σ) (x + 233) (x + 234)) (hP : lP G (jwt σ) (x + 235) (x + 236)) (hT : lA G (jwt σ) (x + 237) 3) (hG : G.1 ≤ jwt σ) (ha : jwt σ ≤ a) (hx : x + 238 ≤ jwt σ) : yC (jGx G (jwt σ) a) c x a (lS σ (x + 233) (x + 234)) (jSx σ a) := by
  have e : ∀ b, b < x + 238 → (jSx σ a).1 b = σ.1 b := fun b hb => funext fun k => if_neg (by omega)
  refine ⟨⟨xe_SR hF.1 ha hx, kR_cg (fun b h1 h2 => e b (by omega)) hF.2.2.1.2 hF.2.1, hF.2.2⟩, ?_, ⟨xe_P hQ ha, xe_P hP ha, xe_A hT ha, ⟨⟨Nat.le_trans hG ha, Nat.lt_succ_self a⟩, jGx_at ha⟩⟩, hO, hc, by omega⟩
  show lj ((jSx σ a).1 (x + 233)) ((jSx σ a).1 (x + 234)) = _
  rw [e _ (by omega), e _ (by omega)]
end XE
theorem same_run {G : jgG} {c x a : Nat} {S : Nat → Int32} {τ : jgS} {Φ : jgR → Prop} (C : yC G c x a S τ) (hz : ∀ k, k < 4 → τ.1 a k = 0) (h : Φ (.inl (some (.int 1)), lz (lcp τ a 4 (yf S (mN S))) x (mLk S 3 24) (mGn (lmix S (lyR S 3 (ly3 S (lS τ (x + 235) (x + 236))))) 7) (ltR S 3 (ly3 S (lS τ (x + 235) (x + 236)))))) : Jr G (M_L_same G) 3 [some (.ref x), some (.ref (x + 233)), some (.ref (x + 234)), some (.ref (x + 235)), some (.ref (x + 236)), some (.ref (x + 237)), none, none, none, none, none, none, none, none, none, none] [.ref a] τ Φ := by
  have hax := C.2.2.2.2.2
  simp only [jq_astoreW6 (M := M_L_same G) 5 dL_same_3 rfl, jq_iconst (M := M_L_same G) 0 6 dL_same_5 (by decide) rfl, jq_istoreW7 (M := M_L_same G) 8 dL_same_6 rfl, jq_iconst (M := M_L_same G) (-1) 9 dL_same_8 (by decide) rfl, jq_istoreW8 (M := M_L_same G) 11 dL_same_9 rfl, jq_iconst (M := M_L_same G) 0 12 dL_same_11 (by decide) rfl, jq_istoreW9 (M := M_L_same G) 14 dL_same_12 rfl, jq_iconst (M := M_L_same G) 0 15 dL_same_14 (by decide) rfl, jq_istoreW10 (M := M_L_same G) 17 dL_same_15 rfl, eq_self, jref_10, jref_11, jref_12, jk_v, jk_n, jcat_nil, jcat_i, jcat_r, jcat_l, jcat_d, jc2_i, jc2_r, jc2_n, jc1_i, jc1_r, jrf_some, jwtq_wI, jwtq_wh, jR_wI, jI_wh, jR_wh, List.cons.injEq, Value.int.injEq, Value.ref.injEq, Value.long.injEq, Value.double.injEq, true_and, and_true, and_self, Nat.reduceAdd, Nat.reduceLeDiff, if_true, if_false, ite_true, ite_false, jc1q_i, jc1q_r, jc1q_l, jwtq_wR, jwtq_wY, jI_wI, Nat.reduceEqDiff, and_false, false_and, not_false_eq_true, not_true_eq_false]
  refine ys_rows C hz (fun l10 l11 l12 l13 l14 l15 => ?_) _ _ _ _ _
  have C1 := yC_N (yf S (mN S)) C
  have eP : lS (lcp τ a 4 (yf S (mN S))) (x + 235) (x + 236) = lS τ (x + 235) (x + 236) := by
    show lj (fun k => (lcp τ a 4 (yf S (mN S))).1 (x + 235) k) (fun k => (lcp τ a 4 (yf S (mN S))).1 (x + 236) k) = _
    rw [show (fun k => (lcp τ a 4 (yf S (mN S))).1 (x + 235) k) = τ.1 (x + 235) from funext fun k => lcp_ne (by omega), show (fun k => (lcp τ a 4 (yf S (mN S))).1 (x + 236) k) = τ.1 (x + 236) from funext fun k => lcp_ne (by omega)]
  have ez := lz_self (lcp τ a 4 (yf S (mN S))) x
  rw [eP] at ez
  have hfN : ∀ (L : jLS) (Y : Nat → Int32) (t : Int32 × Int32 × Int32) k, k < 4 → (lz (lcp τ a 4 (yf S (mN S))) x L Y t).1 a k = yf S (mN S) k := fun L Y t k hk => (lz_ne (by omega) (by omega) (by omega) (by omega)).trans (lcp_at hk)
  rw [← ez]
  generalize lcp τ a 4 (yf S (mN S)) = υ at *
  simp only [jq_iconst (M := M_L_same G) (-1) 403 dL_same_402 (by decide) rfl, jq_istoreW10 (M := M_L_same G) 405 dL_same_403 rfl, jq_iconst (M := M_L_same G) 0 406 dL_same_405 (by decide) rfl, jq_istoreW11 (M := M_L_same G) 408 dL_same_406 rfl, jq_iconst (M := M_L_same G) 0 409 dL_same_408 (by decide) rfl, jq_istoreW12 (M := M_L_same G) 411 dL_same_409 rfl, eq_self, jref_10, jref_11, jref_12, jk_v, jk_n, jcat_nil, jcat_i, jcat_r, jcat_l, jcat_d, jc2_i, jc2_r, jc2_n, jc1_i, jc1_r, jrf_some, jwtq_wI, jwtq_wh, jR_wI, jI_wh, jR_wh, List.cons.injEq, Value.int.injEq, Value.ref.injEq, Value.long.injEq, Value.double.injEq, true_and, and_true, and_self, Nat.reduceAdd, Nat.reduceLeDiff, if_true, if_false, ite_true, ite_false, jc1q_i, jc1q_r, jc1q_l, jwtq_wR, jwtq_wY, jI_wI, Nat.reduceEqDiff, and_false, false_and, not_false_eq_true, not_true_eq_false]
  refine yr_all C1 (fun b13 b14 b15 => ?_) _ _ _
  have h7 := C1.2.2.2.1.1.2
  refine ye_1 C1 rfl (fun b14 b15 => ?_) _ _ _ _
  have e88 := lmix_e S (lyR S 3 (ly3 S (lS τ (x + 235) (x + 236))))
  have hF8 := n8_F e88 h7 C1.1
  have hp : ∀ w, w < 2 → mPV (lmix S (lyR S 3 (ly3 S (lS τ (x + 235) (x + 236))))) 7 (nI w) = mPV S 7 (nI w) := fun w hw => by
    have e3 := (nl_ifPassed hF8 hw).symm.trans (nl_ifPassed C1.1 hw)
    injection e3 with e4 e5
    injection e4 with e6
    injection e6 with e7
    injection e7
  have hN7 : mN (mGn (lmix S (lyR S 3 (ly3 S (lS τ (x + 235) (x + 236))))) 7) = mN S := by
    rw [(kgo hF8.2.2 7 (by decide)).1, mMv_N, n8_N e88]
  refine ye_2 (yC_z _ _ _ C1) (hp 0 (by decide)) ?_ (fun d14 d15 => ?_) _ _
  · rw [← hp 1 (by decide)]
    unfold mPV
    rw [if_neg (by decide), hN7]
  · rw [lz_L]
    exact ye_3 (yC_z _ _ _ C1) (hfN _ _ _) rfl h _ _
theorem bd_L_same (G : jgG) : ∀ (As : List Value) (σ : jgS) (r : jgR), S_L_same G As σ r → (jhs r.2 = jhs σ + 1 ∧ jsl r.2 = jsl σ + 4 ∧ jwt r.2 = jwt σ) ∧ (jent As).length ≤ I_L_same.2.2.2.2.1 ∧ (∃ v, r.1 = .inl v) ∧ ∀ a, G.1 ≤ jwt σ → jwt σ ≤ a → a ≤ jhs σ → Jr (jGx G (jwt σ) a) (M_L_same (jGx G (jwt σ) a)) 3 (jentry As I_L_same.2.2.2.2.1) [.ref a] (jSx σ a) (fun r' => r'.1 = r.1 ∧ (jhs r'.2 = jhs r.2 ∧ jsl r'.2 = jsl r.2 ∧ jwt r'.2 = a + 1) ∧ ∀ b, b < jwt σ → r'.2.1 b = r.2.1 b ∧ r'.2.2.1 b = r.2.2.1 b) := by
  rintro As σ r ⟨⟨x, q, rr, p, v, t, rfl, ⟨rfl, rfl, rfl, rfl, rfl⟩, hx, c, hc, hF, hO, hQ, hP, hT⟩, rfl⟩
  rw [FX_L_same]
  refine ⟨⟨rfl, rfl, rfl⟩, by simp [jent, Value.category, I_L_same], ⟨_, rfl⟩, fun a hG ha _ => ?_⟩
  have C := xe_C hF hO hc hQ hP hT hG ha hx
  have eP : lS (jSx σ a) (x + 235) (x + 236) = lS σ (x + 235) (x + 236) := by
    show lj ((jSx σ a).1 (x + 235)) ((jSx σ a).1 (x + 236)) = _
    rw [show (jSx σ a).1 (x + 235) = σ.1 (x + 235) from funext fun k => if_neg (by omega), show (jSx σ a).1 (x + 236) = σ.1 (x + 236) from funext fun k => if_neg (by omega)]
  have hz : ∀ k, k < 4 → (jSx σ a).1 a k = 0 := fun k _ => if_pos rfl
  refine same_run C hz ?_
  rw [eP]
  refine ⟨rfl, ⟨rfl, rfl, rfl⟩, fun b hb => ⟨?_, rfl⟩⟩
  refine lz_cg (σ := σ) (funext fun k => ?_)
  exact (lcp_ne (by omega)).trans (if_neg (by omega))
theorem met_L_same {l : Launch} (hl : l.stackTraces = false) (D : va_G) (cy : Nat → ClassId) (G : jgG) : jMet l D cy G I_L_same (S_L_same G) :=
  jr_metN M_L_same I_L_same (S_L_same G) RL rfl (by decide) (fun _ => rfl) (fun _ => rfl) rfl (fun _ => rfl) (fun _ => rfl) (fun _ => rfl) jmAI (fun G => fun R h1 h2 => List.forall_mem_cons.mpr ⟨⟨⟨jm_549, jm_9, jd_L_held, ⟨by rw [h1]; exact Nat.le_of_ble_eq_true rfl, by rw [h2]; exact Nat.le_of_ble_eq_true rfl⟩, Or.inr (Or.inl ⟨rfl, jm_547, jm_548, rfl⟩)⟩, met_L_held hl D cy G⟩, List.forall_mem_cons.mpr ⟨⟨⟨jm_555, jm_9, jd_L_next, ⟨by rw [h1]; exact Nat.le_of_ble_eq_true rfl, by rw [h2]; exact Nat.le_of_ble_eq_true rfl⟩, Or.inr (Or.inl ⟨rfl, jm_553, jm_554, rfl⟩)⟩, met_L_next hl D cy G⟩, List.forall_mem_cons.mpr ⟨⟨⟨jm_561, jm_9, jd_L_blocked, ⟨by rw [h1]; exact Nat.le_of_ble_eq_true rfl, by rw [h2]; exact Nat.le_of_ble_eq_true rfl⟩, Or.inr (Or.inl ⟨rfl, jm_559, jm_560, rfl⟩)⟩, met_L_blocked hl D cy G⟩, List.forall_mem_cons.mpr ⟨⟨⟨jm_571, jm_10, jd_X6_row, ⟨by rw [h1]; exact Nat.le_of_ble_eq_true rfl, by rw [h2]; exact Nat.le_of_ble_eq_true rfl⟩, Or.inl ⟨rfl, jm_568, jm_569, jm_570, rfl, Nat.le_of_ble_eq_true rfl, _, rfl, rfl⟩⟩, met_X6_row hl D cy G⟩, List.forall_mem_cons.mpr ⟨⟨⟨jm_583, jm_9, jd_L_copy, ⟨by rw [h1]; exact Nat.le_of_ble_eq_true rfl, by rw [h2]; exact Nat.le_of_ble_eq_true rfl⟩, Or.inr (Or.inl ⟨rfl, jm_581, jm_582, rfl⟩)⟩, met_L_copy hl D cy G⟩, List.forall_mem_cons.mpr ⟨⟨⟨jm_552, jm_9, jd_L_take, ⟨by rw [h1]; exact Nat.le_of_ble_eq_true rfl, by rw [h2]; exact Nat.le_of_ble_eq_true rfl⟩, Or.inr (Or.inl ⟨rfl, jm_550, jm_551, rfl⟩)⟩, met_L_take hl D cy G⟩, List.forall_mem_cons.mpr ⟨⟨⟨jm_587, jm_10, jd_X6_reader, ⟨by rw [h1]; exact Nat.le_of_ble_eq_true rfl, by rw [h2]; exact Nat.le_of_ble_eq_true rfl⟩, Or.inl ⟨rfl, jm_584, jm_585, jm_586, rfl, Nat.le_of_ble_eq_true rfl, _, rfl, rfl⟩⟩, met_X6_reader hl D cy G⟩, List.forall_mem_cons.mpr ⟨⟨⟨jm_595, jm_10, jd_X6_ifTaken, ⟨by rw [h1]; exact Nat.le_of_ble_eq_true rfl, by rw [h2]; exact Nat.le_of_ble_eq_true rfl⟩, Or.inl ⟨rfl, jm_592, jm_593, jm_594, rfl, Nat.le_of_ble_eq_true rfl, _, rfl, rfl⟩⟩, met_X6_ifTaken hl D cy G⟩, List.forall_mem_cons.mpr ⟨⟨⟨jm_564, jm_9, jd_L_pass, ⟨by rw [h1]; exact Nat.le_of_ble_eq_true rfl, by rw [h2]; exact Nat.le_of_ble_eq_true rfl⟩, Or.inr (Or.inl ⟨rfl, jm_562, jm_563, rfl⟩)⟩, met_L_pass hl D cy G⟩, List.forall_mem_cons.mpr ⟨⟨⟨jm_599, jm_10, jd_X6_ifPassed, ⟨by rw [h1]; exact Nat.le_of_ble_eq_true rfl, by rw [h2]; exact Nat.le_of_ble_eq_true rfl⟩, Or.inl ⟨rfl, jm_596, jm_597, jm_598, rfl, Nat.le_of_ble_eq_true rfl, _, rfl, rfl⟩⟩, met_X6_ifPassed hl D cy G⟩, List.forall_mem_cons.mpr ⟨⟨⟨jm_615, jm_10, jd_X6_freest, ⟨by rw [h1]; exact Nat.le_of_ble_eq_true rfl, by rw [h2]; exact Nat.le_of_ble_eq_true rfl⟩, Or.inl ⟨rfl, jm_612, jm_613, jm_614, rfl, Nat.le_of_ble_eq_true rfl, _, rfl, rfl⟩⟩, met_X6_freest hl D cy G⟩, List.forall_mem_cons.mpr ⟨⟨⟨jm_619, jm_10, jd_X6_fairness, ⟨by rw [h1]; exact Nat.le_of_ble_eq_true rfl, by rw [h2]; exact Nat.le_of_ble_eq_true rfl⟩, Or.inl ⟨rfl, jm_616, jm_617, jm_618, rfl, Nat.le_of_ble_eq_true rfl, _, rfl, rfl⟩⟩, met_X6_fairness hl D cy G⟩, List.forall_mem_cons.mpr ⟨⟨⟨jm_630, jm_10, jd_X6_count, ⟨by rw [h1]; exact Nat.le_of_ble_eq_true rfl, by rw [h2]; exact Nat.le_of_ble_eq_true rfl⟩, Or.inl ⟨rfl, jm_627, jm_628, jm_629, rfl, Nat.le_of_ble_eq_true rfl, _, rfl, rfl⟩⟩, met_X6_count hl D cy G⟩, List.forall_mem_cons.mpr ⟨⟨⟨jm_651, jm_10, jd_X6_setting, ⟨by rw [h1]; exact Nat.le_of_ble_eq_true rfl, by rw [h2]; exact Nat.le_of_ble_eq_true rfl⟩, Or.inl ⟨rfl, jm_648, jm_649, jm_650, rfl, Nat.le_of_ble_eq_true rfl, _, rfl, rfl⟩⟩, met_X6_setting hl D cy G⟩, fun _ h => nomatch h⟩⟩⟩⟩⟩⟩⟩⟩⟩⟩⟩⟩⟩⟩) dL_same_0 dL_same_1 (bd_L_same G)
