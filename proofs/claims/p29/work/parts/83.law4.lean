/-! the law: its cases, put -/
/-- cells of row N that are 0 by now -/
def lPz (S : Nat → Int32) (N p : Nat) : Nat → Int32 := fun c => if 25 + 9 * N ≤ c ∧ c < 25 + 9 * N + p then 0 else S c
theorem lPz_0 (S : Nat → Int32) (N : Nat) : lPz S N 0 = S := funext fun c => if_neg (by omega)
theorem lPz_s (S : Nat → Int32) (N p : Nat) : jup1 (lPz S N p) (25 + 9 * N + p) 0 = lPz S N (p + 1) := by
  funext c
  unfold jup1 lPz
  by_cases e : c = 25 + 9 * N + p
  · rw [if_pos e, if_pos (by omega)]
  · rw [if_neg e]
    by_cases d : 25 + 9 * N ≤ c ∧ c < 25 + 9 * N + p
    · rw [if_pos d, if_pos (by omega)]
    · rw [if_neg d, if_neg (by omega)]
theorem lPz_lo {S : Nat → Int32} {N p c : Nat} (h : c < 25) : lPz S N p c = S c := if_neg (by omega)
theorem lPz_e (S : Nat → Int32) (a b v : Int32) (h0 : v = S 0 + 1) : jup1 (jup1 (jup1 (jup1 (jup1 (lPz (jup1 S 0 v) (mN S) 9) (25 + 9 * mN S + 0) a) (25 + 9 * mN S + 1) b) 1 (S 1 + 1)) (25 + 9 * mN S + 2) (S 1)) (25 + 9 * mN S + 8) (S 3) = mPut S a b := by
  subst h0
  funext c
  unfold mPut jup1 lPz
  generalize mN S = N
  by_cases d : 25 + 9 * N ≤ c ∧ c < 25 + 9 * N + 9
  · obtain ⟨p, hp, rfl⟩ : ∃ p, p < 9 ∧ c = 25 + 9 * N + p := ⟨c - (25 + 9 * N), by omega, by omega⟩
    have ep : 25 + 9 * N + p - (25 + 9 * N) = p := by omega
    rw [if_neg (show ¬ 25 + 9 * N + p = 0 by omega), if_neg (show ¬ 25 + 9 * N + p = 1 by omega), if_pos d, ep, if_pos d]
    rcases (show p = 0 ∨ p = 1 ∨ p = 2 ∨ p = 3 ∨ p = 4 ∨ p = 5 ∨ p = 6 ∨ p = 7 ∨ p = 8 by omega) with rfl | rfl | rfl | rfl | rfl | rfl | rfl | rfl | rfl <;> simp <;> (intro z; omega)
  · rw [if_neg d, if_neg d, if_neg (show ¬ c = 25 + 9 * N + 8 by omega), if_neg (show ¬ c = 25 + 9 * N + 2 by omega), if_neg (show ¬ c = 25 + 9 * N + 1 by omega), if_neg (show ¬ c = 25 + 9 * N + 0 by omega)]
    by_cases c1 : c = 1
    · subst c1; rfl
    · rw [if_neg c1, if_neg c1]
section LE4
variable {G : jgG} {n s x t hb sb : Nat} {f : Nat → Int32} {σ : jgS} {S : Nat → Int32} {Φ : jgR → Prop}
theorem lpu_B {S : Nat → Int32} {a b : Int32} (hO : mOk S) (hB : lB t S) (h : mN S < 7) : lB (t + 1) (mPut S a b) := by
  obtain ⟨_, ⟨p, h1, h2⟩, d, h3, h4⟩ := hB
  refine ⟨?_, ⟨p + 1, ?_, by omega⟩, d, ?_, by omega⟩
  · rw [(mPut_N a b hO (by omega)).1]; omega
  · show (if (1 : Nat) = 0 then S 0 + 1 else if (1 : Nat) = 1 then S 1 + 1 else _) = _
    rw [if_neg (by decide), if_pos rfl, h1]
    exact nI_add p 1
  · refine Eq.trans ?_ h3
    unfold mPut
    rw [if_neg (by decide), if_neg (by decide), if_neg (by omega)]
theorem le_put (H : lH G n f s x) (hM : lM G x t (2 * t) hb sb σ S) (ht : t < 24) (k : ∀ (l8 l9 l10 l11 l12 l13 l14 l15 l16 l17 : Option Value) (υ : jgS) (S' : Nat → Int32), lM G x (t + 1) (2 * t + 2) (hb + 3) (sb + 16) υ S' → Jr G (M_L_law G) 1115 [some (.ref s), some (.ref x), some (.ref (x + 233)), some (.ref (x + 234)), some (.ref (x + 235)), some (.ref (x + 236)), some (.ref (x + 237)), some (.int (nI t)), l8, l9, l10, l11, l12, l13, l14, l15, l16, l17] [] (lw υ (x + 233) (x + 234) S') Φ) {cv kk mine : Int32} {r i a b : Nat} (ha : a < 3) (hb4 : b < 4) (hN : mN S < 7) (l16 l17 : Option Value) : Jr G (M_L_law G) 216 [some (.ref s), some (.ref x), some (.ref (x + 233)), some (.ref (x + 234)), some (.ref (x + 235)), some (.ref (x + 236)), some (.ref (x + 237)), some (.int (nI t)), some (.int cv), some (.int kk), some (.int (nI r)), some (.int (nI i)), some (.int (nI (9 * i))), some (.int mine), some (.int (nI a)), some (.int (nI b)), l16, l17] [] (lw σ (x + 233) (x + 234) S) Φ := by
  obtain ⟨⟨hF, hB⟩, hw, hhs, hsl⟩ := id hM
  obtain ⟨⟨hQRp, hPVp, hTp⟩, hs1, hs2, hnn⟩ := id H
  obtain ⟨⟨a1, k1⟩, ⟨a2, k2⟩, hQR⟩ := id hQRp
  have hFl : nF G (2 * t) (lw σ (x + 233) (x + 234) S) x S := nF_lw hF
  have hO7 : mOk7 S := ⟨hF.2.2.1.1, hB.1⟩
  have h7 := hO7.2
  have hx6 : jo G (x + 238) x 6 := hw ▸ hF.1.1.1
  have hxl : jo G (jwt (lw σ (x + 233) (x + 234) S)) x 6 := hF.1.1.1
  obtain ⟨τ, eX, hF2, e2⟩ := lCall (nc_put hFl (by omega) (vp_in_nI (n := a) (N := 8) (by omega) (by decide)) (vp_in_nI (n := b) (N := 10) (by omega) (by decide)) (by omega))
  have hwτ : jwt τ = x + 238 := by unfold jwt; rw [e2]; exact hw
  obtain ⟨hW, eL0⟩ := lWv (ex := [("java/lang/IllegalArgumentException", -2), ("java/lang/IllegalStateException", -3)]) (σ := lw σ (x + 233) (x + 234) S) eX e2
  have hP : Pp_L_put G x (nI a) (nI b) (lw σ (x + 233) (x + 234) S) := ⟨hxl, hFl.1, hW⟩
  have eL : Ff_L_put G x (nI a) (nI b) (lw σ (x + 233) (x + 234) S) = (.inl (some (.int (S 0))), lw τ (x + 233) (x + 234) S) := eL0
  have e1 : (9 : Int32) * S 0 = nI (9 * mN S) := by rw [hO7.1]; exact l9 _
  have hM2 := lM_1 hM hF2 e2 (lpu_B (a := nI a) (b := nI b) ⟨hO7.1, by omega⟩ hB hN)
  have eE := lPz_e S (nI a) (nI b) (S 0 + 1) rfl
  have e3 : lPz (jup1 S 0 (S 0 + 1)) (mN S) 9 1 = S 1 := (lPz_lo (by decide)).trans (jup1_ne (by decide))
  have e4 : lPz (jup1 S 0 (S 0 + 1)) (mN S) 9 3 = S 3 := (lPz_lo (by decide)).trans (jup1_ne (by decide))
  simp only [jq_aload1 (M := M_L_law G) 217 dL_law_216 rfl, jq_iloadW14 (M := M_L_law G) 219 dL_law_217 rfl, jq_iloadW15 (M := M_L_law G) 221 dL_law_219 rfl, jq_stat3 (M := M_L_law G) I_L_put dL_law_221 rfl (Or.inr rfl) rfl, jq_aload2 (M := M_L_law G) 225 dL_law_224 rfl, jq_iconst (M := M_L_law G) 0 226 dL_law_225 (by decide) rfl, jq_iald (M := M_L_law G) 227 dL_law_226 rfl, jq_icmp_eq (M := M_L_law G) 232 230 dL_law_227 (by decide) rfl, jq_iconst (M := M_L_law G) 0 231 dL_law_230 (by decide) rfl, jq_iret (M := M_L_law G) .boolean dL_law_231 rfl, jq_bipush (M := M_L_law G) 9 234 dL_law_232 (by decide) rfl, jq_aload2 (M := M_L_law G) 235 dL_law_234 rfl, jq_iconst (M := M_L_law G) 0 236 dL_law_235 (by decide) rfl, jq_dup2A (M := M_L_law G) 237 dL_law_236 rfl, jq_iald (M := M_L_law G) 238 dL_law_237 rfl, jq_dupx2I (M := M_L_law G) 239 dL_law_238 rfl, jq_iconst (M := M_L_law G) 1 240 dL_law_239 (by decide) rfl, jq_iadd (M := M_L_law G) 241 dL_law_240 rfl, jq_iast (M := M_L_law G) 242 dL_law_241 rfl, jq_imul (M := M_L_law G) 243 dL_law_242 rfl, jq_istoreW16 (M := M_L_law G) 245 dL_law_243 rfl, jq_iconst (M := M_L_law G) 0 246 dL_law_245 (by decide) rfl, jq_istoreW17 (M := M_L_law G) 248 dL_law_246 rfl, eq_self, jref_10, jref_11, jref_12, jk_v, jk_n, jcat_nil, jcat_i, jcat_r, jcat_l, jcat_d, jc2_i, jc2_r, jc2_n, jc1_i, jc1_r, jrf_some, jwtq_wI, jwtq_wh, jR_wI, jI_wh, jR_wh, List.cons.injEq, Value.int.injEq, Value.ref.injEq, Value.long.injEq, Value.double.injEq, true_and, and_true, and_self, Nat.reduceAdd, Nat.reduceLeDiff, if_true, if_false, ite_true, ite_false, jc1q_i, jc1q_r, jc1q_l, jwtq_wR, jwtq_wY, jI_wI, Nat.reduceEqDiff, and_false, false_and, not_false_eq_true, not_true_eq_false, lw_2, lw_wt, lr_0, lww_0, lr_1, lww_1, lr_2, lww_2, lr_3, lww_3, lr_4, lww_4, lr_5, lww_5, lr_6, lww_6, lr_7, lww_7, lr_8, lww_8, lrd_0, lwd_0, lrd_1, lwd_1, lrd_2, lwd_2, lrd_3, lwd_3, lrr_p, lrr_0, lwr_p, lwr_0, ln10, lv25_0, lv25_1, lv25_2, lv25_3, lv25_4, lv25_5, lv25_6, lv25_7, lv25_8, jcl_0, jcl_1, jcl_2, jcl_3, jcl_4, jcl_5, jcl_6, jcl_7, jcl_8, jcl_9, jcl_10, jcl_11, jcl_12, hw, hwτ, a1, k1, a2, k2, PX_L_put, FX_L_put, hP, eL, e1]
  refine jst0 (σ' := lw τ (x + 233) (x + 234) (lPz (jup1 S 0 (S 0 + 1)) (mN S) 0)) (by rw [lPz_0]) ?_
  refine jloop (P := fun p => Jr G (M_L_law G) 248 [some (.ref s), some (.ref x), some (.ref (x + 233)), some (.ref (x + 234)), some (.ref (x + 235)), some (.ref (x + 236)), some (.ref (x + 237)), some (.int (nI t)), some (.int cv), some (.int kk), some (.int (nI r)), some (.int (nI i)), some (.int (nI (9 * i))), some (.int mine), some (.int (nI a)), some (.int (nI b)), some (.int (nI (9 * mN S))), some (.int (nI p))] [] (lw τ (x + 233) (x + 234) (lPz (jup1 S 0 (S 0 + 1)) (mN S) p)) Φ) (n := 9) ?_ (fun p hp ih => ?_)
  · show Jr G (M_L_law G) 248 _ _ _ _
    generalize hZ : lPz (jup1 S 0 (S 0 + 1)) (mN S) 9 = Z at *
    have j1 : ∀ u v, jup1 (jup1 Z (25 + 9 * mN S + 0) u) (25 + 9 * mN S + 1) v 1 = S 1 := fun u v => (jup1_ne (by omega)).trans ((jup1_ne (by omega)).trans e3)
    have j2 : ∀ u v w y, jup1 (jup1 (jup1 (jup1 Z (25 + 9 * mN S + 0) u) (25 + 9 * mN S + 1) v) 1 w) (25 + 9 * mN S + 2) y 3 = S 3 := fun u v w y => (jup1_ne (by omega)).trans ((jup1_ne (by decide)).trans ((jup1_ne (by omega)).trans ((jup1_ne (by omega)).trans e4)))
    rw [jq_iloadW17 (M := M_L_law G) 250 dL_law_248 rfl]
    simp only [jq_bipush (M := M_L_law G) 9 252 dL_law_250 (by decide) rfl, jq_icmp_ge (M := M_L_law G) 269 255 dL_law_252 (by decide) rfl, jq_aload3 (M := M_L_law G) 270 dL_law_269 rfl, jq_iloadW16 (M := M_L_law G) 272 dL_law_270 rfl, jq_iloadW14 (M := M_L_law G) 274 dL_law_272 rfl, jq_iast (M := M_L_law G) 275 dL_law_274 rfl, jq_aload3 (M := M_L_law G) 276 dL_law_275 rfl, jq_iloadW16 (M := M_L_law G) 278 dL_law_276 rfl, jq_iconst (M := M_L_law G) 1 279 dL_law_278 (by decide) rfl, jq_iadd (M := M_L_law G) 280 dL_law_279 rfl, jq_iloadW15 (M := M_L_law G) 282 dL_law_280 rfl, jq_iast (M := M_L_law G) 283 dL_law_282 rfl, jq_aload3 (M := M_L_law G) 284 dL_law_283 rfl, jq_iloadW16 (M := M_L_law G) 286 dL_law_284 rfl, jq_iconst (M := M_L_law G) 2 287 dL_law_286 (by decide) rfl, jq_iadd (M := M_L_law G) 288 dL_law_287 rfl, jq_aload2 (M := M_L_law G) 289 dL_law_288 rfl, jq_iconst (M := M_L_law G) 1 290 dL_law_289 (by decide) rfl, jq_dup2A (M := M_L_law G) 291 dL_law_290 rfl, jq_iald (M := M_L_law G) 292 dL_law_291 rfl, jq_dupx2I (M := M_L_law G) 293 dL_law_292 rfl, jq_iconst (M := M_L_law G) 1 294 dL_law_293 (by decide) rfl, jq_iadd (M := M_L_law G) 295 dL_law_294 rfl, jq_iast (M := M_L_law G) 296 dL_law_295 rfl, jq_iast (M := M_L_law G) 297 dL_law_296 rfl, jq_aload3 (M := M_L_law G) 298 dL_law_297 rfl, jq_iloadW16 (M := M_L_law G) 300 dL_law_298 rfl, jq_bipush (M := M_L_law G) 8 302 dL_law_300 (by decide) rfl, jq_iadd (M := M_L_law G) 303 dL_law_302 rfl, jq_aload2 (M := M_L_law G) 304 dL_law_303 rfl, jq_iconst (M := M_L_law G) 3 305 dL_law_304 (by decide) rfl, jq_iald (M := M_L_law G) 306 dL_law_305 rfl, jq_iast (M := M_L_law G) 307 dL_law_306 rfl, jq_goto (M := M_L_law G) 1098 dL_law_307 (by decide), eq_self, jref_10, jref_11, jref_12, jk_v, jk_n, jcat_nil, jcat_i, jcat_r, jcat_l, jcat_d, jc2_i, jc2_r, jc2_n, jc1_i, jc1_r, jrf_some, jwtq_wI, jwtq_wh, jR_wI, jI_wh, jR_wh, List.cons.injEq, Value.int.injEq, Value.ref.injEq, Value.long.injEq, Value.double.injEq, true_and, and_true, and_self, Nat.reduceAdd, Nat.reduceLeDiff, if_true, if_false, ite_true, ite_false, jc1q_i, jc1q_r, jc1q_l, jwtq_wR, jwtq_wY, jI_wI, Nat.reduceEqDiff, and_false, false_and, not_false_eq_true, not_true_eq_false, lw_2, lw_wt, lr_0, lww_0, lr_1, lww_1, lr_2, lww_2, lr_3, lww_3, lr_4, lww_4, lr_5, lww_5, lr_6, lww_6, lr_7, lww_7, lr_8, lww_8, lrd_0, lwd_0, lrd_1, lwd_1, lrd_2, lwd_2, lrd_3, lwd_3, lrr_p, lrr_0, lwr_p, lwr_0, ln10, lv25_0, lv25_1, lv25_2, lv25_3, lv25_4, lv25_5, lv25_6, lv25_7, lv25_8, jcl_0, jcl_1, jcl_2, jcl_3, jcl_4, jcl_5, jcl_6, jcl_7, jcl_8, jcl_9, jcl_10, jcl_11, jcl_12, l9, lip_1, lip_2, lip_3, lip_4, lip_5, lip_6, lip_7, lip_8, lcl_0, lcl_1, lcl_2, lcl_3, lcl_4, lcl_5, lcl_6, lcl_7, lcl_8, lvp_0, lvp_1, lvp_2, lvp_3, lvp_4, lvp_5, lvp_6, lvp_7, lvp_8, hN, hwτ, a1, k1, a2, k2, show (9 : Int32) ≤ nI 9 from by decide, j1, j2, eE]
    exact le_k H (lM_le (lM_c hM2 (by omega) (by omega)) (by omega) (by omega)) ht k _ _ _ _ _ _ _ _ _ _
  · show Jr G (M_L_law G) 248 _ _ _ _
    have hc9 : ¬ (9 : Int32) ≤ nI p := nI_ge (b := 9) hp (by decide)
    have i1 : nI (9 * mN S) + nI p = nI (9 * mN S + p) := nI_add _ _
    have v1 : vp_in (nI (9 * mN S + p)) 63 := vp_in_nI (by omega) (by decide)
    have q1 : (nI (9 * mN S + p)).toNatClampNeg = 9 * mN S + p := nI_clamp (by omega)
    rw [← lPz_s, ← nI_1] at ih
    rw [jq_iloadW17 (M := M_L_law G) 250 dL_law_248 rfl]
    simp only [jq_bipush (M := M_L_law G) 9 252 dL_law_250 (by decide) rfl, jq_icmp_ge (M := M_L_law G) 269 255 dL_law_252 (by decide) rfl, jq_aload3 (M := M_L_law G) 256 dL_law_255 rfl, jq_iloadW16 (M := M_L_law G) 258 dL_law_256 rfl, jq_iloadW17 (M := M_L_law G) 260 dL_law_258 rfl, jq_iadd (M := M_L_law G) 261 dL_law_260 rfl, jq_iconst (M := M_L_law G) 0 262 dL_law_261 (by decide) rfl, jq_iast (M := M_L_law G) 263 dL_law_262 rfl, jq_iinc17 (M := M_L_law G) 1 266 dL_law_263 (by decide) rfl, jq_goto (M := M_L_law G) 248 dL_law_266 (by decide), eq_self, jref_10, jref_11, jref_12, jk_v, jk_n, jcat_nil, jcat_i, jcat_r, jcat_l, jcat_d, jc2_i, jc2_r, jc2_n, jc1_i, jc1_r, jrf_some, jwtq_wI, jwtq_wh, jR_wI, jI_wh, jR_wh, List.cons.injEq, Value.int.injEq, Value.ref.injEq, Value.long.injEq, Value.double.injEq, true_and, and_true, and_self, Nat.reduceAdd, Nat.reduceLeDiff, if_true, if_false, ite_true, ite_false, jc1q_i, jc1q_r, jc1q_l, jwtq_wR, jwtq_wY, jI_wI, Nat.reduceEqDiff, and_false, false_and, not_false_eq_true, not_true_eq_false, lw_2, lw_wt, lr_0, lww_0, lr_1, lww_1, lr_2, lww_2, lr_3, lww_3, lr_4, lww_4, lr_5, lww_5, lr_6, lww_6, lr_7, lww_7, lr_8, lww_8, lrd_0, lwd_0, lrd_1, lwd_1, lrd_2, lwd_2, lrd_3, lwd_3, lrr_p, lrr_0, lwr_p, lwr_0, ln10, hwτ, a2, k2, hc9, i1, v1, q1]
    exact ih
end LE4
