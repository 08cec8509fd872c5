/-! SkipRows: putAll, freest, the digest's parts -/
def jAdd (σ : jgS) (h : Nat) (k u : Int32) : jgS := jwI (jwI (jbg σ (h + 4 + jn σ h) k u (σ.1 h 5) (σ.1 h 4)) h 3 (nI (jn σ h) + 1)) h 5 (σ.1 h 5 + 1)
theorem jAdd_F (G : jgG) (h : Nat) (k u : Int32) (σ : jgS) : Ff_X5_addRow G h k u σ = (.inl none, jAdd σ h k u) := rfl
theorem jAdd_2 (σ : jgS) (h : Nat) (k u : Int32) : (jAdd σ h k u).2 = σ.2 := rfl
theorem jAdd_out {σ : jgS} {h a : Nat} {k u : Int32} (hn : jn σ h < 24) (ha : a < h ∨ h + 28 ≤ a) (j : Nat) : (jAdd σ h k u).1 a j = σ.1 a j := by
  unfold jAdd
  rw [jI_wI, if_neg (by omega), jI_wI, if_neg (by omega), jbg_out (by omega)]
theorem jAdd_f {G : jgG} {σ : jgS} {h : Nat} {k u : Int32} (hT : jT G σ h) (hn : jn σ h < 24) : jT G (jAdd σ h k u) h ∧ jn (jAdd σ h k u) h = jn σ h + 1 := by
  have e : (jAdd σ h k u).1 h 3 = nI (jn σ h + 1) := by
    unfold jAdd
    rw [jI_wI, if_neg (by omega), jI_wI, if_pos ⟨rfl, rfl⟩]
    exact nI_1 _
  have e2 : jn (jAdd σ h k u) h = jn σ h + 1 := by unfold jn at *; rw [e]; exact nI_clamp (by omega)
  exact ⟨⟨hT.1, by rw [e2, e], by omega⟩, e2⟩
def jAdN (σ : jgS) (h : Nat) (k u : Int32) (t : Nat) : jgS := jfd (fun _ τ => jAdd τ h k u) t σ
theorem jAdN_f {G : jgG} {σ : jgS} {h : Nat} {k u : Int32} (hT : jT G σ h) {t : Nat} (hn : jn σ h + t ≤ 24) : jT G (jAdN σ h k u t) h ∧ jn (jAdN σ h k u t) h = jn σ h + t ∧ (jAdN σ h k u t).2 = σ.2 ∧ ∀ a, (a < h ∨ h + 28 ≤ a) → ∀ j, (jAdN σ h k u t).1 a j = σ.1 a j := by
  induction t with
  | zero => exact ⟨hT, rfl, rfl, fun _ _ _ => rfl⟩
  | succ t ih =>
    obtain ⟨h1, h2, h3, h4⟩ := ih (by omega)
    have hn9 : jn (jAdN σ h k u t) h < 24 := by omega
    obtain ⟨g1, g2⟩ := jAdd_f (k := k) (u := u) h1 hn9
    exact ⟨g1, by rw [show jAdN σ h k u (t + 1) = jAdd (jAdN σ h k u t) h k u from rfl, g2, h2]; rfl, h3, fun a ha j => (jAdd_out hn9 ha j).trans (h4 a ha j)⟩
def jAdP (σ : jgS) (h : Nat) (T : jPS) (p : Nat) : jgS := jfd (fun i τ => jAdN τ h (T.2.2.1 i) (T.2.2.2.1 i) ((T.2.2.2.2 i).toNatClampNeg)) p σ
def jts (T : jPS) (p : Nat) : Nat := jfd (fun i s => s + (T.2.2.2.2 i).toNatClampNeg) p 0
theorem jts_s (T : jPS) (p : Nat) : jts T (p + 1) = jts T p + (T.2.2.2.2 p).toNatClampNeg := rfl
theorem jAdP_s (σ : jgS) (h : Nat) (T : jPS) (p : Nat) : jAdP σ h T (p + 1) = jAdN (jAdP σ h T p) h (T.2.2.1 p) (T.2.2.2.1 p) ((T.2.2.2.2 p).toNatClampNeg) := jfd_s _ _ _
theorem jts_m {T : jPS} {p q : Nat} (h : p ≤ q) : jts T p ≤ jts T q := by
  obtain ⟨d, rfl⟩ : ∃ d, q = p + d := ⟨q - p, by omega⟩
  clear h
  induction d with
  | zero => exact Nat.le_refl _
  | succ d ih => rw [← Nat.add_assoc, jts_s]; omega
theorem jAdP_f {G : jgG} {σ : jgS} {h : Nat} {T : jPS} (hT : jT G σ h) {p : Nat} (hn : jn σ h + jts T p ≤ 24) : jT G (jAdP σ h T p) h ∧ jn (jAdP σ h T p) h = jn σ h + jts T p ∧ (jAdP σ h T p).2 = σ.2 ∧ ∀ a, (a < h ∨ h + 28 ≤ a) → ∀ j, (jAdP σ h T p).1 a j = σ.1 a j := by
  induction p with
  | zero => exact ⟨hT, rfl, rfl, fun _ _ _ => rfl⟩
  | succ p ih =>
    rw [jts_s] at hn
    obtain ⟨h1, h2, h3, h4⟩ := ih (by omega)
    rw [jAdP_s, jts_s]
    obtain ⟨g1, g2, g3, g4⟩ := jAdN_f (k := T.2.2.1 p) (u := T.2.2.2.1 p) (t := (T.2.2.2.2 p).toNatClampNeg) h1 (by omega)
    exact ⟨g1, by omega, g3.trans h3, fun a ha j => (g4 a ha j).trans (h4 a ha j)⟩
theorem jts_I {T : jPS} {p : Nat} (hp : p ≤ 20) (ht : ∀ i, i < p → vp_in (T.2.2.2.2 i) 10) : jfd (fun i s => s + T.2.2.2.2 i) p (0 : Int32) = nI (jts T p) ∧ jts T p ≤ 9 * p := by
  induction p with
  | zero => exact ⟨rfl, Nat.le_refl _⟩
  | succ p ih =>
    obtain ⟨h1, h2⟩ := ih (by omega) (fun i hi => ht i (by omega))
    obtain ⟨t, ht9, et⟩ := vp_in_of (ht p (by omega)) (by decide)
    have ec : (T.2.2.2.2 p).toNatClampNeg = t := by rw [et]; exact nI_clamp (by omega)
    rw [jfd_s, h1, jts_s, ec, et]
    exact ⟨nI_add _ _, by omega⟩
def Pp_X6_putAll (G : jgG) (x : Nat) (σ : jgS) : Prop := jSR G σ x ∧ ((jct (fun k => ¬ (jPG σ (x + 227) (k + 1)).1 = 7) (jBn σ (x + 227)) = jBn σ (x + 227) ∧ ((jPG σ (x + 227) (jBn σ (x + 227))).1 = 2 ∨ (jPG σ (x + 227) (jBn σ (x + 227))).1 = 4 ∨ (jPG σ (x + 227) (jBn σ (x + 227))).1 = 6)) → ∀ i, i < (jPG σ (x + 227) (jBn σ (x + 227))).2.1 → vp_in ((jPG σ (x + 227) (jBn σ (x + 227))).2.2.2.2 i) 10)
def Ff_X6_putAll (G : jgG) (x : Nat) (σ : jgS) : jgR := (if ¬ (jct (fun k => ¬ (jPG σ (x + 227) (k + 1)).1 = 7) (jBn σ (x + 227)) = jBn σ (x + 227) ∧ ((jPG σ (x + 227) (jBn σ (x + 227))).1 = 2 ∨ (jPG σ (x + 227) (jBn σ (x + 227))).1 = 4 ∨ (jPG σ (x + 227) (jBn σ (x + 227))).1 = 6)) then (.inr "java/lang/IllegalArgumentException", jwh (jwB σ (x + 227) (jPG σ (x + 227) (jBn σ (x + 227)))) 6) else if 24 < σ.1 (x + 1) 3 + nI (jts (jPG σ (x + 227) (jBn σ (x + 227))) (jPG σ (x + 227) (jBn σ (x + 227))).2.1) then (.inr "java/lang/IllegalStateException", jwh (jwB σ (x + 227) (jPG σ (x + 227) (jBn σ (x + 227)))) 6) else (.inl (some (.int (nI (jn σ (x + 1) + jts (jPG σ (x + 227) (jBn σ (x + 227))) (jPG σ (x + 227) (jBn σ (x + 227))).2.1)))), jwI (jAdP (jHkeep (jwB σ (x + 227) (jPG σ (x + 227) (jBn σ (x + 227)))) (x + 33) (x + 1)) (x + 1) (jPG σ (x + 227) (jBn σ (x + 227))) (jPG σ (x + 227) (jBn σ (x + 227))).2.1) (x + 227) 1 0))
def P_X6_putAll (G : jgG) (As : List Value) (σ : jgS) : Prop := ∃ x : Nat, As = [.ref x] ∧ Pp_X6_putAll G x σ
def F_X6_putAll (G : jgG) (As : List Value) (σ : jgS) : jgR := Ff_X6_putAll G (jaR As 0) σ
def S_X6_putAll (G : jgG) : jgSpec := jsp (P_X6_putAll G) (F_X6_putAll G)
theorem PX_X6_putAll {G : jgG} {x : Nat} {σ : jgS} : P_X6_putAll G [.ref x] σ ↔ Pp_X6_putAll G x σ := by unfold P_X6_putAll; simp [and_assoc]
theorem FX_X6_putAll {G : jgG} {x : Nat} {σ : jgS} : F_X6_putAll G [.ref x] σ = Ff_X6_putAll G x σ := rfl
def I_X6_putAll : jgI := (0, 6, yX6_putAll, cX6_putAll, 3, (some .int), 0, 7, 111, [])
theorem jd_X6_putAll : I_X6_putAll.2.2.1.cls ≠ "java/lang/invoke/MethodHandle" ∧ I_X6_putAll.2.2.1.cls ≠ "java/lang/invoke/VarHandle" ∧ (parseMethodDescriptor I_X6_putAll.2.2.1.desc).map (fun d => d.parameters.length) = some I_X6_putAll.2.2.2.2.2.2.1 := ⟨by decide +kernel, by decide +kernel, by decide +kernel⟩
def M_X6_putAll (G : jgG) : jgM := (cX6_putAll, [(10, jpF 6 0), (19, jpF 6 1), (26, jpF 6 2), (41, jpC I_X6_requireRoomFor (S_X6_requireRoomFor G)), (45, jpC I_X1_keep (S_X1_keep G)), (49, jpC I_X5_addRow (S_X5_addRow G)), (53, jpF 5 3), (156, jpF 0 1), (167, jpC I_X0_isComplete (S_X0_isComplete G)), (175, jpC I_X0_rowsNamed (S_X0_rowsNamed G)), (178, jpF 0 5), (181, jpF 0 4), (184, jpF 0 2), (186, jpF 0 3)], [(10, "java/lang/IllegalArgumentException")], [], (some .int), false)
theorem jwB_o {σ : jgS} {B a k : Nat} {s : jPS} (h : a < B ∨ B + 5 ≤ a) : (jwB σ B s).1 a k = σ.1 a k := by
  show (if _ then _ else if _ then _ else if _ then _ else if _ then _ else if _ then _ else _) = _
  rw [if_neg (by omega), if_neg (by omega), if_neg (by omega), if_neg (by omega), if_neg (by omega)]
theorem jwB_o5 (σ : jgS) (B : Nat) (s : jPS) : (jwB σ B s).1 B 5 = nI s.2.1 := (if_neg (by omega)).trans (if_pos ⟨rfl, rfl⟩)
theorem jwB_o2 (σ : jgS) (B k : Nat) (s : jPS) : (jwB σ B s).1 (B + 2) k = s.2.2.1 k := (if_neg (by omega)).trans ((if_neg (by omega)).trans (if_pos rfl))
theorem jwB_o3 (σ : jgS) (B k : Nat) (s : jPS) : (jwB σ B s).1 (B + 3) k = s.2.2.2.1 k := (if_neg (by omega)).trans ((if_neg (by omega)).trans ((if_neg (by omega)).trans (if_pos rfl)))
theorem jwB_o4 (σ : jgS) (B k : Nat) (s : jPS) : (jwB σ B s).1 (B + 4) k = s.2.2.2.2 k := (if_neg (by omega)).trans ((if_neg (by omega)).trans ((if_neg (by omega)).trans ((if_neg (by omega)).trans (if_pos rfl))))
theorem jSR_o {G : jgG} {σ τ : jgS} {x : Nat} (h2 : τ.2 = σ.2) (ho : ∀ a, a < x + 227 → ∀ k, τ.1 a k = σ.1 a k) (hb : vp_in (τ.1 (x + 227) 1) 61) (hp : jSR G σ x) : jSR G τ x := by
  obtain ⟨h1, hT, hH, hB, hL, h4, hu, hh⟩ := hp
  have ew : jwt τ = jwt σ := by unfold jwt; rw [h2]
  have ejn : jn τ (x + 1) = jn σ (x + 1) := by unfold jn; rw [ho _ (by omega)]
  obtain ⟨b1, b2, b3, b4⟩ := hB
  obtain ⟨c1, c2, c3, c4, c5⟩ := hH
  refine ⟨by rw [h2, ew]; exact h1, jT_cg h2 (ho _ (by omega) _) hT, ⟨by rw [h2, ew]; exact c1, by rw [h2]; exact c2, fun i hi => jT_cg h2 (ho _ (by omega) _) (c3 i hi), by rw [ho _ (by omega)]; exact c4, by rw [ho _ (by omega)]; exact c5⟩, ⟨by rw [ew]; exact b1, by rw [h2]; exact b2, by rw [ew]; exact b3, hb⟩, by rw [ew]; exact hL, h4, fun j hj => ?_, fun j hj => ?_⟩
  · rw [ejn] at hj
    rw [ho _ (by have := hT.2.2; omega)]
    exact hu j hj
  · rw [ejn] at hj
    rw [ho _ (by have := hT.2.2; omega), ho _ (by have := hT.2.2; omega)]
    exact hh j hj
theorem lpi_X6_putAll {G : jgG} {x p n : Nat} {T : jPS} {σ : jgS} {Φ : jgR → Prop} (r0 : jo G (jwt σ) x 6) (r1 : σ.2.1 x 0 = some (x + 1)) (r3 : σ.2.1 x 2 = some (x + 227)) (b0 : jo G (jwt σ) (x + 227) 0) (b2 : σ.2.1 (x + 227) 2 = some (x + 227 + 2)) (b3 : σ.2.1 (x + 227) 3 = some (x + 227 + 3)) (b4 : σ.2.1 (x + 227) 4 = some (x + 227 + 4)) (l2 : jl G (jwt σ) (x + 227 + 2) ∧ G.2.2.2.1 (x + 227 + 2) = (8, 20)) (l3 : jl G (jwt σ) (x + 227 + 3) ∧ G.2.2.2.1 (x + 227 + 3) = (8, 20)) (l4 : jl G (jwt σ) (x + 227 + 4) ∧ G.2.2.2.1 (x + 227 + 4) = (8, 20)) (hp : p < 20) (hT : jT G σ (x + 1)) (e2 : σ.1 (x + 227 + 2) p = T.2.2.1 p) (e3 : σ.1 (x + 227 + 3) p = T.2.2.2.1 p) (e4 : σ.1 (x + 227 + 4) p = nI n) (en : (T.2.2.2.2 p).toNatClampNeg = n) (h24 : jn σ (x + 1) + n ≤ 24) (hn9 : n < 10) (hE : ∀ o, Jr G (M_X6_putAll G) 101 [some (.ref x), some (.int (nI p)), o] [] (jAdN σ (x + 1) (T.2.2.1 p) (T.2.2.2.1 p) n) Φ) : Jr G (M_X6_putAll G) 57 [some (.ref x), some (.int (nI p)), some (.int 0)] [] σ Φ := by
  have hpv : vp_in (nI p) 20 := vp_in_nI (by omega) (by decide)
  have hpc : (nI p).toNatClampNeg = p := nI_clamp (by omega)
  refine jloop (P := fun i => Jr G (M_X6_putAll G) 57 [some (.ref x), some (.int (nI p)), some (.int (nI i))] [] (jAdN σ (x + 1) (T.2.2.1 p) (T.2.2.2.1 p) i) Φ) (n := n) ?_ (fun i hlt ih => ?_)
  · show Jr G (M_X6_putAll G) 57 _ _ _ _
    obtain ⟨g1, g2, g3, g4⟩ := jAdN_f (k := T.2.2.1 p) (u := T.2.2.2.1 p) (t := n) hT h24
    have gw : jwt (jAdN σ (x + 1) (T.2.2.1 p) (T.2.2.2.1 p) n) = jwt σ := by unfold jwt; rw [g3]
    have g5 := g4 (x + 227 + 4) (by omega) p
    rw [jq_iload2 (M := M_X6_putAll G) 58 dX6_putAll_57 rfl]
    simp only [jq_aload0 (M := M_X6_putAll G) 59 dX6_putAll_58 rfl, jq_getR (M := M_X6_putAll G) 6 2 62 dX6_putAll_59 rfl rfl rfl, jq_getR (M := M_X6_putAll G) 0 4 65 dX6_putAll_62 rfl rfl rfl, jq_iload1 (M := M_X6_putAll G) 66 dX6_putAll_65 rfl, jq_iald (M := M_X6_putAll G) 67 dX6_putAll_66 rfl, jq_icmp_ge (M := M_X6_putAll G) 101 70 dX6_putAll_67 (by decide) rfl, eq_self, jref_10, jref_11, jref_12, jk_v, jk_n, jcat_nil, jcat_i, jcat_r, jcat_l, jcat_d, jc2_i, jc2_r, jc2_n, jc1_i, jc1_r, jrf_some, jwtq_wI, jwtq_wh, jR_wI, jI_wh, jR_wh, List.cons.injEq, Value.int.injEq, Value.ref.injEq, Value.long.injEq, Value.double.injEq, true_and, and_true, and_self, Nat.reduceAdd, Nat.reduceLeDiff, if_true, if_false, ite_true, ite_false, jc1q_i, jc1q_r, jc1q_l, jwtq_wR, jwtq_wY, jI_wI, Nat.reduceEqDiff, and_false, false_and, not_false_eq_true, not_true_eq_false, g3, gw, r0, r3, b0, b4, l4, hpv, hpc, g5, e4, Int32.le_refl]
    exact hE _
  · show Jr G (M_X6_putAll G) 57 _ _ _ _
    obtain ⟨g1, g2, g3, g4⟩ := jAdN_f (k := T.2.2.1 p) (u := T.2.2.2.1 p) (t := i) hT (by omega)
    have gw : jwt (jAdN σ (x + 1) (T.2.2.1 p) (T.2.2.2.1 p) i) = jwt σ := by unfold jwt; rw [g3]
    have g5 := g4 (x + 227 + 4) (by omega) p
    have g6 := g4 (x + 227 + 3) (by omega) p
    have g7 := g4 (x + 227 + 2) (by omega) p
    have hc : ¬ nI n ≤ nI i := nI_ge hlt (by omega)
    have hn24 : jn (jAdN σ (x + 1) (T.2.2.1 p) (T.2.2.2.1 p) i) (x + 1) < 24 := by omega
    have hs : jAdN σ (x + 1) (T.2.2.1 p) (T.2.2.2.1 p) (i + 1) = jAdd (jAdN σ (x + 1) (T.2.2.1 p) (T.2.2.2.1 p) i) (x + 1) (T.2.2.1 p) (T.2.2.2.1 p) := rfl
    rw [hs, ← nI_1] at ih
    have t0 : jo G (jwt σ) (x + 1) 5 := hT.1.1
    rw [jq_iload2 (M := M_X6_putAll G) 58 dX6_putAll_57 rfl]
    generalize jAdN σ (x + 1) (T.2.2.1 p) (T.2.2.2.1 p) i = τ at *
    simp only [jq_aload0 (M := M_X6_putAll G) 59 dX6_putAll_58 rfl, jq_getR (M := M_X6_putAll G) 6 2 62 dX6_putAll_59 rfl rfl rfl, jq_getR (M := M_X6_putAll G) 0 4 65 dX6_putAll_62 rfl rfl rfl, jq_iload1 (M := M_X6_putAll G) 66 dX6_putAll_65 rfl, jq_iald (M := M_X6_putAll G) 67 dX6_putAll_66 rfl, jq_icmp_ge (M := M_X6_putAll G) 101 70 dX6_putAll_67 (by decide) rfl, jq_aload0 (M := M_X6_putAll G) 71 dX6_putAll_70 rfl, jq_getR (M := M_X6_putAll G) 6 0 74 dX6_putAll_71 rfl rfl rfl, jq_aload0 (M := M_X6_putAll G) 75 dX6_putAll_74 rfl, jq_getR (M := M_X6_putAll G) 6 2 78 dX6_putAll_75 rfl rfl rfl, jq_getR (M := M_X6_putAll G) 0 2 81 dX6_putAll_78 rfl rfl rfl, jq_iload1 (M := M_X6_putAll G) 82 dX6_putAll_81 rfl, jq_iald (M := M_X6_putAll G) 83 dX6_putAll_82 rfl, jq_aload0 (M := M_X6_putAll G) 84 dX6_putAll_83 rfl, jq_getR (M := M_X6_putAll G) 6 2 87 dX6_putAll_84 rfl rfl rfl, jq_getR (M := M_X6_putAll G) 0 3 90 dX6_putAll_87 rfl rfl rfl, jq_iload1 (M := M_X6_putAll G) 91 dX6_putAll_90 rfl, jq_iald (M := M_X6_putAll G) 92 dX6_putAll_91 rfl, jq_virt2 (M := M_X6_putAll G) I_X5_addRow 5 dX6_putAll_92 rfl rfl rfl rfl, jq_iinc2 (M := M_X6_putAll G) 1 98 dX6_putAll_95 (by decide) rfl, jq_goto (M := M_X6_putAll G) 57 dX6_putAll_98 (by decide), eq_self, jref_10, jref_11, jref_12, jk_v, jk_n, jcat_nil, jcat_i, jcat_r, jcat_l, jcat_d, jc2_i, jc2_r, jc2_n, jc1_i, jc1_r, jrf_some, jwtq_wI, jwtq_wh, jR_wI, jI_wh, jR_wh, List.cons.injEq, Value.int.injEq, Value.ref.injEq, Value.long.injEq, Value.double.injEq, true_and, and_true, and_self, Nat.reduceAdd, Nat.reduceLeDiff, if_true, if_false, ite_true, ite_false, jc1q_i, jc1q_r, jc1q_l, jwtq_wR, jwtq_wY, jI_wI, Nat.reduceEqDiff, and_false, false_and, not_false_eq_true, not_true_eq_false, g3, gw, r0, r1, r3, b0, b2, b3, b4, l2, l3, l4, t0, hpv, hpc, g5, g6, g7, e2, e3, e4, hc, g1, hn24, PX_X5_addRow, FX_X5_addRow, Pp_X5_addRow, jAdd_F]
    exact ih
theorem jAdN_2 (σ : jgS) (h : Nat) (k u : Int32) : ∀ t, (jAdN σ h k u t).2 = σ.2
  | 0 => rfl
  | t + 1 => jAdN_2 σ h k u t
theorem jAdP_2 (σ : jgS) (h : Nat) (T : jPS) : ∀ p, (jAdP σ h T p).2 = σ.2
  | 0 => rfl
  | p + 1 => by rw [jAdP_s, jAdN_2]; exact jAdP_2 σ h T p
theorem le_putAll (G : jgG) (x : Nat) (σ : jgS) : jhs σ ≤ jhs (Ff_X6_putAll G x σ).2 ∧ jsl σ ≤ jsl (Ff_X6_putAll G x σ).2 := by
  unfold Ff_X6_putAll
  split
  · exact ⟨Nat.le_succ _, Nat.le_add_right _ _⟩
  · split
    · exact ⟨Nat.le_succ _, Nat.le_add_right _ _⟩
    · have e : ∀ τ : jgS, τ.2 = σ.2 → ∀ T p, (jwI (jAdP τ (x + 1) T p) (x + 227) 1 0).2 = σ.2 := fun τ h T p => (jAdP_2 _ _ _ _).trans h
      have e2 := e (jHkeep (jwB σ (x + 227) (jPG σ (x + 227) (jBn σ (x + 227)))) (x + 33) (x + 1)) rfl (jPG σ (x + 227) (jBn σ (x + 227))) (jPG σ (x + 227) (jBn σ (x + 227))).2.1
      unfold jhs jsl
      dsimp only
      rw [e2]
      exact ⟨Nat.le_refl _, Nat.le_refl _⟩
theorem bd_X6_putAll (G : jgG) : ∀ (As : List Value) (σ : jgS) (r : jgR), S_X6_putAll G As σ r → jhs σ ≤ jhs r.2 ∧ jsl σ ≤ jsl r.2 ∧ (jent As).length ≤ I_X6_putAll.2.2.2.2.1 ∧ Jr G (M_X6_putAll G) 0 (jentry As I_X6_putAll.2.2.2.2.1) [] σ (fun r' => r' = r) := by
  rintro As σ r ⟨⟨x, rfl, hp⟩, rfl⟩
  rw [FX_X6_putAll]
  refine ⟨(le_putAll G x σ).1, (le_putAll G x σ).2, by simp [jent, Value.category, I_X6_putAll], ?_⟩
  show Jr G (M_X6_putAll G) 0 [some (.ref x), none, none] [] σ (fun r' => r' = Ff_X6_putAll G x σ)
  obtain ⟨hp, ht⟩ := hp
  obtain ⟨⟨r0, r1, r2, r3, r4⟩, hT, hH, hB, hL, ⟨⟨x1, x2⟩, x3, x4⟩, hu, hh⟩ := id hp
  obtain ⟨⟨t0, ⟨t1, t2, t3⟩, ⟨⟨a1, k1⟩, ⟨a2, k2⟩, ⟨a3, k3⟩⟩, tr, td⟩, hn, hn24⟩ := id hT
  obtain ⟨b0, ⟨b1, b2, b3, b4⟩, ⟨l1, l2, l3, l4⟩, hbl⟩ := id hB
  have hF : Ff_X0_isComplete G (x + 227) σ = (.inl (some (.int (jb (jct (fun k => ¬ (jPG σ (x + 227) (k + 1)).1 = 7) (jBn σ (x + 227)) = jBn σ (x + 227) ∧ ((jPG σ (x + 227) (jBn σ (x + 227))).1 = 2 ∨ (jPG σ (x + 227) (jBn σ (x + 227))).1 = 4 ∨ (jPG σ (x + 227) (jBn σ (x + 227))).1 = 6))))), jwB σ (x + 227) (jPG σ (x + 227) (jBn σ (x + 227)))) := rfl
  have hle := jPG_le σ (x + 227) (jBn σ (x + 227))
  unfold Ff_X6_putAll
  by_cases c1 : (jct (fun k => ¬ (jPG σ (x + 227) (k + 1)).1 = 7) (jBn σ (x + 227)) = jBn σ (x + 227) ∧ ((jPG σ (x + 227) (jBn σ (x + 227))).1 = 2 ∨ (jPG σ (x + 227) (jBn σ (x + 227))).1 = 4 ∨ (jPG σ (x + 227) (jBn σ (x + 227))).1 = 6))
  · have htt := ht c1
    have hBT := jBuf_wB (s := jPG σ (x + 227) (jBn σ (x + 227))) hB
    have hb5 : (jwB σ (x + 227) (jPG σ (x + 227) (jBn σ (x + 227)))).1 (x + 227) 5 = nI (jPG σ (x + 227) (jBn σ (x + 227))).2.1 := jwB_o5 _ _ _
    have hb2 : ∀ k, (jwB σ (x + 227) (jPG σ (x + 227) (jBn σ (x + 227)))).1 (x + 227 + 2) k = (jPG σ (x + 227) (jBn σ (x + 227))).2.2.1 k := fun k => jwB_o2 _ _ _ _
    have hb3 : ∀ k, (jwB σ (x + 227) (jPG σ (x + 227) (jBn σ (x + 227)))).1 (x + 227 + 3) k = (jPG σ (x + 227) (jBn σ (x + 227))).2.2.2.1 k := fun k => jwB_o3 _ _ _ _
    have hb4 : ∀ k, (jwB σ (x + 227) (jPG σ (x + 227) (jBn σ (x + 227)))).1 (x + 227 + 4) k = (jPG σ (x + 227) (jBn σ (x + 227))).2.2.2.2 k := fun k => jwB_o4 _ _ _ _
    have hbp : jBp (jwB σ (x + 227) (jPG σ (x + 227) (jBn σ (x + 227)))) (x + 227) = (jPG σ (x + 227) (jBn σ (x + 227))).2.1 := by unfold jBp; rw [hb5]; exact nI_clamp (by omega)
    obtain ⟨hI1, hI2⟩ := jts_I (T := jPG σ (x + 227) (jBn σ (x + 227))) hle.2 htt
    have hrn : Ff_X0_rowsNamed G (x + 227) (jwB σ (x + 227) (jPG σ (x + 227) (jBn σ (x + 227)))) = (.inl (some (.int (nI (jts (jPG σ (x + 227) (jBn σ (x + 227))) (jPG σ (x + 227) (jBn σ (x + 227))).2.1)))), jwB σ (x + 227) (jPG σ (x + 227) (jBn σ (x + 227)))) := by
      unfold Ff_X0_rowsNamed
      rw [hbp, ← hI1]
      have e : (jwB σ (x + 227) (jPG σ (x + 227) (jBn σ (x + 227)))).1 (x + 227 + 4) = (jPG σ (x + 227) (jBn σ (x + 227))).2.2.2.2 := funext hb4
      rw [e]
    have hv5 : vp_in ((jwB σ (x + 227) (jPG σ (x + 227) (jBn σ (x + 227)))).1 (x + 227) 5) 21 := by rw [hb5]; exact vp_in_nI (by omega) (by decide)
    have hS : jSR G (jwB σ (x + 227) (jPG σ (x + 227) (jBn σ (x + 227)))) x := jSR_o (σ := σ) rfl (fun a ha k => jwB_o (by omega)) (by rw [jwB_1]; exact hbl) hp
    have h3 : (jwB σ (x + 227) (jPG σ (x + 227) (jBn σ (x + 227)))).1 (x + 1) 3 = σ.1 (x + 1) 3 := jwB_o (by omega)
    have hnn : jn (jwB σ (x + 227) (jPG σ (x + 227) (jBn σ (x + 227)))) (x + 1) = jn σ (x + 1) := by unfold jn; rw [h3]
    have ew : jwt (jwB σ (x + 227) (jPG σ (x + 227) (jBn σ (x + 227)))) = jwt σ := rfl
    have e2 : (jwB σ (x + 227) (jPG σ (x + 227) (jBn σ (x + 227)))).2 = σ.2 := rfl
    by_cases c2 : 24 < σ.1 (x + 1) 3 + nI (jts (jPG σ (x + 227) (jBn σ (x + 227))) (jPG σ (x + 227) (jBn σ (x + 227))).2.1)
    · simp only [jq_aload0 (M := M_X6_putAll G) 1 dX6_putAll_0 rfl, jq_getR (M := M_X6_putAll G) 6 2 4 dX6_putAll_1 rfl rfl rfl, jq_virt0 (M := M_X6_putAll G) I_X0_isComplete 0 dX6_putAll_4 rfl rfl rfl rfl, jq_if_ne (M := M_X6_putAll G) 20 10 dX6_putAll_7 (by decide) rfl, jq_throw (M := M_X6_putAll G) "java/lang/IllegalArgumentException" dX6_putAll_10 rfl, jq_aload0 (M := M_X6_putAll G) 21 dX6_putAll_20 rfl, jq_aload0 (M := M_X6_putAll G) 22 dX6_putAll_21 rfl, jq_getR (M := M_X6_putAll G) 6 2 25 dX6_putAll_22 rfl rfl rfl, jq_virt0 (M := M_X6_putAll G) I_X0_rowsNamed 0 dX6_putAll_25 rfl rfl rfl rfl, jq_virt1 (M := M_X6_putAll G) I_X6_requireRoomFor 6 dX6_putAll_28 rfl rfl rfl rfl, eq_self, jref_10, jref_11, jref_12, jk_v, jk_n, jcat_nil, jcat_i, jcat_r, jcat_l, jcat_d, jc2_i, jc2_r, jc2_n, jc1_i, jc1_r, jrf_some, jwtq_wI, jwtq_wh, jR_wI, jI_wh, jR_wh, List.cons.injEq, Value.int.injEq, Value.ref.injEq, Value.long.injEq, Value.double.injEq, true_and, and_true, and_self, Nat.reduceAdd, Nat.reduceLeDiff, if_true, if_false, ite_true, ite_false, jc1q_i, jc1q_r, jc1q_l, jwtq_wR, jwtq_wY, jI_wI, Nat.reduceEqDiff, and_false, false_and, not_false_eq_true, not_true_eq_false, r0, r1, r2, r3, r4, b0, hB, PX_X0_isComplete, FX_X0_isComplete, Pp_X0_isComplete, hF, jb_0, c1, c2, e2, ew, hBT, hv5, PX_X0_rowsNamed, FX_X0_rowsNamed, Pp_X0_rowsNamed, hrn, hS, h3, PX_X6_requireRoomFor, FX_X6_requireRoomFor, Pp_X6_requireRoomFor, Ff_X6_requireRoomFor, jk_ite, jk_x (M := M_X6_putAll G) rfl, or_true, true_or, or_self, or_false, false_or, not_true_eq_false, not_false_eq_true, Nat.zero_le, ji_le, and_self, and_true, and_false, true_and, false_and, or_self, or_true, true_or, or_false, false_or, if_true, if_false, not_true_eq_false, not_false_eq_true]
    · have h24 : jn σ (x + 1) + jts (jPG σ (x + 227) (jBn σ (x + 227))) (jPG σ (x + 227) (jBn σ (x + 227))).2.1 ≤ 24 := by
        have e : ¬ 24 < jn σ (x + 1) + jts (jPG σ (x + 227) (jBn σ (x + 227))) (jPG σ (x + 227) (jBn σ (x + 227))).2.1 := fun z => c2 (by rw [hn, nI_add]; exact (nI_ltI (a := 24) (by decide) (by omega)).mpr z)
        omega
      obtain ⟨_, hTB, hHB, _, _, _, _, _⟩ := id hS
      have d : x + 1 + 32 ≤ x + 33 := by omega
      rw [if_neg (not_not_intro c1), if_neg c2]
      simp only [jq_aload0 (M := M_X6_putAll G) 1 dX6_putAll_0 rfl, jq_getR (M := M_X6_putAll G) 6 2 4 dX6_putAll_1 rfl rfl rfl, jq_virt0 (M := M_X6_putAll G) I_X0_isComplete 0 dX6_putAll_4 rfl rfl rfl rfl, jq_if_ne (M := M_X6_putAll G) 20 10 dX6_putAll_7 (by decide) rfl, jq_throw (M := M_X6_putAll G) "java/lang/IllegalArgumentException" dX6_putAll_10 rfl, jq_aload0 (M := M_X6_putAll G) 21 dX6_putAll_20 rfl, jq_aload0 (M := M_X6_putAll G) 22 dX6_putAll_21 rfl, jq_getR (M := M_X6_putAll G) 6 2 25 dX6_putAll_22 rfl rfl rfl, jq_virt0 (M := M_X6_putAll G) I_X0_rowsNamed 0 dX6_putAll_25 rfl rfl rfl rfl, jq_virt1 (M := M_X6_putAll G) I_X6_requireRoomFor 6 dX6_putAll_28 rfl rfl rfl rfl, jq_aload0 (M := M_X6_putAll G) 32 dX6_putAll_31 rfl, jq_getR (M := M_X6_putAll G) 6 1 35 dX6_putAll_32 rfl rfl rfl, jq_aload0 (M := M_X6_putAll G) 36 dX6_putAll_35 rfl, jq_getR (M := M_X6_putAll G) 6 0 39 dX6_putAll_36 rfl rfl rfl, jq_virt1 (M := M_X6_putAll G) I_X1_keep 1 dX6_putAll_39 rfl rfl rfl rfl, jq_iconst (M := M_X6_putAll G) 0 43 dX6_putAll_42 (by decide) rfl, jq_istore1 (M := M_X6_putAll G) 44 dX6_putAll_43 rfl, eq_self, jref_10, jref_11, jref_12, jk_v, jk_n, jcat_nil, jcat_i, jcat_r, jcat_l, jcat_d, jc2_i, jc2_r, jc2_n, jc1_i, jc1_r, jrf_some, jwtq_wI, jwtq_wh, jR_wI, jI_wh, jR_wh, List.cons.injEq, Value.int.injEq, Value.ref.injEq, Value.long.injEq, Value.double.injEq, true_and, and_true, and_self, Nat.reduceAdd, Nat.reduceLeDiff, if_true, if_false, ite_true, ite_false, jc1q_i, jc1q_r, jc1q_l, jwtq_wR, jwtq_wY, jI_wI, Nat.reduceEqDiff, and_false, false_and, not_false_eq_true, not_true_eq_false, r0, r1, r2, r3, r4, t0, b0, hB, PX_X0_isComplete, FX_X0_isComplete, Pp_X0_isComplete, hF, jb_0, c1, c2, e2, ew, hBT, hv5, PX_X0_rowsNamed, FX_X0_rowsNamed, Pp_X0_rowsNamed, hrn, hS, h3, hH.1.1, hHB, hTB, d, PX_X6_requireRoomFor, FX_X6_requireRoomFor, Pp_X6_requireRoomFor, Ff_X6_requireRoomFor, PX_X1_keep, FX_X1_keep, Pp_X1_keep, Ff_X1_keep, jk_ite, jk_x (M := M_X6_putAll G) rfl, or_true, true_or, or_self, or_false, false_or, not_true_eq_false, not_false_eq_true, Nat.zero_le, ji_le, and_self, and_true, and_false, true_and, false_and, or_self, or_true, true_or, or_false, false_or, if_true, if_false, not_true_eq_false, not_false_eq_true]
      have hn24' : jn (jwB σ (x + 227) (jPG σ (x + 227) (jBn σ (x + 227)))) (x + 1) ≤ 24 := by omega
      have k2 : (jHkeep (jwB σ (x + 227) (jPG σ (x + 227) (jBn σ (x + 227)))) (x + 33) (x + 1)).2 = σ.2 := rfl
      have kT : jT G (jHkeep (jwB σ (x + 227) (jPG σ (x + 227) (jBn σ (x + 227)))) (x + 33) (x + 1)) (x + 1) := jT_cg (σ := jwB σ (x + 227) (jPG σ (x + 227) (jBn σ (x + 227)))) rfl (jHk_out hn24' (by omega) (by omega)) hTB
      have kn : jn (jHkeep (jwB σ (x + 227) (jPG σ (x + 227) (jBn σ (x + 227)))) (x + 33) (x + 1)) (x + 1) = jn σ (x + 1) := by unfold jn at *; rw [jHk_out hn24' (by omega) (by omega)]; exact hnn
      have k5 : (jHkeep (jwB σ (x + 227) (jPG σ (x + 227) (jBn σ (x + 227)))) (x + 33) (x + 1)).1 (x + 227) 5 = nI (jPG σ (x + 227) (jBn σ (x + 227))).2.1 := (jHk_out hn24' (by omega) (by omega)).trans hb5
      have kb2 : ∀ k, (jHkeep (jwB σ (x + 227) (jPG σ (x + 227) (jBn σ (x + 227)))) (x + 33) (x + 1)).1 (x + 227 + 2) k = (jPG σ (x + 227) (jBn σ (x + 227))).2.2.1 k := fun k => (jHk_out hn24' (by omega) (by omega)).trans (hb2 k)
      have kb3 : ∀ k, (jHkeep (jwB σ (x + 227) (jPG σ (x + 227) (jBn σ (x + 227)))) (x + 33) (x + 1)).1 (x + 227 + 3) k = (jPG σ (x + 227) (jBn σ (x + 227))).2.2.2.1 k := fun k => (jHk_out hn24' (by omega) (by omega)).trans (hb3 k)
      have kb4 : ∀ k, (jHkeep (jwB σ (x + 227) (jPG σ (x + 227) (jBn σ (x + 227)))) (x + 33) (x + 1)).1 (x + 227 + 4) k = (jPG σ (x + 227) (jBn σ (x + 227))).2.2.2.2 k := fun k => (jHk_out hn24' (by omega) (by omega)).trans (hb4 k)
      generalize jHkeep (jwB σ (x + 227) (jPG σ (x + 227) (jBn σ (x + 227)))) (x + 33) (x + 1) = κ at *
      have hend : (x + 1) + 28 ≤ x + 227 := by omega
      generalize jPG σ (x + 227) (jBn σ (x + 227)) = T at *
      refine jloop (P := fun i => ∀ o, Jr G (M_X6_putAll G) 44 [some (.ref x), some (.int (nI i)), o] [] (jAdP κ (x + 1) T i) (fun r' => r' = ((.inl (some (.int (nI (jn σ (x + 1) + jts T T.2.1)))), jwI (jAdP κ (x + 1) T T.2.1) (x + 227) 1 0) : jgR))) (n := T.2.1) (fun o => ?_) (fun i hlt ih o => ?_) none
      · show Jr G (M_X6_putAll G) 44 _ _ _ _
        obtain ⟨g1, g2, g3, g4⟩ := jAdP_f (T := T) (p := T.2.1) kT (by omega)
        have gw : jwt (jAdP κ (x + 1) T T.2.1) = jwt σ := by unfold jwt; rw [g3, k2]
        have g5 := (g4 (x + 227) (by omega) 5).trans k5
        have g6 : (jAdP κ (x + 1) T T.2.1).1 (x + 1) 3 = nI (jn σ (x + 1) + jts T T.2.1) := by rw [g1.2.1, g2, kn]
        have n1 : ¬ x + 1 = x + 227 := by omega
        rw [jq_iload1 (M := M_X6_putAll G) 45 dX6_putAll_44 rfl]
        simp only [jq_aload0 (M := M_X6_putAll G) 46 dX6_putAll_45 rfl, jq_getR (M := M_X6_putAll G) 6 2 49 dX6_putAll_46 rfl rfl rfl, jq_getI (M := M_X6_putAll G) 0 5 52 dX6_putAll_49 rfl rfl rfl, jq_icmp_ge (M := M_X6_putAll G) 107 55 dX6_putAll_52 (by decide) rfl, jq_aload0 (M := M_X6_putAll G) 108 dX6_putAll_107 rfl, jq_getR (M := M_X6_putAll G) 6 2 111 dX6_putAll_108 rfl rfl rfl, jq_iconst (M := M_X6_putAll G) 0 112 dX6_putAll_111 (by decide) rfl, jq_putI (M := M_X6_putAll G) 0 1 115 dX6_putAll_112 rfl rfl rfl, jq_aload0 (M := M_X6_putAll G) 116 dX6_putAll_115 rfl, jq_getR (M := M_X6_putAll G) 6 0 119 dX6_putAll_116 rfl rfl rfl, jq_getI (M := M_X6_putAll G) 5 3 122 dX6_putAll_119 rfl rfl rfl, jq_iret (M := M_X6_putAll G) .int dX6_putAll_122 rfl, eq_self, jref_10, jref_11, jref_12, jk_v, jk_n, jcat_nil, jcat_i, jcat_r, jcat_l, jcat_d, jc2_i, jc2_r, jc2_n, jc1_i, jc1_r, jrf_some, jwtq_wI, jwtq_wh, jR_wI, jI_wh, jR_wh, List.cons.injEq, Value.int.injEq, Value.ref.injEq, Value.long.injEq, Value.double.injEq, true_and, and_true, and_self, Nat.reduceAdd, Nat.reduceLeDiff, if_true, if_false, ite_true, ite_false, jc1q_i, jc1q_r, jc1q_l, jwtq_wR, jwtq_wY, jI_wI, Nat.reduceEqDiff, and_false, false_and, not_false_eq_true, not_true_eq_false, g3, k2, gw, r0, r1, r2, r3, r4, t0, b0, g5, g6, n1, jI_wI, Int32.le_refl, jnr_i]
      · show Jr G (M_X6_putAll G) 44 _ _ _ _
        have hm := jts_m (T := T) (Nat.succ_le_of_lt hlt)
        rw [jts_s] at hm
        obtain ⟨g1, g2, g3, g4⟩ := jAdP_f (T := T) (p := i) kT (by omega)
        have gw : jwt (jAdP κ (x + 1) T i) = jwt σ := by unfold jwt; rw [g3, k2]
        have g5 := (g4 (x + 227) (by omega) 5).trans k5
        have g6 := (g4 (x + 227 + 2) (by omega) i).trans (kb2 i)
        have g7 := (g4 (x + 227 + 3) (by omega) i).trans (kb3 i)
        have g8 := (g4 (x + 227 + 4) (by omega) i).trans (kb4 i)
        have hc : ¬ nI T.2.1 ≤ nI i := nI_ge hlt (by omega)
        obtain ⟨t, ht9, et⟩ := vp_in_of (htt i hlt) (by decide)
        have ec : (T.2.2.2.2 i).toNatClampNeg = t := by rw [et]; exact nI_clamp (by omega)
        rw [jAdP_s, ec, ← nI_1] at ih
        rw [ec] at hm
        rw [et] at g8
        rw [jq_iload1 (M := M_X6_putAll G) 45 dX6_putAll_44 rfl]
        simp only [jq_aload0 (M := M_X6_putAll G) 46 dX6_putAll_45 rfl, jq_getR (M := M_X6_putAll G) 6 2 49 dX6_putAll_46 rfl rfl rfl, jq_getI (M := M_X6_putAll G) 0 5 52 dX6_putAll_49 rfl rfl rfl, jq_icmp_ge (M := M_X6_putAll G) 107 55 dX6_putAll_52 (by decide) rfl, jq_iconst (M := M_X6_putAll G) 0 56 dX6_putAll_55 (by decide) rfl, jq_istore2 (M := M_X6_putAll G) 57 dX6_putAll_56 rfl, eq_self, jref_10, jref_11, jref_12, jk_v, jk_n, jcat_nil, jcat_i, jcat_r, jcat_l, jcat_d, jc2_i, jc2_r, jc2_n, jc1_i, jc1_r, jrf_some, jwtq_wI, jwtq_wh, jR_wI, jI_wh, jR_wh, List.cons.injEq, Value.int.injEq, Value.ref.injEq, Value.long.injEq, Value.double.injEq, true_and, and_true, and_self, Nat.reduceAdd, Nat.reduceLeDiff, if_true, if_false, ite_true, ite_false, jc1q_i, jc1q_r, jc1q_l, jwtq_wR, jwtq_wY, jI_wI, Nat.reduceEqDiff, and_false, false_and, not_false_eq_true, not_true_eq_false, g3, k2, gw, r0, r1, r2, r3, r4, b0, g5, hc]
        generalize jAdP κ (x + 1) T i = τ at *
        have e3 : τ.2 = σ.2 := g3.trans k2
        refine lpi_X6_putAll (T := T) (n := t) (by rw [gw]; exact r0) (by rw [e3]; exact r1) (by rw [e3]; exact r3) (by rw [gw]; exact b0) (by rw [e3]; exact b2) (by rw [e3]; exact b3) (by rw [e3]; exact b4) (by rw [gw]; exact l2) (by rw [gw]; exact l3) (by rw [gw]; exact l4) (by omega) g1 g6 g7 g8 ec (by omega) ht9 (fun o => ?_)
        simp only [jq_iinc1 (M := M_X6_putAll G) 1 104 dX6_putAll_101 (by decide) rfl, jq_goto (M := M_X6_putAll G) 44 dX6_putAll_104 (by decide), eq_self, jref_10, jref_11, jref_12, jk_v, jk_n, jcat_nil, jcat_i, jcat_r, jcat_l, jcat_d, jc2_i, jc2_r, jc2_n, jc1_i, jc1_r, jrf_some, jwtq_wI, jwtq_wh, jR_wI, jI_wh, jR_wh, List.cons.injEq, Value.int.injEq, Value.ref.injEq, Value.long.injEq, Value.double.injEq, true_and, and_true, and_self, Nat.reduceAdd, Nat.reduceLeDiff, if_true, if_false, ite_true, ite_false, jc1q_i, jc1q_r, jc1q_l, jwtq_wR, jwtq_wY, jI_wI, Nat.reduceEqDiff, and_false, false_and, not_false_eq_true, not_true_eq_false]
        exact ih o
  · simp only [jq_aload0 (M := M_X6_putAll G) 1 dX6_putAll_0 rfl, jq_getR (M := M_X6_putAll G) 6 2 4 dX6_putAll_1 rfl rfl rfl, jq_virt0 (M := M_X6_putAll G) I_X0_isComplete 0 dX6_putAll_4 rfl rfl rfl rfl, jq_if_ne (M := M_X6_putAll G) 20 10 dX6_putAll_7 (by decide) rfl, jq_throw (M := M_X6_putAll G) "java/lang/IllegalArgumentException" dX6_putAll_10 rfl, eq_self, jref_10, jref_11, jref_12, jk_v, jk_n, jcat_nil, jcat_i, jcat_r, jcat_l, jcat_d, jc2_i, jc2_r, jc2_n, jc1_i, jc1_r, jrf_some, jwtq_wI, jwtq_wh, jR_wI, jI_wh, jR_wh, List.cons.injEq, Value.int.injEq, Value.ref.injEq, Value.long.injEq, Value.double.injEq, true_and, and_true, and_self, Nat.reduceAdd, Nat.reduceLeDiff, if_true, if_false, ite_true, ite_false, jc1q_i, jc1q_r, jc1q_l, jwtq_wR, jwtq_wY, jI_wI, Nat.reduceEqDiff, and_false, false_and, not_false_eq_true, not_true_eq_false, r0, r1, r2, r3, r4, b0, hB, PX_X0_isComplete, FX_X0_isComplete, Pp_X0_isComplete, hF, jb_0, c1, jk_ite, jk_x (M := M_X6_putAll G) rfl, or_true, true_or, or_self, or_false, false_or, not_true_eq_false, not_false_eq_true, Nat.zero_le, ji_le, and_self, and_true, and_false, true_and, false_and, or_self, or_true, true_or, or_false, false_or, if_true, if_false, not_true_eq_false, not_false_eq_true]
theorem met_X6_putAll {l : Launch} (hl : l.stackTraces = false) (D : va_G) (cy : Nat → ClassId) (G : jgG) : jMet l D cy G I_X6_putAll (S_X6_putAll G) :=
  jr_met hl (M_X6_putAll G) I_X6_putAll (S_X6_putAll G) RX6 rfl (by decide) rfl rfl rfl rfl (fun h => (by cases h)) jmAI jmAL (fun R h1 h2 => List.forall_mem_cons.mpr ⟨jpokF (r := (RX6, TX6, 4)) rfl jcls6 (by decide) (by decide) jm_274 (fun h => (by cases h)), List.forall_mem_cons.mpr ⟨jpokF (r := (RX6, TX6, 4)) rfl jcls6 (by decide) (by decide) jm_275 (fun h => (by cases h)), List.forall_mem_cons.mpr ⟨jpokF (r := (RX6, TX6, 4)) rfl jcls6 (by decide) (by decide) jm_276 (fun h => (by cases h)), List.forall_mem_cons.mpr ⟨⟨⟨jm_605, jm_50, jd_X6_requireRoomFor, ⟨by rw [h1]; exact Nat.le_of_ble_eq_true rfl, by rw [h2]; exact Nat.le_of_ble_eq_true rfl⟩, Or.inl ⟨rfl, jm_602, jm_604, jm_12, rfl, Nat.le_of_ble_eq_true rfl, _, rfl, rfl⟩⟩, met_X6_requireRoomFor hl D cy G⟩, List.forall_mem_cons.mpr ⟨⟨⟨jm_294, jm_54, jd_X1_keep, ⟨by rw [h1]; exact Nat.le_of_ble_eq_true rfl, by rw [h2]; exact Nat.le_of_ble_eq_true rfl⟩, Or.inl ⟨rfl, jm_291, jm_292, jm_293, rfl, Nat.le_of_ble_eq_true rfl, _, rfl, rfl⟩⟩, met_X1_keep hl D cy G⟩, List.forall_mem_cons.mpr ⟨⟨⟨jm_625, jm_51, jd_X5_addRow, ⟨by rw [h1]; exact Nat.le_of_ble_eq_true rfl, by rw [h2]; exact Nat.le_of_ble_eq_true rfl⟩, Or.inl ⟨rfl, jm_622, jm_623, jm_624, rfl, Nat.le_of_ble_eq_true rfl, _, rfl, rfl⟩⟩, met_X5_addRow hl D cy G⟩, List.forall_mem_cons.mpr ⟨jpokF (r := (RX5, TX5, 8)) rfl jcls5 (by decide) (by decide) jm_167 (fun h => (by cases h)), List.forall_mem_cons.mpr ⟨jpokF (r := (RX0, TX0, 7)) rfl jcls0 (by decide) (by decide) jm_223 (fun h => (by cases h)), List.forall_mem_cons.mpr ⟨⟨⟨jm_766, jm_55, jd_X0_isComplete, ⟨by rw [h1]; exact Nat.le_of_ble_eq_true rfl, by rw [h2]; exact Nat.le_of_ble_eq_true rfl⟩, Or.inl ⟨rfl, jm_763, jm_764, jm_765, rfl, Nat.le_of_ble_eq_true rfl, _, rfl, rfl⟩⟩, met_X0_isComplete hl D cy G⟩, List.forall_mem_cons.mpr ⟨⟨⟨jm_772, jm_55, jd_X0_rowsNamed, ⟨by rw [h1]; exact Nat.le_of_ble_eq_true rfl, by rw [h2]; exact Nat.le_of_ble_eq_true rfl⟩, Or.inl ⟨rfl, jm_769, jm_770, jm_771, rfl, Nat.le_of_ble_eq_true rfl, _, rfl, rfl⟩⟩, met_X0_rowsNamed hl D cy G⟩, List.forall_mem_cons.mpr ⟨jpokF (r := (RX0, TX0, 7)) rfl jcls0 (by decide) (by decide) jm_231 (fun h => (by cases h)), List.forall_mem_cons.mpr ⟨jpokF (r := (RX0, TX0, 7)) rfl jcls0 (by decide) (by decide) jm_229 (fun h => (by cases h)), List.forall_mem_cons.mpr ⟨jpokF (r := (RX0, TX0, 7)) rfl jcls0 (by decide) (by decide) jm_225 (fun h => (by cases h)), List.forall_mem_cons.mpr ⟨jpokF (r := (RX0, TX0, 7)) rfl jcls0 (by decide) (by decide) jm_227 (fun h => (by cases h)), fun _ h => nomatch h⟩⟩⟩⟩⟩⟩⟩⟩⟩⟩⟩⟩⟩⟩) (fun _ => ⟨rfl, by decide, by decide⟩) (List.forall_mem_cons.mpr ⟨⟨170, 172, 174, "the buffer is not complete rows as a text", by decide +kernel, by decide +kernel, jxA, Or.inl ⟨dX6_putAll_10, dX6_putAll_13, dX6_putAll_14, dX6_putAll_16, dX6_putAll_19⟩⟩, fun _ h => nomatch h⟩) (bd_X6_putAll G)
