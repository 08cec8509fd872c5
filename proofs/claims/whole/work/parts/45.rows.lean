/-! SkipRowsModel.readRows -/
theorem mPut_N {S : Nat → Int32} (x u : Int32) (hO : mOk S) (h : mN S < 24) : mN (mPut S x u) = mN S + 1 ∧ mOk (mPut S x u) := by
  have e0 : mPut S x u 0 = nI (mN S + 1) := by
    unfold mPut
    rw [if_pos rfl, ← nI_1, ← hO.1]
  have e1 : mN (mPut S x u) = mN S + 1 := by
    unfold mN at *
    rw [e0]
    exact nI_clamp (by omega)
  exact ⟨e1, by unfold mOk; rw [e1]; exact ⟨e0, h⟩⟩
def mIt (S : Nat → Int32) (x u : Int32) (i : Nat) : Nat → Int32 := jfd (fun _ s => mPut s x u) i S
theorem mIt_s (S : Nat → Int32) (x u : Int32) (i : Nat) : mIt S x u (i + 1) = mPut (mIt S x u i) x u := rfl
theorem mIt_N {S : Nat → Int32} (x u : Int32) (hO : mOk S) {t : Nat} (h : mN S + t ≤ 24) : mN (mIt S x u t) = mN S + t ∧ mOk (mIt S x u t) := by
  induction t with
  | zero => exact ⟨rfl, hO⟩
  | succ t ih =>
    obtain ⟨h1, h2⟩ := ih (by omega)
    obtain ⟨h3, h4⟩ := mPut_N x u h2 (by omega)
    rw [mIt_s]
    exact ⟨by omega, h4⟩
def pk1 (b : Nat → Int32) (n k : Nat) : Nat := if k + 2 < n ∧ b (k + 2) = 117 then k + 4 else k + 2
def pU (b : Nat → Int32) (n k : Nat) : Int32 := if k + 2 < n ∧ b (k + 2) = 117 then b (k + 3) - 48 else 0
def pk2 (b : Nat → Int32) (n k : Nat) : Nat := if pk1 b n k < n ∧ b (pk1 b n k) = 42 then pk1 b n k + 2 else pk1 b n k
def pT (b : Nat → Int32) (n k : Nat) : Int32 := if pk1 b n k < n ∧ b (pk1 b n k) = 42 then b (pk1 b n k + 1) - 48 else 1
def pKy (b : Nat → Int32) (k : Nat) : Int32 := b (k + 1) - 48
def pt (b : Nat → Int32) (n k : Nat) : Nat := (pT b n k).toNatClampNeg
/-- a complete text from k on, f rows at most -/
def mVal (b : Nat → Int32) (n : Nat) : Nat → Nat → Prop
  | 0, k => ¬ k < n
  | f + 1, k => k < n → k + 1 < n ∧ (k + 2 < n → b (k + 2) = 117 → k + 3 < n) ∧ (pk1 b n k < n → b (pk1 b n k) = 42 → pk1 b n k + 1 < n) ∧ vp_in (pT b n k) 10 ∧ mVal b n f (pk2 b n k + 1)
def mSum (b : Nat → Int32) (n : Nat) : Nat → Nat → Nat
  | 0, _ => 0
  | f + 1, k => if k < n then pt b n k + mSum b n f (pk2 b n k + 1) else 0
def mAdd (b : Nat → Int32) (n : Nat) : Nat → Nat → (Nat → Int32) → (Nat → Int32)
  | 0, _, S => S
  | f + 1, k, S => if k < n then mAdd b n f (pk2 b n k + 1) (mIt S (pKy b k) (pU b n k) (pt b n k)) else S
def Pp_X7_readRows (G : jgG) (m : Nat) (p : Int32) (σ : jgS) : Prop := jMs G σ.2.1 (jwt σ) m ∧ vp_in (σ.1 m 6) 61 ∧ mVal (σ.1 (m + 4)) (mLn σ m) 21 0 ∧ (¬ p = 0 → mOk (σ.1 (m + 1)) ∧ mN (σ.1 (m + 1)) + mSum (σ.1 (m + 4)) (mLn σ m) 21 0 ≤ 24)
def Ff_X7_readRows (G : jgG) (m : Nat) (p : Int32) (σ : jgS) : jgR := (.inl (some (.int (nI (mSum (σ.1 (m + 4)) (mLn σ m) 21 0)))), if p = 0 then σ else jwS σ m (mAdd (σ.1 (m + 4)) (mLn σ m) 21 0 (σ.1 (m + 1))))
def P_X7_readRows (G : jgG) (As : List Value) (σ : jgS) : Prop := ∃ m : Nat, ∃ p : Int32, As = [.ref m, .int p] ∧ Pp_X7_readRows G m p σ
def F_X7_readRows (G : jgG) (As : List Value) (σ : jgS) : jgR := Ff_X7_readRows G (jaR As 0) (jaI As 1) σ
def S_X7_readRows (G : jgG) : jgSpec := jsp (P_X7_readRows G) (F_X7_readRows G)
theorem PX_X7_readRows {G : jgG} {m : Nat} {p : Int32} {σ : jgS} : P_X7_readRows G [.ref m, .int p] σ ↔ Pp_X7_readRows G m p σ := by unfold P_X7_readRows; simp [and_assoc]
theorem FX_X7_readRows {G : jgG} {m : Nat} {p : Int32} {σ : jgS} : F_X7_readRows G [.ref m, .int p] σ = Ff_X7_readRows G m p σ := rfl
def I_X7_readRows : jgI := (0, 7, yX7_readRows, cX7_readRows, 8, (some .int), 1, 2, 47, [])
theorem jd_X7_readRows : I_X7_readRows.2.2.1.cls ≠ "java/lang/invoke/MethodHandle" ∧ I_X7_readRows.2.2.1.cls ≠ "java/lang/invoke/VarHandle" ∧ (parseMethodDescriptor I_X7_readRows.2.2.1.desc).map (fun d => d.parameters.length) = some I_X7_readRows.2.2.2.2.2.2.1 := ⟨by decide +kernel, by decide +kernel, by decide +kernel⟩
def M_X7_readRows (G : jgG) : jgM := (cX7_readRows, [(19, jpF 7 5), (91, jpC I_X7_putRow (S_X7_putRow G)), (112, jpF 7 6)], [], [], (some .int), false)
theorem mPut_F (G : jgG) (m : Nat) (x u : Int32) (σ : jgS) (S : Nat → Int32) : Ff_X7_putRow G m x u (jwS σ m S) = (.inl (some (.int (S 0))), jwS σ m (mPut S x u)) := by
  unfold Ff_X7_putRow
  rw [jwS_S, jwS_jwS]
theorem lpC_X7_readRows {G : jgG} {m t a k : Nat} {p K U : Int32} {o : Option Value} {S : Nat → Int32} {σ : jgS} {Φ : jgR → Prop} (hM : jMs G σ.2.1 (jwt σ) m) (ht : t < 10) (hcap : ¬ p = 0 → mOk S ∧ mN S + t ≤ 24) (h : ∀ o, Jr G (M_X7_readRows G) 4 [some (.ref m), some (.int p), some (.int (nI (a + t))), some (.int (nI (k + 1))), some (.int K), some (.int U), some (.int (nI t)), o] [] (jwS σ m (if p = 0 then S else mIt S K U t)) Φ) : Jr G (M_X7_readRows G) 104 [some (.ref m), some (.int p), some (.int (nI a)), some (.int (nI k)), some (.int K), some (.int U), some (.int (nI t)), o] [] (jwS σ m S) Φ := by
  by_cases hp : p = 0
  · subst hp
    rw [if_pos rfl] at h
    simp only [jq_iinc3 (M := M_X7_readRows G) 1 107 dX7_readRows_104 (by decide) rfl, jq_iload2 (M := M_X7_readRows G) 108 dX7_readRows_107 rfl, jq_iloadW6 (M := M_X7_readRows G) 110 dX7_readRows_108 rfl, jq_iadd (M := M_X7_readRows G) 111 dX7_readRows_110 rfl, jq_istore2 (M := M_X7_readRows G) 112 dX7_readRows_111 rfl, jq_iconst (M := M_X7_readRows G) 0 113 dX7_readRows_112 (by decide) rfl, jq_istoreW7 (M := M_X7_readRows G) 115 dX7_readRows_113 rfl, jq_iloadW7 (M := M_X7_readRows G) 117 dX7_readRows_115 rfl, jq_iloadW6 (M := M_X7_readRows G) 119 dX7_readRows_117 rfl, jq_icmp_ge (M := M_X7_readRows G) 141 122 dX7_readRows_119 (by decide) rfl, jq_iload1 (M := M_X7_readRows G) 123 dX7_readRows_122 rfl, jq_if_eq (M := M_X7_readRows G) 141 126 dX7_readRows_123 (by decide) rfl, jq_aload0 (M := M_X7_readRows G) 127 dX7_readRows_126 rfl, jq_iloadW4 (M := M_X7_readRows G) 129 dX7_readRows_127 rfl, jq_iloadW5 (M := M_X7_readRows G) 131 dX7_readRows_129 rfl, jq_virt2 (M := M_X7_readRows G) I_X7_putRow 7 dX7_readRows_131 rfl rfl rfl rfl, jq_popI (M := M_X7_readRows G) 135 dX7_readRows_134 rfl, jq_popR (M := M_X7_readRows G) 135 dX7_readRows_134 rfl, jq_iinc7 (M := M_X7_readRows G) 1 138 dX7_readRows_135 (by decide) rfl, jq_goto (M := M_X7_readRows G) 115 dX7_readRows_138 (by decide), jq_goto (M := M_X7_readRows G) 4 dX7_readRows_141 (by decide), eq_self, jref_10, jref_11, jref_12, jk_v, jk_n, jcat_nil, jcat_i, jcat_r, jcat_l, jcat_d, jc2_i, jc2_r, jc2_n, jc1_i, jc1_r, jrf_some, jwtq_wI, jwtq_wh, jR_wI, jI_wh, jR_wh, List.cons.injEq, Value.int.injEq, Value.ref.injEq, Value.long.injEq, Value.double.injEq, true_and, and_true, and_self, Nat.reduceAdd, Nat.reduceLeDiff, if_true, if_false, ite_true, ite_false, jc1q_i, jc1q_r, jc1q_l, jwtq_wR, jwtq_wY, jI_wI, Nat.reduceEqDiff, and_false, false_and, not_false_eq_true, not_true_eq_false, nI_add, nI_1]
    split <;> exact h _
  · rw [if_neg hp] at h
    obtain ⟨hO, h24⟩ := hcap hp
    simp only [jq_iinc3 (M := M_X7_readRows G) 1 107 dX7_readRows_104 (by decide) rfl, jq_iload2 (M := M_X7_readRows G) 108 dX7_readRows_107 rfl, jq_iloadW6 (M := M_X7_readRows G) 110 dX7_readRows_108 rfl, jq_iadd (M := M_X7_readRows G) 111 dX7_readRows_110 rfl, jq_istore2 (M := M_X7_readRows G) 112 dX7_readRows_111 rfl, jq_iconst (M := M_X7_readRows G) 0 113 dX7_readRows_112 (by decide) rfl, jq_istoreW7 (M := M_X7_readRows G) 115 dX7_readRows_113 rfl, eq_self, jref_10, jref_11, jref_12, jk_v, jk_n, jcat_nil, jcat_i, jcat_r, jcat_l, jcat_d, jc2_i, jc2_r, jc2_n, jc1_i, jc1_r, jrf_some, jwtq_wI, jwtq_wh, jR_wI, jI_wh, jR_wh, List.cons.injEq, Value.int.injEq, Value.ref.injEq, Value.long.injEq, Value.double.injEq, true_and, and_true, and_self, Nat.reduceAdd, Nat.reduceLeDiff, if_true, if_false, ite_true, ite_false, jc1q_i, jc1q_r, jc1q_l, jwtq_wR, jwtq_wY, jI_wI, Nat.reduceEqDiff, and_false, false_and, not_false_eq_true, not_true_eq_false, nI_add, nI_1]
    refine jloop (P := fun i => Jr G (M_X7_readRows G) 115 [some (.ref m), some (.int p), some (.int (nI (a + t))), some (.int (nI (k + 1))), some (.int K), some (.int U), some (.int (nI t)), some (.int (nI i))] [] (jwS σ m (mIt S K U i)) Φ) (n := t) ?_ (fun i hlt ih => ?_)
    · show Jr G (M_X7_readRows G) 115 _ _ _ _
      rw [jq_iloadW7 (M := M_X7_readRows G) 117 dX7_readRows_115 rfl]
      simp only [jq_iloadW6 (M := M_X7_readRows G) 119 dX7_readRows_117 rfl, jq_icmp_ge (M := M_X7_readRows G) 141 122 dX7_readRows_119 (by decide) rfl, jq_iload1 (M := M_X7_readRows G) 123 dX7_readRows_122 rfl, jq_if_eq (M := M_X7_readRows G) 141 126 dX7_readRows_123 (by decide) rfl, jq_aload0 (M := M_X7_readRows G) 127 dX7_readRows_126 rfl, jq_iloadW4 (M := M_X7_readRows G) 129 dX7_readRows_127 rfl, jq_iloadW5 (M := M_X7_readRows G) 131 dX7_readRows_129 rfl, jq_virt2 (M := M_X7_readRows G) I_X7_putRow 7 dX7_readRows_131 rfl rfl rfl rfl, jq_popI (M := M_X7_readRows G) 135 dX7_readRows_134 rfl, jq_popR (M := M_X7_readRows G) 135 dX7_readRows_134 rfl, jq_iinc7 (M := M_X7_readRows G) 1 138 dX7_readRows_135 (by decide) rfl, jq_goto (M := M_X7_readRows G) 115 dX7_readRows_138 (by decide), jq_goto (M := M_X7_readRows G) 4 dX7_readRows_141 (by decide), eq_self, jref_10, jref_11, jref_12, jk_v, jk_n, jcat_nil, jcat_i, jcat_r, jcat_l, jcat_d, jc2_i, jc2_r, jc2_n, jc1_i, jc1_r, jrf_some, jwtq_wI, jwtq_wh, jR_wI, jI_wh, jR_wh, List.cons.injEq, Value.int.injEq, Value.ref.injEq, Value.long.injEq, Value.double.injEq, true_and, and_true, and_self, Nat.reduceAdd, Nat.reduceLeDiff, if_true, if_false, ite_true, ite_false, jc1q_i, jc1q_r, jc1q_l, jwtq_wR, jwtq_wY, jI_wI, Nat.reduceEqDiff, and_false, false_and, not_false_eq_true, not_true_eq_false, Int32.le_refl]
      exact h _
    · show Jr G (M_X7_readRows G) 115 _ _ _ _
      have hc : ¬ nI t ≤ nI i := nI_ge hlt (by omega)
      obtain ⟨h1, h2⟩ := mIt_N (t := i) K U hO (by omega)
      have h3 : mN (mIt S K U i) < 24 := by omega
      rw [mIt_s, ← nI_1 i] at ih
      rw [jq_iloadW7 (M := M_X7_readRows G) 117 dX7_readRows_115 rfl]
      simp only [jq_iloadW6 (M := M_X7_readRows G) 119 dX7_readRows_117 rfl, jq_icmp_ge (M := M_X7_readRows G) 141 122 dX7_readRows_119 (by decide) rfl, jq_iload1 (M := M_X7_readRows G) 123 dX7_readRows_122 rfl, jq_if_eq (M := M_X7_readRows G) 141 126 dX7_readRows_123 (by decide) rfl, jq_aload0 (M := M_X7_readRows G) 127 dX7_readRows_126 rfl, jq_iloadW4 (M := M_X7_readRows G) 129 dX7_readRows_127 rfl, jq_iloadW5 (M := M_X7_readRows G) 131 dX7_readRows_129 rfl, jq_virt2 (M := M_X7_readRows G) I_X7_putRow 7 dX7_readRows_131 rfl rfl rfl rfl, jq_popI (M := M_X7_readRows G) 135 dX7_readRows_134 rfl, jq_popR (M := M_X7_readRows G) 135 dX7_readRows_134 rfl, jq_iinc7 (M := M_X7_readRows G) 1 138 dX7_readRows_135 (by decide) rfl, jq_goto (M := M_X7_readRows G) 115 dX7_readRows_138 (by decide), jq_goto (M := M_X7_readRows G) 4 dX7_readRows_141 (by decide), eq_self, jref_10, jref_11, jref_12, jk_v, jk_n, jcat_nil, jcat_i, jcat_r, jcat_l, jcat_d, jc2_i, jc2_r, jc2_n, jc1_i, jc1_r, jrf_some, jwtq_wI, jwtq_wh, jR_wI, jI_wh, jR_wh, List.cons.injEq, Value.int.injEq, Value.ref.injEq, Value.long.injEq, Value.double.injEq, true_and, and_true, and_self, Nat.reduceAdd, Nat.reduceLeDiff, if_true, if_false, ite_true, ite_false, jc1q_i, jc1q_r, jc1q_l, jwtq_wR, jwtq_wY, jI_wI, Nat.reduceEqDiff, and_false, false_and, not_false_eq_true, not_true_eq_false, hc, hp, jwS_2, jwS_wt, jwS_S, hM, hM.1, h2, h3, PX_X7_putRow, FX_X7_putRow, Pp_X7_putRow, mPut_F]
      exact ih
theorem lpB_X7_readRows {G : jgG} {m n a kk : Nat} {p K U : Int32} {o : Option Value} {S : Nat → Int32} {σ : jgS} {Φ : jgR → Prop} (hM : jMs G σ.2.1 (jwt σ) m) (hn : σ.1 m 6 = nI n) (hn61 : n < 61) (hk : kk ≤ 61) (hv : kk < n → σ.1 (m + 4) kk = 42 → kk + 1 < n)
    (h : Jr G (M_X7_readRows G) 104 [some (.ref m), some (.int p), some (.int (nI a)), some (.int (nI (if kk < n ∧ σ.1 (m + 4) kk = 42 then kk + 2 else kk))), some (.int K), some (.int U), some (.int (if kk < n ∧ σ.1 (m + 4) kk = 42 then σ.1 (m + 4) (kk + 1) - 48 else 1)), o] [] (jwS σ m S) Φ) : Jr G (M_X7_readRows G) 69 [some (.ref m), some (.int p), some (.int (nI a)), some (.int (nI kk)), some (.int K), some (.int U), some (.int 1), o] [] (jwS σ m S) Φ := by
  obtain ⟨u0, ⟨v1, v2, v3, v5, v7⟩, ⟨a1, k1⟩, ⟨a2, k2⟩, ⟨a3, k3⟩, ⟨a4, k4⟩, ⟨a5, k5⟩⟩ := id hM
  have e6 : ∀ a k, ¬ a = m + 1 → (jwS σ m S).1 a k = σ.1 a k := fun a k ha => jwS_ne ha k
  by_cases c1 : kk < n
  · have hc : ¬ nI n ≤ nI kk := nI_ge c1 (by omega)
    have hv1 : vp_in (nI kk) 60 := vp_in_nI (by omega) (by decide)
    have hcl : (nI kk).toNatClampNeg = kk := nI_clamp (by omega)
    by_cases c2 : σ.1 (m + 4) kk = 42
    · have c3 := hv c1 c2
      have hv2 : vp_in (nI (kk + 1)) 60 := vp_in_nI (by omega) (by decide)
      have hcl2 : (nI (kk + 1)).toNatClampNeg = kk + 1 := nI_clamp (by omega)
      have e2 : nI kk + 2 = nI (kk + 2) := nI_add kk 2
      rw [if_pos ⟨c1, c2⟩, if_pos ⟨c1, c2⟩] at h
      simp only [jq_iload3 (M := M_X7_readRows G) 70 dX7_readRows_69 rfl, jq_aload0 (M := M_X7_readRows G) 71 dX7_readRows_70 rfl, jq_getI (M := M_X7_readRows G) 7 6 74 dX7_readRows_71 rfl rfl rfl, jq_icmp_ge (M := M_X7_readRows G) 104 77 dX7_readRows_74 (by decide) rfl, jq_aload0 (M := M_X7_readRows G) 78 dX7_readRows_77 rfl, jq_getR (M := M_X7_readRows G) 7 5 81 dX7_readRows_78 rfl rfl rfl, jq_iload3 (M := M_X7_readRows G) 82 dX7_readRows_81 rfl, jq_iald (M := M_X7_readRows G) 83 dX7_readRows_82 rfl, jq_bipush (M := M_X7_readRows G) 42 85 dX7_readRows_83 (by decide) rfl, jq_icmp_ne (M := M_X7_readRows G) 104 88 dX7_readRows_85 (by decide) rfl, jq_aload0 (M := M_X7_readRows G) 89 dX7_readRows_88 rfl, jq_getR (M := M_X7_readRows G) 7 5 92 dX7_readRows_89 rfl rfl rfl, jq_iload3 (M := M_X7_readRows G) 93 dX7_readRows_92 rfl, jq_iconst (M := M_X7_readRows G) 1 94 dX7_readRows_93 (by decide) rfl, jq_iadd (M := M_X7_readRows G) 95 dX7_readRows_94 rfl, jq_iald (M := M_X7_readRows G) 96 dX7_readRows_95 rfl, jq_bipush (M := M_X7_readRows G) 48 98 dX7_readRows_96 (by decide) rfl, jq_isub (M := M_X7_readRows G) 99 dX7_readRows_98 rfl, jq_istoreW6 (M := M_X7_readRows G) 101 dX7_readRows_99 rfl, jq_iinc3 (M := M_X7_readRows G) 2 104 dX7_readRows_101 (by decide) rfl, eq_self, jref_10, jref_11, jref_12, jk_v, jk_n, jcat_nil, jcat_i, jcat_r, jcat_l, jcat_d, jc2_i, jc2_r, jc2_n, jc1_i, jc1_r, jrf_some, jwtq_wI, jwtq_wh, jR_wI, jI_wh, jR_wh, List.cons.injEq, Value.int.injEq, Value.ref.injEq, Value.long.injEq, Value.double.injEq, true_and, and_true, and_self, Nat.reduceAdd, Nat.reduceLeDiff, if_true, if_false, ite_true, ite_false, jc1q_i, jc1q_r, jc1q_l, jwtq_wR, jwtq_wY, jI_wI, Nat.reduceEqDiff, and_false, false_and, not_false_eq_true, not_true_eq_false, u0, v1, v2, v3, v5, v7, a1, k1, a2, k2, a3, k3, a4, k4, a5, k5, jwS_2, jwS_wt, e6 m 6 (by omega), e6 (m + 4) _ (by omega), hn, hc, hv1, hcl, c2, nI_1, hv2, hcl2, e2]
      exact h
    · rw [if_neg (fun z => c2 z.2), if_neg (fun z => c2 z.2)] at h
      simp only [jq_iload3 (M := M_X7_readRows G) 70 dX7_readRows_69 rfl, jq_aload0 (M := M_X7_readRows G) 71 dX7_readRows_70 rfl, jq_getI (M := M_X7_readRows G) 7 6 74 dX7_readRows_71 rfl rfl rfl, jq_icmp_ge (M := M_X7_readRows G) 104 77 dX7_readRows_74 (by decide) rfl, jq_aload0 (M := M_X7_readRows G) 78 dX7_readRows_77 rfl, jq_getR (M := M_X7_readRows G) 7 5 81 dX7_readRows_78 rfl rfl rfl, jq_iload3 (M := M_X7_readRows G) 82 dX7_readRows_81 rfl, jq_iald (M := M_X7_readRows G) 83 dX7_readRows_82 rfl, jq_bipush (M := M_X7_readRows G) 42 85 dX7_readRows_83 (by decide) rfl, jq_icmp_ne (M := M_X7_readRows G) 104 88 dX7_readRows_85 (by decide) rfl, jq_aload0 (M := M_X7_readRows G) 89 dX7_readRows_88 rfl, jq_getR (M := M_X7_readRows G) 7 5 92 dX7_readRows_89 rfl rfl rfl, jq_iload3 (M := M_X7_readRows G) 93 dX7_readRows_92 rfl, jq_iconst (M := M_X7_readRows G) 1 94 dX7_readRows_93 (by decide) rfl, jq_iadd (M := M_X7_readRows G) 95 dX7_readRows_94 rfl, jq_iald (M := M_X7_readRows G) 96 dX7_readRows_95 rfl, jq_bipush (M := M_X7_readRows G) 48 98 dX7_readRows_96 (by decide) rfl, jq_isub (M := M_X7_readRows G) 99 dX7_readRows_98 rfl, jq_istoreW6 (M := M_X7_readRows G) 101 dX7_readRows_99 rfl, jq_iinc3 (M := M_X7_readRows G) 2 104 dX7_readRows_101 (by decide) rfl, eq_self, jref_10, jref_11, jref_12, jk_v, jk_n, jcat_nil, jcat_i, jcat_r, jcat_l, jcat_d, jc2_i, jc2_r, jc2_n, jc1_i, jc1_r, jrf_some, jwtq_wI, jwtq_wh, jR_wI, jI_wh, jR_wh, List.cons.injEq, Value.int.injEq, Value.ref.injEq, Value.long.injEq, Value.double.injEq, true_and, and_true, and_self, Nat.reduceAdd, Nat.reduceLeDiff, if_true, if_false, ite_true, ite_false, jc1q_i, jc1q_r, jc1q_l, jwtq_wR, jwtq_wY, jI_wI, Nat.reduceEqDiff, and_false, false_and, not_false_eq_true, not_true_eq_false, u0, v1, v2, v3, v5, v7, a1, k1, a2, k2, a3, k3, a4, k4, a5, k5, jwS_2, jwS_wt, e6 m 6 (by omega), e6 (m + 4) _ (by omega), hn, hc, hv1, hcl, c2]
      exact h
  · have hc : nI n ≤ nI kk := nI_le (by omega) (by omega)
    rw [if_neg (fun z => c1 z.1), if_neg (fun z => c1 z.1)] at h
    simp only [jq_iload3 (M := M_X7_readRows G) 70 dX7_readRows_69 rfl, jq_aload0 (M := M_X7_readRows G) 71 dX7_readRows_70 rfl, jq_getI (M := M_X7_readRows G) 7 6 74 dX7_readRows_71 rfl rfl rfl, jq_icmp_ge (M := M_X7_readRows G) 104 77 dX7_readRows_74 (by decide) rfl, jq_aload0 (M := M_X7_readRows G) 78 dX7_readRows_77 rfl, jq_getR (M := M_X7_readRows G) 7 5 81 dX7_readRows_78 rfl rfl rfl, jq_iload3 (M := M_X7_readRows G) 82 dX7_readRows_81 rfl, jq_iald (M := M_X7_readRows G) 83 dX7_readRows_82 rfl, jq_bipush (M := M_X7_readRows G) 42 85 dX7_readRows_83 (by decide) rfl, jq_icmp_ne (M := M_X7_readRows G) 104 88 dX7_readRows_85 (by decide) rfl, jq_aload0 (M := M_X7_readRows G) 89 dX7_readRows_88 rfl, jq_getR (M := M_X7_readRows G) 7 5 92 dX7_readRows_89 rfl rfl rfl, jq_iload3 (M := M_X7_readRows G) 93 dX7_readRows_92 rfl, jq_iconst (M := M_X7_readRows G) 1 94 dX7_readRows_93 (by decide) rfl, jq_iadd (M := M_X7_readRows G) 95 dX7_readRows_94 rfl, jq_iald (M := M_X7_readRows G) 96 dX7_readRows_95 rfl, jq_bipush (M := M_X7_readRows G) 48 98 dX7_readRows_96 (by decide) rfl, jq_isub (M := M_X7_readRows G) 99 dX7_readRows_98 rfl, jq_istoreW6 (M := M_X7_readRows G) 101 dX7_readRows_99 rfl, jq_iinc3 (M := M_X7_readRows G) 2 104 dX7_readRows_101 (by decide) rfl, eq_self, jref_10, jref_11, jref_12, jk_v, jk_n, jcat_nil, jcat_i, jcat_r, jcat_l, jcat_d, jc2_i, jc2_r, jc2_n, jc1_i, jc1_r, jrf_some, jwtq_wI, jwtq_wh, jR_wI, jI_wh, jR_wh, List.cons.injEq, Value.int.injEq, Value.ref.injEq, Value.long.injEq, Value.double.injEq, true_and, and_true, and_self, Nat.reduceAdd, Nat.reduceLeDiff, if_true, if_false, ite_true, ite_false, jc1q_i, jc1q_r, jc1q_l, jwtq_wR, jwtq_wY, jI_wI, Nat.reduceEqDiff, and_false, false_and, not_false_eq_true, not_true_eq_false, u0, v1, v2, v3, v5, v7, a1, k1, a2, k2, a3, k3, a4, k4, a5, k5, jwS_2, jwS_wt, e6 m 6 (by omega), hn, hc]
    exact h
theorem lpA_X7_readRows {G : jgG} {m n a k : Nat} {p : Int32} {o4 o5 o6 o : Option Value} {S : Nat → Int32} {σ : jgS} {Φ : jgR → Prop} (hM : jMs G σ.2.1 (jwt σ) m) (hn : σ.1 m 6 = nI n) (hn61 : n < 61) (hkn : k < n) (hk1 : k + 1 < n) (hv : k + 2 < n → σ.1 (m + 4) (k + 2) = 117 → k + 3 < n) (g4 : jgc2 o4 = true) (g5 : jgc2 o5 = true)
    (h : Jr G (M_X7_readRows G) 69 [some (.ref m), some (.int p), some (.int (nI a)), some (.int (nI (pk1 (σ.1 (m + 4)) n k))), some (.int (pKy (σ.1 (m + 4)) k)), some (.int (pU (σ.1 (m + 4)) n k)), some (.int 1), o] [] (jwS σ m S) Φ) : Jr G (M_X7_readRows G) 4 [some (.ref m), some (.int p), some (.int (nI a)), some (.int (nI k)), o4, o5, o6, o] [] (jwS σ m S) Φ := by
  obtain ⟨u0, ⟨v1, v2, v3, v5, v7⟩, ⟨a1, k1⟩, ⟨a2, k2⟩, ⟨a3, k3⟩, ⟨a4, k4⟩, ⟨a5, k5⟩⟩ := id hM
  have e6 : ∀ a k, ¬ a = m + 1 → (jwS σ m S).1 a k = σ.1 a k := fun a k ha => jwS_ne ha k
  have hc0 : ¬ nI n ≤ nI k := nI_ge hkn (by omega)
  have hv0 : vp_in (nI (k + 1)) 60 := vp_in_nI (by omega) (by decide)
  have hcl0 : (nI (k + 1)).toNatClampNeg = k + 1 := nI_clamp (by omega)
  have e2 : ∀ k, nI k + 2 = nI (k + 2) := fun k => nI_add k 2
  unfold pk1 pU pKy at h
  by_cases c1 : k + 2 < n
  · have hc : ¬ nI n ≤ nI (k + 2) := nI_ge c1 (by omega)
    have hv1 : vp_in (nI (k + 2)) 60 := vp_in_nI (by omega) (by decide)
    have hcl : (nI (k + 2)).toNatClampNeg = k + 2 := nI_clamp (by omega)
    by_cases c2 : σ.1 (m + 4) (k + 2) = 117
    · have c3 := hv c1 c2
      have hv2 : vp_in (nI (k + 3)) 60 := vp_in_nI (by omega) (by decide)
      have hcl2 : (nI (k + 3)).toNatClampNeg = k + 3 := nI_clamp (by omega)
      have e3 : nI (k + 2 + 1) = nI (k + 3) := rfl
      have e4 : nI (k + 2 + 2) = nI (k + 4) := rfl
      rw [if_pos ⟨c1, c2⟩, if_pos ⟨c1, c2⟩] at h
      simp only [jq_iload3 (M := M_X7_readRows G) 5 dX7_readRows_4 rfl, jq_aload0 (M := M_X7_readRows G) 6 dX7_readRows_5 rfl, jq_getI (M := M_X7_readRows G) 7 6 9 dX7_readRows_6 rfl rfl rfl, jq_icmp_ge (M := M_X7_readRows G) 144 12 dX7_readRows_9 (by decide) rfl, jq_aload0 (M := M_X7_readRows G) 13 dX7_readRows_12 rfl, jq_getR (M := M_X7_readRows G) 7 5 16 dX7_readRows_13 rfl rfl rfl, jq_iload3 (M := M_X7_readRows G) 17 dX7_readRows_16 rfl, jq_iconst (M := M_X7_readRows G) 1 18 dX7_readRows_17 (by decide) rfl, jq_iadd (M := M_X7_readRows G) 19 dX7_readRows_18 rfl, jq_iald (M := M_X7_readRows G) 20 dX7_readRows_19 rfl, jq_bipush (M := M_X7_readRows G) 48 22 dX7_readRows_20 (by decide) rfl, jq_isub (M := M_X7_readRows G) 23 dX7_readRows_22 rfl, jq_istoreW4 (M := M_X7_readRows G) 25 dX7_readRows_23 rfl, jq_iconst (M := M_X7_readRows G) 0 26 dX7_readRows_25 (by decide) rfl, jq_istoreW5 (M := M_X7_readRows G) 28 dX7_readRows_26 rfl, jq_iconst (M := M_X7_readRows G) 1 29 dX7_readRows_28 (by decide) rfl, jq_istoreW6 (M := M_X7_readRows G) 31 dX7_readRows_29 rfl, jq_iinc3 (M := M_X7_readRows G) 2 34 dX7_readRows_31 (by decide) rfl, jq_iload3 (M := M_X7_readRows G) 35 dX7_readRows_34 rfl, jq_aload0 (M := M_X7_readRows G) 36 dX7_readRows_35 rfl, jq_getI (M := M_X7_readRows G) 7 6 39 dX7_readRows_36 rfl rfl rfl, jq_icmp_ge (M := M_X7_readRows G) 69 42 dX7_readRows_39 (by decide) rfl, jq_aload0 (M := M_X7_readRows G) 43 dX7_readRows_42 rfl, jq_getR (M := M_X7_readRows G) 7 5 46 dX7_readRows_43 rfl rfl rfl, jq_iload3 (M := M_X7_readRows G) 47 dX7_readRows_46 rfl, jq_iald (M := M_X7_readRows G) 48 dX7_readRows_47 rfl, jq_bipush (M := M_X7_readRows G) 117 50 dX7_readRows_48 (by decide) rfl, jq_icmp_ne (M := M_X7_readRows G) 69 53 dX7_readRows_50 (by decide) rfl, jq_aload0 (M := M_X7_readRows G) 54 dX7_readRows_53 rfl, jq_getR (M := M_X7_readRows G) 7 5 57 dX7_readRows_54 rfl rfl rfl, jq_iload3 (M := M_X7_readRows G) 58 dX7_readRows_57 rfl, jq_iconst (M := M_X7_readRows G) 1 59 dX7_readRows_58 (by decide) rfl, jq_iadd (M := M_X7_readRows G) 60 dX7_readRows_59 rfl, jq_iald (M := M_X7_readRows G) 61 dX7_readRows_60 rfl, jq_bipush (M := M_X7_readRows G) 48 63 dX7_readRows_61 (by decide) rfl, jq_isub (M := M_X7_readRows G) 64 dX7_readRows_63 rfl, jq_istoreW5 (M := M_X7_readRows G) 66 dX7_readRows_64 rfl, jq_iinc3 (M := M_X7_readRows G) 2 69 dX7_readRows_66 (by decide) rfl, eq_self, jref_10, jref_11, jref_12, jk_v, jk_n, jcat_nil, jcat_i, jcat_r, jcat_l, jcat_d, jc2_i, jc2_r, jc2_n, jc1_i, jc1_r, jrf_some, jwtq_wI, jwtq_wh, jR_wI, jI_wh, jR_wh, List.cons.injEq, Value.int.injEq, Value.ref.injEq, Value.long.injEq, Value.double.injEq, true_and, and_true, and_self, Nat.reduceAdd, Nat.reduceLeDiff, if_true, if_false, ite_true, ite_false, jc1q_i, jc1q_r, jc1q_l, jwtq_wR, jwtq_wY, jI_wI, Nat.reduceEqDiff, and_false, false_and, not_false_eq_true, not_true_eq_false, u0, v1, v2, v3, v5, v7, a1, k1, a2, k2, a3, k3, a4, k4, a5, k5, jwS_2, jwS_wt, e6 m 6 (by omega), e6 (m + 4) _ (by omega), hn, hc0, hv0, hcl0, g4, g5, hc, hv1, hcl, c2, nI_1, hv2, hcl2, e2, e3, e4]
      exact h
    · rw [if_neg (fun z => c2 z.2), if_neg (fun z => c2 z.2)] at h
      simp only [jq_iload3 (M := M_X7_readRows G) 5 dX7_readRows_4 rfl, jq_aload0 (M := M_X7_readRows G) 6 dX7_readRows_5 rfl, jq_getI (M := M_X7_readRows G) 7 6 9 dX7_readRows_6 rfl rfl rfl, jq_icmp_ge (M := M_X7_readRows G) 144 12 dX7_readRows_9 (by decide) rfl, jq_aload0 (M := M_X7_readRows G) 13 dX7_readRows_12 rfl, jq_getR (M := M_X7_readRows G) 7 5 16 dX7_readRows_13 rfl rfl rfl, jq_iload3 (M := M_X7_readRows G) 17 dX7_readRows_16 rfl, jq_iconst (M := M_X7_readRows G) 1 18 dX7_readRows_17 (by decide) rfl, jq_iadd (M := M_X7_readRows G) 19 dX7_readRows_18 rfl, jq_iald (M := M_X7_readRows G) 20 dX7_readRows_19 rfl, jq_bipush (M := M_X7_readRows G) 48 22 dX7_readRows_20 (by decide) rfl, jq_isub (M := M_X7_readRows G) 23 dX7_readRows_22 rfl, jq_istoreW4 (M := M_X7_readRows G) 25 dX7_readRows_23 rfl, jq_iconst (M := M_X7_readRows G) 0 26 dX7_readRows_25 (by decide) rfl, jq_istoreW5 (M := M_X7_readRows G) 28 dX7_readRows_26 rfl, jq_iconst (M := M_X7_readRows G) 1 29 dX7_readRows_28 (by decide) rfl, jq_istoreW6 (M := M_X7_readRows G) 31 dX7_readRows_29 rfl, jq_iinc3 (M := M_X7_readRows G) 2 34 dX7_readRows_31 (by decide) rfl, jq_iload3 (M := M_X7_readRows G) 35 dX7_readRows_34 rfl, jq_aload0 (M := M_X7_readRows G) 36 dX7_readRows_35 rfl, jq_getI (M := M_X7_readRows G) 7 6 39 dX7_readRows_36 rfl rfl rfl, jq_icmp_ge (M := M_X7_readRows G) 69 42 dX7_readRows_39 (by decide) rfl, jq_aload0 (M := M_X7_readRows G) 43 dX7_readRows_42 rfl, jq_getR (M := M_X7_readRows G) 7 5 46 dX7_readRows_43 rfl rfl rfl, jq_iload3 (M := M_X7_readRows G) 47 dX7_readRows_46 rfl, jq_iald (M := M_X7_readRows G) 48 dX7_readRows_47 rfl, jq_bipush (M := M_X7_readRows G) 117 50 dX7_readRows_48 (by decide) rfl, jq_icmp_ne (M := M_X7_readRows G) 69 53 dX7_readRows_50 (by decide) rfl, jq_aload0 (M := M_X7_readRows G) 54 dX7_readRows_53 rfl, jq_getR (M := M_X7_readRows G) 7 5 57 dX7_readRows_54 rfl rfl rfl, jq_iload3 (M := M_X7_readRows G) 58 dX7_readRows_57 rfl, jq_iconst (M := M_X7_readRows G) 1 59 dX7_readRows_58 (by decide) rfl, jq_iadd (M := M_X7_readRows G) 60 dX7_readRows_59 rfl, jq_iald (M := M_X7_readRows G) 61 dX7_readRows_60 rfl, jq_bipush (M := M_X7_readRows G) 48 63 dX7_readRows_61 (by decide) rfl, jq_isub (M := M_X7_readRows G) 64 dX7_readRows_63 rfl, jq_istoreW5 (M := M_X7_readRows G) 66 dX7_readRows_64 rfl, jq_iinc3 (M := M_X7_readRows G) 2 69 dX7_readRows_66 (by decide) rfl, eq_self, jref_10, jref_11, jref_12, jk_v, jk_n, jcat_nil, jcat_i, jcat_r, jcat_l, jcat_d, jc2_i, jc2_r, jc2_n, jc1_i, jc1_r, jrf_some, jwtq_wI, jwtq_wh, jR_wI, jI_wh, jR_wh, List.cons.injEq, Value.int.injEq, Value.ref.injEq, Value.long.injEq, Value.double.injEq, true_and, and_true, and_self, Nat.reduceAdd, Nat.reduceLeDiff, if_true, if_false, ite_true, ite_false, jc1q_i, jc1q_r, jc1q_l, jwtq_wR, jwtq_wY, jI_wI, Nat.reduceEqDiff, and_false, false_and, not_false_eq_true, not_true_eq_false, u0, v1, v2, v3, v5, v7, a1, k1, a2, k2, a3, k3, a4, k4, a5, k5, jwS_2, jwS_wt, e6 m 6 (by omega), e6 (m + 4) _ (by omega), hn, hc0, hv0, hcl0, g4, g5, hc, hv1, hcl, c2, nI_1, e2]
      exact h
  · have hc : nI n ≤ nI (k + 2) := nI_le (by omega) (by omega)
    rw [if_neg (fun z => c1 z.1), if_neg (fun z => c1 z.1)] at h
    simp only [jq_iload3 (M := M_X7_readRows G) 5 dX7_readRows_4 rfl, jq_aload0 (M := M_X7_readRows G) 6 dX7_readRows_5 rfl, jq_getI (M := M_X7_readRows G) 7 6 9 dX7_readRows_6 rfl rfl rfl, jq_icmp_ge (M := M_X7_readRows G) 144 12 dX7_readRows_9 (by decide) rfl, jq_aload0 (M := M_X7_readRows G) 13 dX7_readRows_12 rfl, jq_getR (M := M_X7_readRows G) 7 5 16 dX7_readRows_13 rfl rfl rfl, jq_iload3 (M := M_X7_readRows G) 17 dX7_readRows_16 rfl, jq_iconst (M := M_X7_readRows G) 1 18 dX7_readRows_17 (by decide) rfl, jq_iadd (M := M_X7_readRows G) 19 dX7_readRows_18 rfl, jq_iald (M := M_X7_readRows G) 20 dX7_readRows_19 rfl, jq_bipush (M := M_X7_readRows G) 48 22 dX7_readRows_20 (by decide) rfl, jq_isub (M := M_X7_readRows G) 23 dX7_readRows_22 rfl, jq_istoreW4 (M := M_X7_readRows G) 25 dX7_readRows_23 rfl, jq_iconst (M := M_X7_readRows G) 0 26 dX7_readRows_25 (by decide) rfl, jq_istoreW5 (M := M_X7_readRows G) 28 dX7_readRows_26 rfl, jq_iconst (M := M_X7_readRows G) 1 29 dX7_readRows_28 (by decide) rfl, jq_istoreW6 (M := M_X7_readRows G) 31 dX7_readRows_29 rfl, jq_iinc3 (M := M_X7_readRows G) 2 34 dX7_readRows_31 (by decide) rfl, jq_iload3 (M := M_X7_readRows G) 35 dX7_readRows_34 rfl, jq_aload0 (M := M_X7_readRows G) 36 dX7_readRows_35 rfl, jq_getI (M := M_X7_readRows G) 7 6 39 dX7_readRows_36 rfl rfl rfl, jq_icmp_ge (M := M_X7_readRows G) 69 42 dX7_readRows_39 (by decide) rfl, jq_aload0 (M := M_X7_readRows G) 43 dX7_readRows_42 rfl, jq_getR (M := M_X7_readRows G) 7 5 46 dX7_readRows_43 rfl rfl rfl, jq_iload3 (M := M_X7_readRows G) 47 dX7_readRows_46 rfl, jq_iald (M := M_X7_readRows G) 48 dX7_readRows_47 rfl, jq_bipush (M := M_X7_readRows G) 117 50 dX7_readRows_48 (by decide) rfl, jq_icmp_ne (M := M_X7_readRows G) 69 53 dX7_readRows_50 (by decide) rfl, jq_aload0 (M := M_X7_readRows G) 54 dX7_readRows_53 rfl, jq_getR (M := M_X7_readRows G) 7 5 57 dX7_readRows_54 rfl rfl rfl, jq_iload3 (M := M_X7_readRows G) 58 dX7_readRows_57 rfl, jq_iconst (M := M_X7_readRows G) 1 59 dX7_readRows_58 (by decide) rfl, jq_iadd (M := M_X7_readRows G) 60 dX7_readRows_59 rfl, jq_iald (M := M_X7_readRows G) 61 dX7_readRows_60 rfl, jq_bipush (M := M_X7_readRows G) 48 63 dX7_readRows_61 (by decide) rfl, jq_isub (M := M_X7_readRows G) 64 dX7_readRows_63 rfl, jq_istoreW5 (M := M_X7_readRows G) 66 dX7_readRows_64 rfl, jq_iinc3 (M := M_X7_readRows G) 2 69 dX7_readRows_66 (by decide) rfl, eq_self, jref_10, jref_11, jref_12, jk_v, jk_n, jcat_nil, jcat_i, jcat_r, jcat_l, jcat_d, jc2_i, jc2_r, jc2_n, jc1_i, jc1_r, jrf_some, jwtq_wI, jwtq_wh, jR_wI, jI_wh, jR_wh, List.cons.injEq, Value.int.injEq, Value.ref.injEq, Value.long.injEq, Value.double.injEq, true_and, and_true, and_self, Nat.reduceAdd, Nat.reduceLeDiff, if_true, if_false, ite_true, ite_false, jc1q_i, jc1q_r, jc1q_l, jwtq_wR, jwtq_wY, jI_wI, Nat.reduceEqDiff, and_false, false_and, not_false_eq_true, not_true_eq_false, u0, v1, v2, v3, v5, v7, a1, k1, a2, k2, a3, k3, a4, k4, a5, k5, jwS_2, jwS_wt, e6 m 6 (by omega), e6 (m + 4) _ (by omega), hn, hc0, hv0, hcl0, g4, g5, hc, nI_1, e2]
    exact h
theorem pk2_le {b : Nat → Int32} {n k : Nat} (hk : k < n) (h1 : k + 1 < n) (h2 : k + 2 < n → b (k + 2) = 117 → k + 3 < n) (h3 : pk1 b n k < n → b (pk1 b n k) = 42 → pk1 b n k + 1 < n) : pk1 b n k ≤ n ∧ pk2 b n k ≤ n := by
  have e1 : pk1 b n k ≤ n := by
    unfold pk1
    split
    · rename_i c; have := h2 c.1 c.2; omega
    · omega
  refine ⟨e1, ?_⟩
  unfold pk2
  split
  · rename_i c; have := h3 c.1 c.2; omega
  · exact e1
theorem lp_X7_readRows {G : jgG} {m n : Nat} {p : Int32} {σ : jgS} (hM : jMs G σ.2.1 (jwt σ) m) (hn : σ.1 m 6 = nI n) (hn61 : n < 61) : ∀ (f k a : Nat) (S : Nat → Int32) (o4 o5 o6 o : Option Value) (Φ : jgR → Prop), mVal (σ.1 (m + 4)) n f k → (¬ p = 0 → mOk S ∧ mN S + mSum (σ.1 (m + 4)) n f k ≤ 24) → k ≤ 61 → jgc2 o4 = true → jgc2 o5 = true → Φ (.inl (some (.int (nI (a + mSum (σ.1 (m + 4)) n f k)))), jwS σ m (if p = 0 then S else mAdd (σ.1 (m + 4)) n f k S)) → Jr G (M_X7_readRows G) 4 [some (.ref m), some (.int p), some (.int (nI a)), some (.int (nI k)), o4, o5, o6, o] [] (jwS σ m S) Φ := by
  have hend : ∀ (k a : Nat) (S : Nat → Int32) (o4 o5 o6 o : Option Value) (Φ : jgR → Prop), ¬ k < n → k ≤ 61 → Φ (.inl (some (.int (nI a))), jwS σ m S) → Jr G (M_X7_readRows G) 4 [some (.ref m), some (.int p), some (.int (nI a)), some (.int (nI k)), o4, o5, o6, o] [] (jwS σ m S) Φ := by
    intro k a S o4 o5 o6 o Φ hk hk61 hΦ
    obtain ⟨u0, ⟨v1, v2, v3, v5, v7⟩, ⟨a1, k1⟩, ⟨a2, k2⟩, ⟨a3, k3⟩, ⟨a4, k4⟩, ⟨a5, k5⟩⟩ := id hM
    have e6 : (jwS σ m S).1 m 6 = nI n := (jwS_ne (by omega) 6).trans hn
    have hc : nI n ≤ nI k := nI_le (by omega) (by omega)
    rw [jq_iload3 (M := M_X7_readRows G) 5 dX7_readRows_4 rfl]
    simp only [jq_aload0 (M := M_X7_readRows G) 6 dX7_readRows_5 rfl, jq_getI (M := M_X7_readRows G) 7 6 9 dX7_readRows_6 rfl rfl rfl, jq_icmp_ge (M := M_X7_readRows G) 144 12 dX7_readRows_9 (by decide) rfl, jq_iload2 (M := M_X7_readRows G) 145 dX7_readRows_144 rfl, jq_iret (M := M_X7_readRows G) .int dX7_readRows_145 rfl, eq_self, jref_10, jref_11, jref_12, jk_v, jk_n, jcat_nil, jcat_i, jcat_r, jcat_l, jcat_d, jc2_i, jc2_r, jc2_n, jc1_i, jc1_r, jrf_some, jwtq_wI, jwtq_wh, jR_wI, jI_wh, jR_wh, List.cons.injEq, Value.int.injEq, Value.ref.injEq, Value.long.injEq, Value.double.injEq, true_and, and_true, and_self, Nat.reduceAdd, Nat.reduceLeDiff, if_true, if_false, ite_true, ite_false, jc1q_i, jc1q_r, jc1q_l, jwtq_wR, jwtq_wY, jI_wI, Nat.reduceEqDiff, and_false, false_and, not_false_eq_true, not_true_eq_false, u0, v1, v2, v3, v5, v7, a1, k1, a2, k2, a3, k3, a4, k4, a5, k5, jwS_2, jwS_wt, e6, hc, jnr_i]
    exact hΦ
  intro f
  induction f with
  | zero =>
    intro k a S o4 o5 o6 o Φ hv hcap hk g4 g5 hΦ
    refine hend k a S o4 o5 o6 o Φ hv hk ?_
    have e : (if p = 0 then S else mAdd (σ.1 (m + 4)) n 0 k S) = S := by split <;> rfl
    rw [e] at hΦ
    exact hΦ
  | succ f ih =>
    intro k a S o4 o5 o6 o Φ hv hcap hk g4 g5 hΦ
    by_cases hkn : k < n
    · obtain ⟨h1, h2, h3, h4, h5⟩ := hv hkn
      have e1 : mSum (σ.1 (m + 4)) n (f + 1) k = pt (σ.1 (m + 4)) n k + mSum (σ.1 (m + 4)) n f (pk2 (σ.1 (m + 4)) n k + 1) := if_pos hkn
      have e2 : mAdd (σ.1 (m + 4)) n (f + 1) k S = mAdd (σ.1 (m + 4)) n f (pk2 (σ.1 (m + 4)) n k + 1) (mIt S (pKy (σ.1 (m + 4)) k) (pU (σ.1 (m + 4)) n k) (pt (σ.1 (m + 4)) n k)) := if_pos hkn
      rw [e1] at hcap hΦ
      rw [e2] at hΦ
      obtain ⟨l1, l2⟩ := pk2_le hkn h1 h2 h3
      obtain ⟨t, ht, et⟩ := vp_in_of h4 (by decide)
      have ept : pt (σ.1 (m + 4)) n k = t := by unfold pt; rw [et]; exact nI_clamp (by omega)
      rw [ept] at hcap hΦ
      refine lpA_X7_readRows hM hn hn61 hkn h1 h2 g4 g5 ?_
      refine lpB_X7_readRows hM hn hn61 (by omega) h3 ?_
      show Jr G (M_X7_readRows G) 104 [some (.ref m), some (.int p), some (.int (nI a)), some (.int (nI (pk2 (σ.1 (m + 4)) n k))), some (.int (pKy (σ.1 (m + 4)) k)), some (.int (pU (σ.1 (m + 4)) n k)), some (.int (pT (σ.1 (m + 4)) n k)), o] [] (jwS σ m S) Φ
      rw [et]
      refine lpC_X7_readRows hM ht (fun z => ⟨(hcap z).1, by have := (hcap z).2; omega⟩) (fun o => ?_)
      refine ih (pk2 (σ.1 (m + 4)) n k + 1) (a + t) _ _ _ _ _ Φ h5 (fun z => ?_) (by omega) rfl rfl ?_
      · rw [if_neg z]
        obtain ⟨q1, q2⟩ := hcap z
        obtain ⟨q3, q4⟩ := mIt_N (t := t) (pKy (σ.1 (m + 4)) k) (pU (σ.1 (m + 4)) n k) q1 (by omega)
        exact ⟨q4, by omega⟩
      · by_cases z : p = 0
        · rw [if_pos z] at hΦ ⊢
          rw [if_pos z, Nat.add_assoc]
          exact hΦ
        · rw [if_neg z] at hΦ ⊢
          rw [if_neg z, Nat.add_assoc]
          exact hΦ
    · refine hend k a S o4 o5 o6 o Φ hkn hk ?_
      have e1 : mSum (σ.1 (m + 4)) n (f + 1) k = 0 := if_neg hkn
      have e2 : mAdd (σ.1 (m + 4)) n (f + 1) k S = S := if_neg hkn
      rw [e1, e2] at hΦ
      have e : (if p = 0 then S else S) = S := by split <;> rfl
      rw [e] at hΦ
      exact hΦ
theorem bd_X7_readRows (G : jgG) : ∀ (As : List Value) (σ : jgS) (r : jgR), S_X7_readRows G As σ r → jhs σ ≤ jhs r.2 ∧ jsl σ ≤ jsl r.2 ∧ (jent As).length ≤ I_X7_readRows.2.2.2.2.1 ∧ Jr G (M_X7_readRows G) 0 (jentry As I_X7_readRows.2.2.2.2.1) [] σ (fun r' => r' = r) := by
  rintro As σ r ⟨⟨m, p, rfl, hp⟩, rfl⟩
  rw [FX_X7_readRows]
  refine ⟨(by first | exact Nat.le_refl _ | (show _ ≤ _; simp only [F_X7_readRows, Ff_X7_readRows]; (repeat' split) <;> first | exact Nat.le_refl _ | exact Nat.le_succ _ | exact Nat.le_add_right _ _)), (by first | exact Nat.le_refl _ | (show _ ≤ _; simp only [F_X7_readRows, Ff_X7_readRows]; (repeat' split) <;> first | exact Nat.le_refl _ | exact Nat.le_succ _ | exact Nat.le_add_right _ _)), by simp [jent, Value.category, I_X7_readRows], ?_⟩
  show Jr G (M_X7_readRows G) 0 [some (.ref m), some (.int p), none, none, none, none, none, none] [] σ (fun r' => r' = Ff_X7_readRows G m p σ)
  obtain ⟨hM, hl, hv, hcap⟩ := hp
  obtain ⟨n, hn61, hn⟩ := vp_in_of hl (by decide)
  have hnm : mLn σ m = n := by unfold mLn; rw [hn]; exact nI_clamp (by omega)
  rw [hnm] at hv hcap
  simp only [jq_iconst (M := M_X7_readRows G) 0 1 dX7_readRows_0 (by decide) rfl, jq_istore2 (M := M_X7_readRows G) 2 dX7_readRows_1 rfl, jq_iconst (M := M_X7_readRows G) 0 3 dX7_readRows_2 (by decide) rfl, jq_istore3 (M := M_X7_readRows G) 4 dX7_readRows_3 rfl, eq_self, jref_10, jref_11, jref_12, jk_v, jk_n, jcat_nil, jcat_i, jcat_r, jcat_l, jcat_d, jc2_i, jc2_r, jc2_n, jc1_i, jc1_r, jrf_some, jwtq_wI, jwtq_wh, jR_wI, jI_wh, jR_wh, List.cons.injEq, Value.int.injEq, Value.ref.injEq, Value.long.injEq, Value.double.injEq, true_and, and_true, and_self, Nat.reduceAdd, Nat.reduceLeDiff, if_true, if_false, ite_true, ite_false, jc1q_i, jc1q_r, jc1q_l, jwtq_wR, jwtq_wY, jI_wI, Nat.reduceEqDiff, and_false, false_and, not_false_eq_true, not_true_eq_false]
  refine jst0 (σ' := jwS σ m (σ.1 (m + 1))) (jwS_self _ _) ?_
  refine lp_X7_readRows hM hn hn61 21 0 0 (σ.1 (m + 1)) none none none none _ hv hcap (by omega) rfl rfl ?_
  unfold Ff_X7_readRows
  rw [hnm, Nat.zero_add]
  by_cases z : p = 0
  · rw [if_pos z, if_pos z, jwS_self]
  · rw [if_neg z, if_neg z]
theorem met_X7_readRows {l : Launch} (hl : l.stackTraces = false) (D : va_G) (cy : Nat → ClassId) (G : jgG) : jMet l D cy G I_X7_readRows (S_X7_readRows G) :=
  jr_met hl (M_X7_readRows G) I_X7_readRows (S_X7_readRows G) RX7 rfl (by decide) rfl rfl rfl rfl (fun h => (by cases h)) jmAI jmAL (fun R h1 h2 => List.forall_mem_cons.mpr ⟨jpokF (r := (RX7, TX7, 11)) rfl jcls7 (by decide) (by decide) jm_827 (fun h => (by cases h)), List.forall_mem_cons.mpr ⟨⟨⟨jm_877, jm_57, jd_X7_putRow, ⟨by rw [h1]; exact Nat.le_of_ble_eq_true rfl, by rw [h2]; exact Nat.le_of_ble_eq_true rfl⟩, Or.inl ⟨rfl, jm_874, jm_876, jm_16, rfl, Nat.le_of_ble_eq_true rfl, _, rfl, rfl⟩⟩, met_X7_putRow hl D cy G⟩, List.forall_mem_cons.mpr ⟨jpokF (r := (RX7, TX7, 11)) rfl jcls7 (by decide) (by decide) jm_828 (fun h => (by cases h)), fun _ h => nomatch h⟩⟩⟩) (fun h => absurd rfl h) (fun _ h => nomatch h) (bd_X7_readRows G)
