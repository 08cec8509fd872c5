/-! a method with handlers; the law's wrappers -/
theorem jw_lIA : Cond.classLink RL 16 "java/lang/IllegalArgumentException" ∈ lw_W := List.mem_filter.mpr ⟨List.mem_of_getElem? (i := 484) (by decide +kernel), by decide +kernel⟩
theorem jw_cIA : Cond.castable "java/lang/IllegalArgumentException" "java/lang/IllegalArgumentException" ∈ lw_A := List.mem_filter.mpr ⟨List.mem_of_getElem? (i := 345) (by decide +kernel), by decide +kernel⟩
theorem jw_lIS : Cond.classLink RL 18 "java/lang/IllegalStateException" ∈ lw_W := List.mem_filter.mpr ⟨List.mem_of_getElem? (i := 485) (by decide +kernel), by decide +kernel⟩
theorem jw_cIS : Cond.castable "java/lang/IllegalStateException" "java/lang/IllegalStateException" ∈ lw_A := List.mem_filter.mpr ⟨List.mem_of_getElem? (i := 442) (by decide +kernel), by decide +kernel⟩
theorem jw_lIO : Cond.classLink RL 23 "java/lang/IndexOutOfBoundsException" ∈ lw_W := List.mem_filter.mpr ⟨List.mem_of_getElem? (i := 506) (by decide +kernel), by decide +kernel⟩
theorem jw_cIO : Cond.castable "java/lang/IndexOutOfBoundsException" "java/lang/IndexOutOfBoundsException" ∈ lw_A := List.mem_filter.mpr ⟨List.mem_of_getElem? (i := 270) (by decide +kernel), by decide +kernel⟩
theorem jghd_split : ∀ {T : List (Nat × Nat × Nat × Nat × String)} {pc : Nat} {E : String} {t : Nat}, jghd T pc E = some t → ∃ (pre : List (Nat × Nat × Nat × Nat × String)) (w : Nat × Nat × Nat × Nat × String) (suf : List (Nat × Nat × Nat × Nat × String)), T = pre ++ w :: suf ∧ w.2.2.1 = t ∧ w.1 ≤ pc ∧ pc < w.2.1 ∧ w.2.2.2.2 = E ∧ ∀ z ∈ pre, ¬ (z.1 ≤ pc ∧ pc < z.2.1 ∧ z.2.2.2.2 = E)
  | q :: l, pc, E, t, h => by
    unfold jghd at h
    split at h
    · rename_i hq
      cases h
      exact ⟨[], q, l, rfl, rfl, hq.1, hq.2.1, hq.2.2, fun _ h => nomatch h⟩
    · rename_i hq
      obtain ⟨pre, w, suf, h1, h2, h3, h4, h5, h6⟩ := jghd_split h
      refine ⟨q :: pre, w, suf, by rw [h1]; rfl, h2, h3, h4, h5, fun z hz => ?_⟩
      rcases List.mem_cons.mp hz with rfl | hz
      · exact hq
      · exact h6 z hz
def jent4 (q : Nat × Nat × Nat × Nat × String) : ExceptionTableEntry := ⟨q.1, q.2.1, q.2.2.1, q.2.2.2.1⟩
/-- a contract of a method that catches -/
theorem jr_metH {l : Launch} {D : va_G} {cy : Nat → ClassId} {G : jgG} (M : jgM) (I : jgI) (S : jgSpec) (own : String) (hown : own = I.2.2.1.cls) (hy : plainName I.2.2.1.cls = true) (hbytes : M.1 = I.2.2.2.1) (hret : M.2.2.2.2.1 = I.2.2.2.2.2.1) (hhh : I.2.2.2.2.2.2.2.2.2 = M.2.2.2.1.map (fun q => (q.1, q.2.1, q.2.2.1, q.2.2.2.1))) (hne : ¬ I.2.2.2.2.2.2.2.2.2 = []) (hM : M.2.2.1 = []) (hinit : M.2.2.2.2.2 = false)
    (hwI : Cond.arrayClass .int ∈ lw_W)
    (hpo : ∀ (R : Room), R.frames = I.2.2.2.2.2.2.2.1 → R.locals = I.2.2.2.2.2.2.2.2.1 → ∀ q ∈ M.2.1, jPok l D cy G own R M.2.2.2.2.2 q)
    (hT : ∀ q ∈ M.2.2.2.1, ¬ q.2.2.2.1 = 0 ∧ Cond.classLink own q.2.2.2.1 q.2.2.2.2 ∈ lw_W ∧ Cond.castable q.2.2.2.2 q.2.2.2.2 ∈ lw_A) (hN : ∀ q ∈ M.2.2.2.1, ∀ z ∈ M.2.2.2.1, z.2.2.2.2 = q.2.2.2.2 ∨ (q.2.2.2.2, z.2.2.2.2) ∈ jxnc)
    (hv : ∀ (As : List Value) (σ : jgS) (r : jgR), S As σ r → ∃ v, r.1 = .inl v)
    (hS : ∀ (As : List Value) (σ : jgS) (r : jgR), S As σ r → jhs σ ≤ jhs r.2 ∧ jsl σ ≤ jsl r.2 ∧ (jent As).length ≤ I.2.2.2.2.1 ∧ Jr G M 0 (jentry As I.2.2.2.2.1) [] σ (fun r' => r' = r)) : jMet l D cy G I S := by
  intro As σ r hr
  obtain ⟨v0, hv0⟩ := hv As σ r hr
  obtain ⟨m1, m2, m3, hJ⟩ := hS As σ r hr
  refine ⟨m1, m2, ?_⟩
  have ecw : jcw I = Cond.codeWith I.2.2.1 I.2.2.2.1 I.2.2.2.2.1 I.2.2.2.2.2.1 I.2.2.2.2.2.2.2.2.2 := if_neg hne
  refine vx_ofWH (ws' := lw_W) (cc := I.2.2.2.1) (maxL := I.2.2.2.2.1) (ret := I.2.2.2.2.2.1) (hh := I.2.2.2.2.2.2.2.2.2) hy (by unfold jws; rw [ecw]) ?_
  intro p e s m args below meth c s₁ B hml hv
  obtain ⟨rfl, hB, hH, hHb⟩ := hv
  have hts0 := atoms_spec (ws := jws I) B.pre
  have hts : ∀ w ∈ lw_W, w.before As.toArray s = true := fun w h => hts0 w (List.mem_cons_of_mem _ h)
  have hcode := hts0 (jcw I) List.mem_cons_self
  rw [ecw] at hcode
  have htab : c.exceptionTable.toList = M.2.2.2.1.map jent4 := by
    rw [vx_table (x := I.2.2.1) B hcode, hhh]
    unfold tableOf
    rw [List.map_map]
    rfl
  have hfc : s.vm.findClass own = some m.cls := by rw [hown]; exact findClass_of_methodNamed B.named
  have C : jCx p s m As.toArray c M D cy G own I.2.2.2.2.1 (jhs σ) := ⟨B.exec, B.bytes.trans hbytes.symm, hml, hfc, hts, hB, hHb⟩
  have hlocks := B.notSynchronized
  have hrt : meth.sig.returnType = M.2.2.2.2.1 := B.returns.trans hret.symm
  rw [lg_entry_eq]
  refine jr_sound (l := l) (own := own) (M := M) (nL := I.2.2.2.2.1) (hs0 := jhs σ) (sl0 := jsl σ) (Φ := fun r' => r' = r) C (hpo _ rfl rfl) hwI (fun h => ?_) (fun r' h => ?_) (fun pc ls σ' _ v h hok => ?_) (fun pc E ls st σ' hE h hcat => ?_) (fun pc ls rest E σ' hE h => ?_) (fun pc t ls rest E σ' hE h => ?_) hJ _ s.heap [] 0 0 (jentry_lv m3) hH va_S.rf (Nat.add_zero _).symm (Nat.add_zero _).symm
  · rw [hinit] at h
    cases h
  · subst h
    show jhs r'.2 ≤ jhs σ + (jhs r'.2 - jhs σ) ∧ jsl r'.2 ≤ jsl σ + (jsl r'.2 - jsl σ)
    omega
  · subst h
    exact js_return C hok hrt hlocks (by show jhs σ' ≤ jhs σ + (jhs σ' - jhs σ); omega) (by show jsl σ' ≤ jsl σ + (jsl σ' - jsl σ); omega)
  · rw [hM] at hE
    cases hE
  · subst h
    cases hv0
  · intro lsA H locs cells slots q ce hlv hH2 hS2 hc hs hce hcv hcl
    obtain ⟨pre, w, suf, e1, e2, e3, e4, e5, e6⟩ := jghd_split hE
    have hw : w ∈ M.2.2.2.1 := by rw [e1]; exact List.mem_append_right _ List.mem_cons_self
    obtain ⟨w1, w2, w3⟩ := hT w hw
    rw [e5] at w2 w3
    refine vx_catch (own := own) (name := E) hfc (pre.map jent4) (jent4 w) (suf.map jent4) ?_ (fun z hz => ?_) ?_ w1 (hts _ w2) (jA_use hB w3 _) hce hcv hcl ?_
    · rw [htab, e1, List.map_append, List.map_cons]
    · obtain ⟨z', hz', rfl⟩ := List.mem_map.mp hz
      have hzT : z' ∈ M.2.2.2.1 := by rw [e1]; exact List.mem_append_left _ hz'
      have hno := e6 z' hz'
      by_cases hcov : z'.1 ≤ pc ∧ pc < z'.2.1
      · have hE' : ¬ z'.2.2.2.2 = E := fun q => hno ⟨hcov.1, hcov.2, q⟩
        obtain ⟨z1, z2, z3⟩ := hT z' hzT
        refine Or.inr ⟨z1, z'.2.2.2.2, hts _ z2, ?_⟩
        rcases hN w hw z' hzT with h9 | h9
        · exact absurd (h9.trans e5) hE'
        · rw [e5] at h9
          exact hB.2.2.1.2 _ h9
      · refine Or.inl ?_
        show (decide (z'.1 ≤ pc) && decide (pc < z'.2.1)) = false
        by_cases h9 : z'.1 ≤ pc
        · have h8 : ¬ pc < z'.2.1 := fun q => hcov ⟨h9, q⟩
          simp [h8]
        · simp [h9]
    · show (decide (w.1 ≤ pc) && decide (pc < w.2.1)) = true
      simp [e3, e4]
    · have h9 := h q lsA H locs cells slots hlv hH2 hS2 hc hs
      subst e2
      exact h9

def kE6 (σ τ : jgS) : Prop := τ.2 = σ.2 ∨ τ.2 = (jwh σ 6).2
def kval : Option Value → Int32
  | some (.int v) => v
  | _ => 0
def lcd : List (String × Int32) → String → Int32
  | [], _ => 0
  | e :: l, E => if e.1 = E then e.2 else lcd l E
/-- what a wrapper answers -/
def lkW (ex : List (String × Int32)) (r : jgR) : jgR := match r.1 with
  | .inl v => (.inl (some (.int (kval v))), r.2)
  | .inr E => (.inl (some (.int (lcd ex E))), r.2)
def lkP (ex : List (String × Int32)) (σ : jgS) (r : jgR) : Prop := kE6 σ r.2 ∧ ((∃ v, r.1 = .inl (some (.int v))) ∨ ∃ q ∈ ex, r.1 = .inr q.1)
theorem kE6_wt {σ τ : jgS} (h : kE6 σ τ) : jwt τ = jwt σ := by rcases h with h | h <;> (unfold jwt; rw [h]) <;> rfl
theorem kE6_le {σ τ : jgS} (h : kE6 σ τ) : jhs σ ≤ jhs τ ∧ jsl σ ≤ jsl τ := by
  rcases h with h | h
  · exact ⟨by unfold jhs; rw [h]; exact Nat.le_refl _, by unfold jsl; rw [h]; exact Nat.le_refl _⟩
  · exact ⟨by unfold jhs; rw [h]; exact Nat.le_succ _, by unfold jsl; rw [h]; exact Nat.le_add_right _ _⟩
theorem lkW_le {ex : List (String × Int32)} {σ : jgS} {r : jgR} (h : lkP ex σ r) : jhs σ ≤ jhs (lkW ex r).2 ∧ jsl σ ≤ jsl (lkW ex r).2 := by
  have h3 := kE6_le h.1
  unfold lkW
  split
  · exact h3
  · exact h3
theorem lkW_v (ex : List (String × Int32)) (r : jgR) : ∃ v, (lkW ex r).1 = .inl v := by
  unfold lkW
  split
  · exact ⟨_, rfl⟩
  · exact ⟨_, rfl⟩
def Pp_L_put (G : jgG) (x : Nat) (a : Int32) (b : Int32) (σ : jgS) : Prop := jo G (jwt σ) x 6 ∧ Pp_X6_put G x a b σ ∧ lkP [("java/lang/IllegalArgumentException", -2), ("java/lang/IllegalStateException", -3)] σ (Ff_X6_put G x a b σ)
def Ff_L_put (G : jgG) (x : Nat) (a : Int32) (b : Int32) (σ : jgS) : jgR := lkW [("java/lang/IllegalArgumentException", -2), ("java/lang/IllegalStateException", -3)] (Ff_X6_put G x a b σ)
def P_L_put (G : jgG) (As : List Value) (σ : jgS) : Prop := ∃ x : Nat, ∃ a : Int32, ∃ b : Int32, As = [.ref x, .int a, .int b] ∧ Pp_L_put G x a b σ
def F_L_put (G : jgG) (As : List Value) (σ : jgS) : jgR := Ff_L_put G (jaR As 0) (jaI As 1) (jaI As 2) σ
def S_L_put (G : jgG) : jgSpec := jsp (P_L_put G) (F_L_put G)
theorem PX_L_put {G : jgG} {x : Nat} {a : Int32} {b : Int32} {σ : jgS} : P_L_put G [.ref x, .int a, .int b] σ ↔ Pp_L_put G x a b σ := by unfold P_L_put; simp [and_assoc]
theorem FX_L_put {G : jgG} {x : Nat} {a : Int32} {b : Int32} {σ : jgS} : F_L_put G [.ref x, .int a, .int b] σ = Ff_L_put G x a b σ := rfl
def I_L_put : jgI := (4, 99, yL_put, cL_put, 4, (some .int), 3, 8, 134, [(0, 6, 7, 16), (0, 6, 11, 18)])
theorem jd_L_put : I_L_put.2.2.1.cls ≠ "java/lang/invoke/MethodHandle" ∧ I_L_put.2.2.1.cls ≠ "java/lang/invoke/VarHandle" ∧ (parseMethodDescriptor I_L_put.2.2.1.desc).map (fun d => d.parameters.length) = some I_L_put.2.2.2.2.2.2.1 := ⟨by decide +kernel, by decide +kernel, by decide +kernel⟩
def M_L_put (G : jgG) : jgM := (cL_put, [(10, jpC I_X6_put (S_X6_put G))], [], [(0, 6, 7, 16, "java/lang/IllegalArgumentException"), (0, 6, 11, 18, "java/lang/IllegalStateException")], (some .int), false)
theorem bd_L_put (G : jgG) : ∀ (As : List Value) (σ : jgS) (r : jgR), S_L_put G As σ r → jhs σ ≤ jhs r.2 ∧ jsl σ ≤ jsl r.2 ∧ (jent As).length ≤ I_L_put.2.2.2.2.1 ∧ Jr G (M_L_put G) 0 (jentry As I_L_put.2.2.2.2.1) [] σ (fun r' => r' = r) := by
  rintro As σ r ⟨⟨x, a, b, rfl, hp⟩, rfl⟩
  rw [FX_L_put]
  refine ⟨(lkW_le hp.2.2).1, (lkW_le hp.2.2).2, by simp [jent, Value.category, I_L_put], ?_⟩
  show Jr G (M_L_put G) 0 [some (.ref x), some (.int a), some (.int b), none] [] σ (fun r' => r' = Ff_L_put G x a b σ)
  obtain ⟨hx, hP, hE, hs⟩ := hp
  unfold Ff_L_put
  have hw := kE6_wt hE
  generalize hR : Ff_X6_put G x a b σ = R at *
  obtain ⟨R1, τ⟩ := R
  rcases hs with ⟨v, hv⟩ | ⟨E, hm, hv⟩
  · have hv : R1 = .inl (some (.int v)) := hv
    subst hv
    simp only [jq_aload0 (M := M_L_put G) 1 dL_put_0 rfl, jq_iload1 (M := M_L_put G) 2 dL_put_1 rfl, jq_iload2 (M := M_L_put G) 3 dL_put_2 rfl, jq_virt2 (M := M_L_put G) I_X6_put 6 dL_put_3 rfl rfl rfl rfl, jq_iret (M := M_L_put G) .int dL_put_6 rfl, eq_self, jref_10, jref_11, jref_12, jk_v, jk_n, jcat_nil, jcat_i, jcat_r, jcat_l, jcat_d, jc2_i, jc2_r, jc2_n, jc1_i, jc1_r, jrf_some, jwtq_wI, jwtq_wh, jR_wI, jI_wh, jR_wh, List.cons.injEq, Value.int.injEq, Value.ref.injEq, Value.long.injEq, Value.double.injEq, true_and, and_true, and_self, Nat.reduceAdd, Nat.reduceLeDiff, if_true, if_false, ite_true, ite_false, jc1q_i, jc1q_r, jc1q_l, jwtq_wR, jwtq_wY, jI_wI, Nat.reduceEqDiff, and_false, false_and, not_false_eq_true, not_true_eq_false, PX_X6_put, FX_X6_put, hR, hP, hx, hw, jnr_i]
    rfl
  · have hv : R1 = .inr E.1 := hv
    subst hv
    simp only [List.mem_cons, List.not_mem_nil, or_false] at hm
    rcases hm with rfl | rfl
    · simp only [jq_aload0 (M := M_L_put G) 1 dL_put_0 rfl, jq_iload1 (M := M_L_put G) 2 dL_put_1 rfl, jq_iload2 (M := M_L_put G) 3 dL_put_2 rfl, jq_virt2 (M := M_L_put G) I_X6_put 6 dL_put_3 rfl rfl rfl rfl, eq_self, jref_10, jref_11, jref_12, jk_v, jk_n, jcat_nil, jcat_i, jcat_r, jcat_l, jcat_d, jc2_i, jc2_r, jc2_n, jc1_i, jc1_r, jrf_some, jwtq_wI, jwtq_wh, jR_wI, jI_wh, jR_wh, List.cons.injEq, Value.int.injEq, Value.ref.injEq, Value.long.injEq, Value.double.injEq, true_and, and_true, and_self, Nat.reduceAdd, Nat.reduceLeDiff, if_true, if_false, ite_true, ite_false, jc1q_i, jc1q_r, jc1q_l, jwtq_wR, jwtq_wY, jI_wI, Nat.reduceEqDiff, and_false, false_and, not_false_eq_true, not_true_eq_false, PX_X6_put, FX_X6_put, hR, hP, hx, hw, jnr_i, jk_h (M := M_L_put G) (pc := 3) (E := "java/lang/IllegalArgumentException") 7 rfl]
      intro q
      simp only [jq_astore3 (M := M_L_put G) 8 dL_put_7 rfl, jq_bipush (M := M_L_put G) (-2) 10 dL_put_8 (by decide) rfl, jq_iret (M := M_L_put G) .int dL_put_10 rfl, eq_self, jref_10, jref_11, jref_12, jk_v, jk_n, jcat_nil, jcat_i, jcat_r, jcat_l, jcat_d, jc2_i, jc2_r, jc2_n, jc1_i, jc1_r, jrf_some, jwtq_wI, jwtq_wh, jR_wI, jI_wh, jR_wh, List.cons.injEq, Value.int.injEq, Value.ref.injEq, Value.long.injEq, Value.double.injEq, true_and, and_true, and_self, Nat.reduceAdd, Nat.reduceLeDiff, if_true, if_false, ite_true, ite_false, jc1q_i, jc1q_r, jc1q_l, jwtq_wR, jwtq_wY, jI_wI, Nat.reduceEqDiff, and_false, false_and, not_false_eq_true, not_true_eq_false, jnr_i]
      rfl
    · simp only [jq_aload0 (M := M_L_put G) 1 dL_put_0 rfl, jq_iload1 (M := M_L_put G) 2 dL_put_1 rfl, jq_iload2 (M := M_L_put G) 3 dL_put_2 rfl, jq_virt2 (M := M_L_put G) I_X6_put 6 dL_put_3 rfl rfl rfl rfl, eq_self, jref_10, jref_11, jref_12, jk_v, jk_n, jcat_nil, jcat_i, jcat_r, jcat_l, jcat_d, jc2_i, jc2_r, jc2_n, jc1_i, jc1_r, jrf_some, jwtq_wI, jwtq_wh, jR_wI, jI_wh, jR_wh, List.cons.injEq, Value.int.injEq, Value.ref.injEq, Value.long.injEq, Value.double.injEq, true_and, and_true, and_self, Nat.reduceAdd, Nat.reduceLeDiff, if_true, if_false, ite_true, ite_false, jc1q_i, jc1q_r, jc1q_l, jwtq_wR, jwtq_wY, jI_wI, Nat.reduceEqDiff, and_false, false_and, not_false_eq_true, not_true_eq_false, PX_X6_put, FX_X6_put, hR, hP, hx, hw, jnr_i, jk_h (M := M_L_put G) (pc := 3) (E := "java/lang/IllegalStateException") 11 rfl]
      intro q
      simp only [jq_astore3 (M := M_L_put G) 12 dL_put_11 rfl, jq_bipush (M := M_L_put G) (-3) 14 dL_put_12 (by decide) rfl, jq_iret (M := M_L_put G) .int dL_put_14 rfl, eq_self, jref_10, jref_11, jref_12, jk_v, jk_n, jcat_nil, jcat_i, jcat_r, jcat_l, jcat_d, jc2_i, jc2_r, jc2_n, jc1_i, jc1_r, jrf_some, jwtq_wI, jwtq_wh, jR_wI, jI_wh, jR_wh, List.cons.injEq, Value.int.injEq, Value.ref.injEq, Value.long.injEq, Value.double.injEq, true_and, and_true, and_self, Nat.reduceAdd, Nat.reduceLeDiff, if_true, if_false, ite_true, ite_false, jc1q_i, jc1q_r, jc1q_l, jwtq_wR, jwtq_wY, jI_wI, Nat.reduceEqDiff, and_false, false_and, not_false_eq_true, not_true_eq_false, jnr_i]
      rfl
theorem met_L_put {l : Launch} (hl : l.stackTraces = false) (D : va_G) (cy : Nat → ClassId) (G : jgG) : jMet l D cy G I_L_put (S_L_put G) :=
  jr_metH (M_L_put G) I_L_put (S_L_put G) RL rfl (by decide) rfl rfl rfl (by decide) rfl rfl jmAI (fun R h1 h2 => List.forall_mem_cons.mpr ⟨⟨⟨jm_489, jm_10, jd_X6_put, ⟨by rw [h1]; exact Nat.le_of_ble_eq_true rfl, by rw [h2]; exact Nat.le_of_ble_eq_true rfl⟩, Or.inl ⟨rfl, jm_486, jm_487, jm_488, rfl, Nat.le_of_ble_eq_true rfl, _, rfl, rfl⟩⟩, met_X6_put hl D cy G⟩, fun _ h => nomatch h⟩) (List.forall_mem_cons.mpr ⟨⟨by decide, jw_lIA, jw_cIA⟩, List.forall_mem_cons.mpr ⟨⟨by decide, jw_lIS, jw_cIS⟩, fun _ h => nomatch h⟩⟩) (show ∀ q ∈ ([(0, 6, 7, 16, "java/lang/IllegalArgumentException"), (0, 6, 11, 18, "java/lang/IllegalStateException")] : List (Nat × Nat × Nat × Nat × String)), ∀ z ∈ ([(0, 6, 7, 16, "java/lang/IllegalArgumentException"), (0, 6, 11, 18, "java/lang/IllegalStateException")] : List (Nat × Nat × Nat × Nat × String)), z.2.2.2.2 = q.2.2.2.2 ∨ (q.2.2.2.2, z.2.2.2.2) ∈ jxnc from by decide +kernel) (fun As σ r h => by obtain ⟨-, rfl⟩ := h; exact lkW_v _ _) (bd_L_put G)
def Pp_L_done (G : jgG) (x : Nat) (a : Int32) (b : Int32) (σ : jgS) : Prop := jo G (jwt σ) x 6 ∧ Pp_X6_done G x a b σ ∧ lkP [("java/lang/IndexOutOfBoundsException", -2), ("java/lang/IllegalStateException", -3)] σ (Ff_X6_done G x a b σ)
def Ff_L_done (G : jgG) (x : Nat) (a : Int32) (b : Int32) (σ : jgS) : jgR := lkW [("java/lang/IndexOutOfBoundsException", -2), ("java/lang/IllegalStateException", -3)] (Ff_X6_done G x a b σ)
def P_L_done (G : jgG) (As : List Value) (σ : jgS) : Prop := ∃ x : Nat, ∃ a : Int32, ∃ b : Int32, As = [.ref x, .int a, .int b] ∧ Pp_L_done G x a b σ
def F_L_done (G : jgG) (As : List Value) (σ : jgS) : jgR := Ff_L_done G (jaR As 0) (jaI As 1) (jaI As 2) σ
def S_L_done (G : jgG) : jgSpec := jsp (P_L_done G) (F_L_done G)
theorem PX_L_done {G : jgG} {x : Nat} {a : Int32} {b : Int32} {σ : jgS} : P_L_done G [.ref x, .int a, .int b] σ ↔ Pp_L_done G x a b σ := by unfold P_L_done; simp [and_assoc]
theorem FX_L_done {G : jgG} {x : Nat} {a : Int32} {b : Int32} {σ : jgS} : F_L_done G [.ref x, .int a, .int b] σ = Ff_L_done G x a b σ := rfl
def I_L_done : jgI := (4, 99, yL_done, cL_done, 4, (some .int), 3, 8, 134, [(0, 6, 7, 23), (0, 6, 11, 18)])
theorem jd_L_done : I_L_done.2.2.1.cls ≠ "java/lang/invoke/MethodHandle" ∧ I_L_done.2.2.1.cls ≠ "java/lang/invoke/VarHandle" ∧ (parseMethodDescriptor I_L_done.2.2.1.desc).map (fun d => d.parameters.length) = some I_L_done.2.2.2.2.2.2.1 := ⟨by decide +kernel, by decide +kernel, by decide +kernel⟩
def M_L_done (G : jgG) : jgM := (cL_done, [(20, jpC I_X6_done (S_X6_done G))], [], [(0, 6, 7, 23, "java/lang/IndexOutOfBoundsException"), (0, 6, 11, 18, "java/lang/IllegalStateException")], (some .int), false)
theorem bd_L_done (G : jgG) : ∀ (As : List Value) (σ : jgS) (r : jgR), S_L_done G As σ r → jhs σ ≤ jhs r.2 ∧ jsl σ ≤ jsl r.2 ∧ (jent As).length ≤ I_L_done.2.2.2.2.1 ∧ Jr G (M_L_done G) 0 (jentry As I_L_done.2.2.2.2.1) [] σ (fun r' => r' = r) := by
  rintro As σ r ⟨⟨x, a, b, rfl, hp⟩, rfl⟩
  rw [FX_L_done]
  refine ⟨(lkW_le hp.2.2).1, (lkW_le hp.2.2).2, by simp [jent, Value.category, I_L_done], ?_⟩
  show Jr G (M_L_done G) 0 [some (.ref x), some (.int a), some (.int b), none] [] σ (fun r' => r' = Ff_L_done G x a b σ)
  obtain ⟨hx, hP, hE, hs⟩ := hp
  unfold Ff_L_done
  have hw := kE6_wt hE
  generalize hR : Ff_X6_done G x a b σ = R at *
  obtain ⟨R1, τ⟩ := R
  rcases hs with ⟨v, hv⟩ | ⟨E, hm, hv⟩
  · have hv : R1 = .inl (some (.int v)) := hv
    subst hv
    simp only [jq_aload0 (M := M_L_done G) 1 dL_done_0 rfl, jq_iload1 (M := M_L_done G) 2 dL_done_1 rfl, jq_iload2 (M := M_L_done G) 3 dL_done_2 rfl, jq_virt2 (M := M_L_done G) I_X6_done 6 dL_done_3 rfl rfl rfl rfl, jq_iret (M := M_L_done G) .int dL_done_6 rfl, eq_self, jref_10, jref_11, jref_12, jk_v, jk_n, jcat_nil, jcat_i, jcat_r, jcat_l, jcat_d, jc2_i, jc2_r, jc2_n, jc1_i, jc1_r, jrf_some, jwtq_wI, jwtq_wh, jR_wI, jI_wh, jR_wh, List.cons.injEq, Value.int.injEq, Value.ref.injEq, Value.long.injEq, Value.double.injEq, true_and, and_true, and_self, Nat.reduceAdd, Nat.reduceLeDiff, if_true, if_false, ite_true, ite_false, jc1q_i, jc1q_r, jc1q_l, jwtq_wR, jwtq_wY, jI_wI, Nat.reduceEqDiff, and_false, false_and, not_false_eq_true, not_true_eq_false, PX_X6_done, FX_X6_done, hR, hP, hx, hw, jnr_i]
    rfl
  · have hv : R1 = .inr E.1 := hv
    subst hv
    simp only [List.mem_cons, List.not_mem_nil, or_false] at hm
    rcases hm with rfl | rfl
    · simp only [jq_aload0 (M := M_L_done G) 1 dL_done_0 rfl, jq_iload1 (M := M_L_done G) 2 dL_done_1 rfl, jq_iload2 (M := M_L_done G) 3 dL_done_2 rfl, jq_virt2 (M := M_L_done G) I_X6_done 6 dL_done_3 rfl rfl rfl rfl, eq_self, jref_10, jref_11, jref_12, jk_v, jk_n, jcat_nil, jcat_i, jcat_r, jcat_l, jcat_d, jc2_i, jc2_r, jc2_n, jc1_i, jc1_r, jrf_some, jwtq_wI, jwtq_wh, jR_wI, jI_wh, jR_wh, List.cons.injEq, Value.int.injEq, Value.ref.injEq, Value.long.injEq, Value.double.injEq, true_and, and_true, and_self, Nat.reduceAdd, Nat.reduceLeDiff, if_true, if_false, ite_true, ite_false, jc1q_i, jc1q_r, jc1q_l, jwtq_wR, jwtq_wY, jI_wI, Nat.reduceEqDiff, and_false, false_and, not_false_eq_true, not_true_eq_false, PX_X6_done, FX_X6_done, hR, hP, hx, hw, jnr_i, jk_h (M := M_L_done G) (pc := 3) (E := "java/lang/IndexOutOfBoundsException") 7 rfl]
      intro q
      simp only [jq_astore3 (M := M_L_done G) 8 dL_done_7 rfl, jq_bipush (M := M_L_done G) (-2) 10 dL_done_8 (by decide) rfl, jq_iret (M := M_L_done G) .int dL_done_10 rfl, eq_self, jref_10, jref_11, jref_12, jk_v, jk_n, jcat_nil, jcat_i, jcat_r, jcat_l, jcat_d, jc2_i, jc2_r, jc2_n, jc1_i, jc1_r, jrf_some, jwtq_wI, jwtq_wh, jR_wI, jI_wh, jR_wh, List.cons.injEq, Value.int.injEq, Value.ref.injEq, Value.long.injEq, Value.double.injEq, true_and, and_true, and_self, Nat.reduceAdd, Nat.reduceLeDiff, if_true, if_false, ite_true, ite_false, jc1q_i, jc1q_r, jc1q_l, jwtq_wR, jwtq_wY, jI_wI, Nat.reduceEqDiff, and_false, false_and, not_false_eq_true, not_true_eq_false, jnr_i]
      rfl
    · simp only [jq_aload0 (M := M_L_done G) 1 dL_done_0 rfl, jq_iload1 (M := M_L_done G) 2 dL_done_1 rfl, jq_iload2 (M := M_L_done G) 3 dL_done_2 rfl, jq_virt2 (M := M_L_done G) I_X6_done 6 dL_done_3 rfl rfl rfl rfl, eq_self, jref_10, jref_11, jref_12, jk_v, jk_n, jcat_nil, jcat_i, jcat_r, jcat_l, jcat_d, jc2_i, jc2_r, jc2_n, jc1_i, jc1_r, jrf_some, jwtq_wI, jwtq_wh, jR_wI, jI_wh, jR_wh, List.cons.injEq, Value.int.injEq, Value.ref.injEq, Value.long.injEq, Value.double.injEq, true_and, and_true, and_self, Nat.reduceAdd, Nat.reduceLeDiff, if_true, if_false, ite_true, ite_false, jc1q_i, jc1q_r, jc1q_l, jwtq_wR, jwtq_wY, jI_wI, Nat.reduceEqDiff, and_false, false_and, not_false_eq_true, not_true_eq_false, PX_X6_done, FX_X6_done, hR, hP, hx, hw, jnr_i, jk_h (M := M_L_done G) (pc := 3) (E := "java/lang/IllegalStateException") 11 rfl]
      intro q
      simp only [jq_astore3 (M := M_L_done G) 12 dL_done_11 rfl, jq_bipush (M := M_L_done G) (-3) 14 dL_done_12 (by decide) rfl, jq_iret (M := M_L_done G) .int dL_done_14 rfl, eq_self, jref_10, jref_11, jref_12, jk_v, jk_n, jcat_nil, jcat_i, jcat_r, jcat_l, jcat_d, jc2_i, jc2_r, jc2_n, jc1_i, jc1_r, jrf_some, jwtq_wI, jwtq_wh, jR_wI, jI_wh, jR_wh, List.cons.injEq, Value.int.injEq, Value.ref.injEq, Value.long.injEq, Value.double.injEq, true_and, and_true, and_self, Nat.reduceAdd, Nat.reduceLeDiff, if_true, if_false, ite_true, ite_false, jc1q_i, jc1q_r, jc1q_l, jwtq_wR, jwtq_wY, jI_wI, Nat.reduceEqDiff, and_false, false_and, not_false_eq_true, not_true_eq_false, jnr_i]
      rfl
theorem met_L_done {l : Launch} (hl : l.stackTraces = false) (D : va_G) (cy : Nat → ClassId) (G : jgG) : jMet l D cy G I_L_done (S_L_done G) :=
  jr_metH (M_L_done G) I_L_done (S_L_done G) RL rfl (by decide) rfl rfl rfl (by decide) rfl rfl jmAI (fun R h1 h2 => List.forall_mem_cons.mpr ⟨⟨⟨jm_510, jm_10, jd_X6_done, ⟨by rw [h1]; exact Nat.le_of_ble_eq_true rfl, by rw [h2]; exact Nat.le_of_ble_eq_true rfl⟩, Or.inl ⟨rfl, jm_507, jm_508, jm_509, rfl, Nat.le_of_ble_eq_true rfl, _, rfl, rfl⟩⟩, met_X6_done hl D cy G⟩, fun _ h => nomatch h⟩) (List.forall_mem_cons.mpr ⟨⟨by decide, jw_lIO, jw_cIO⟩, List.forall_mem_cons.mpr ⟨⟨by decide, jw_lIS, jw_cIS⟩, fun _ h => nomatch h⟩⟩) (show ∀ q ∈ ([(0, 6, 7, 23, "java/lang/IndexOutOfBoundsException"), (0, 6, 11, 18, "java/lang/IllegalStateException")] : List (Nat × Nat × Nat × Nat × String)), ∀ z ∈ ([(0, 6, 7, 23, "java/lang/IndexOutOfBoundsException"), (0, 6, 11, 18, "java/lang/IllegalStateException")] : List (Nat × Nat × Nat × Nat × String)), z.2.2.2.2 = q.2.2.2.2 ∨ (q.2.2.2.2, z.2.2.2.2) ∈ jxnc from by decide +kernel) (fun As σ r h => by obtain ⟨-, rfl⟩ := h; exact lkW_v _ _) (bd_L_done G)
def Pp_L_giveBack (G : jgG) (x : Nat) (a : Int32) (b : Int32) (σ : jgS) : Prop := jo G (jwt σ) x 6 ∧ Pp_X6_giveBack G x a b σ ∧ lkP [("java/lang/IndexOutOfBoundsException", -2), ("java/lang/IllegalStateException", -3)] σ (Ff_X6_giveBack G x a b σ)
def Ff_L_giveBack (G : jgG) (x : Nat) (a : Int32) (b : Int32) (σ : jgS) : jgR := lkW [("java/lang/IndexOutOfBoundsException", -2), ("java/lang/IllegalStateException", -3)] (Ff_X6_giveBack G x a b σ)
def P_L_giveBack (G : jgG) (As : List Value) (σ : jgS) : Prop := ∃ x : Nat, ∃ a : Int32, ∃ b : Int32, As = [.ref x, .int a, .int b] ∧ Pp_L_giveBack G x a b σ
def F_L_giveBack (G : jgG) (As : List Value) (σ : jgS) : jgR := Ff_L_giveBack G (jaR As 0) (jaI As 1) (jaI As 2) σ
def S_L_giveBack (G : jgG) : jgSpec := jsp (P_L_giveBack G) (F_L_giveBack G)
theorem PX_L_giveBack {G : jgG} {x : Nat} {a : Int32} {b : Int32} {σ : jgS} : P_L_giveBack G [.ref x, .int a, .int b] σ ↔ Pp_L_giveBack G x a b σ := by unfold P_L_giveBack; simp [and_assoc]
theorem FX_L_giveBack {G : jgG} {x : Nat} {a : Int32} {b : Int32} {σ : jgS} : F_L_giveBack G [.ref x, .int a, .int b] σ = Ff_L_giveBack G x a b σ := rfl
def I_L_giveBack : jgI := (4, 99, yL_giveBack, cL_giveBack, 4, (some .int), 3, 8, 134, [(0, 6, 7, 23), (0, 6, 11, 18)])
theorem jd_L_giveBack : I_L_giveBack.2.2.1.cls ≠ "java/lang/invoke/MethodHandle" ∧ I_L_giveBack.2.2.1.cls ≠ "java/lang/invoke/VarHandle" ∧ (parseMethodDescriptor I_L_giveBack.2.2.1.desc).map (fun d => d.parameters.length) = some I_L_giveBack.2.2.2.2.2.2.1 := ⟨by decide +kernel, by decide +kernel, by decide +kernel⟩
def M_L_giveBack (G : jgG) : jgM := (cL_giveBack, [(25, jpC I_X6_giveBack (S_X6_giveBack G))], [], [(0, 6, 7, 23, "java/lang/IndexOutOfBoundsException"), (0, 6, 11, 18, "java/lang/IllegalStateException")], (some .int), false)
theorem bd_L_giveBack (G : jgG) : ∀ (As : List Value) (σ : jgS) (r : jgR), S_L_giveBack G As σ r → jhs σ ≤ jhs r.2 ∧ jsl σ ≤ jsl r.2 ∧ (jent As).length ≤ I_L_giveBack.2.2.2.2.1 ∧ Jr G (M_L_giveBack G) 0 (jentry As I_L_giveBack.2.2.2.2.1) [] σ (fun r' => r' = r) := by
  rintro As σ r ⟨⟨x, a, b, rfl, hp⟩, rfl⟩
  rw [FX_L_giveBack]
  refine ⟨(lkW_le hp.2.2).1, (lkW_le hp.2.2).2, by simp [jent, Value.category, I_L_giveBack], ?_⟩
  show Jr G (M_L_giveBack G) 0 [some (.ref x), some (.int a), some (.int b), none] [] σ (fun r' => r' = Ff_L_giveBack G x a b σ)
  obtain ⟨hx, hP, hE, hs⟩ := hp
  unfold Ff_L_giveBack
  have hw := kE6_wt hE
  generalize hR : Ff_X6_giveBack G x a b σ = R at *
  obtain ⟨R1, τ⟩ := R
  rcases hs with ⟨v, hv⟩ | ⟨E, hm, hv⟩
  · have hv : R1 = .inl (some (.int v)) := hv
    subst hv
    simp only [jq_aload0 (M := M_L_giveBack G) 1 dL_giveBack_0 rfl, jq_iload1 (M := M_L_giveBack G) 2 dL_giveBack_1 rfl, jq_iload2 (M := M_L_giveBack G) 3 dL_giveBack_2 rfl, jq_virt2 (M := M_L_giveBack G) I_X6_giveBack 6 dL_giveBack_3 rfl rfl rfl rfl, jq_iret (M := M_L_giveBack G) .int dL_giveBack_6 rfl, eq_self, jref_10, jref_11, jref_12, jk_v, jk_n, jcat_nil, jcat_i, jcat_r, jcat_l, jcat_d, jc2_i, jc2_r, jc2_n, jc1_i, jc1_r, jrf_some, jwtq_wI, jwtq_wh, jR_wI, jI_wh, jR_wh, List.cons.injEq, Value.int.injEq, Value.ref.injEq, Value.long.injEq, Value.double.injEq, true_and, and_true, and_self, Nat.reduceAdd, Nat.reduceLeDiff, if_true, if_false, ite_true, ite_false, jc1q_i, jc1q_r, jc1q_l, jwtq_wR, jwtq_wY, jI_wI, Nat.reduceEqDiff, and_false, false_and, not_false_eq_true, not_true_eq_false, PX_X6_giveBack, FX_X6_giveBack, hR, hP, hx, hw, jnr_i]
    rfl
  · have hv : R1 = .inr E.1 := hv
    subst hv
    simp only [List.mem_cons, List.not_mem_nil, or_false] at hm
    rcases hm with rfl | rfl
    · simp only [jq_aload0 (M := M_L_giveBack G) 1 dL_giveBack_0 rfl, jq_iload1 (M := M_L_giveBack G) 2 dL_giveBack_1 rfl, jq_iload2 (M := M_L_giveBack G) 3 dL_giveBack_2 rfl, jq_virt2 (M := M_L_giveBack G) I_X6_giveBack 6 dL_giveBack_3 rfl rfl rfl rfl, eq_self, jref_10, jref_11, jref_12, jk_v, jk_n, jcat_nil, jcat_i, jcat_r, jcat_l, jcat_d, jc2_i, jc2_r, jc2_n, jc1_i, jc1_r, jrf_some, jwtq_wI, jwtq_wh, jR_wI, jI_wh, jR_wh, List.cons.injEq, Value.int.injEq, Value.ref.injEq, Value.long.injEq, Value.double.injEq, true_and, and_true, and_self, Nat.reduceAdd, Nat.reduceLeDiff, if_true, if_false, ite_true, ite_false, jc1q_i, jc1q_r, jc1q_l, jwtq_wR, jwtq_wY, jI_wI, Nat.reduceEqDiff, and_false, false_and, not_false_eq_true, not_true_eq_false, PX_X6_giveBack, FX_X6_giveBack, hR, hP, hx, hw, jnr_i, jk_h (M := M_L_giveBack G) (pc := 3) (E := "java/lang/IndexOutOfBoundsException") 7 rfl]
      intro q
      simp only [jq_astore3 (M := M_L_giveBack G) 8 dL_giveBack_7 rfl, jq_bipush (M := M_L_giveBack G) (-2) 10 dL_giveBack_8 (by decide) rfl, jq_iret (M := M_L_giveBack G) .int dL_giveBack_10 rfl, eq_self, jref_10, jref_11, jref_12, jk_v, jk_n, jcat_nil, jcat_i, jcat_r, jcat_l, jcat_d, jc2_i, jc2_r, jc2_n, jc1_i, jc1_r, jrf_some, jwtq_wI, jwtq_wh, jR_wI, jI_wh, jR_wh, List.cons.injEq, Value.int.injEq, Value.ref.injEq, Value.long.injEq, Value.double.injEq, true_and, and_true, and_self, Nat.reduceAdd, Nat.reduceLeDiff, if_true, if_false, ite_true, ite_false, jc1q_i, jc1q_r, jc1q_l, jwtq_wR, jwtq_wY, jI_wI, Nat.reduceEqDiff, and_false, false_and, not_false_eq_true, not_true_eq_false, jnr_i]
      rfl
    · simp only [jq_aload0 (M := M_L_giveBack G) 1 dL_giveBack_0 rfl, jq_iload1 (M := M_L_giveBack G) 2 dL_giveBack_1 rfl, jq_iload2 (M := M_L_giveBack G) 3 dL_giveBack_2 rfl, jq_virt2 (M := M_L_giveBack G) I_X6_giveBack 6 dL_giveBack_3 rfl rfl rfl rfl, eq_self, jref_10, jref_11, jref_12, jk_v, jk_n, jcat_nil, jcat_i, jcat_r, jcat_l, jcat_d, jc2_i, jc2_r, jc2_n, jc1_i, jc1_r, jrf_some, jwtq_wI, jwtq_wh, jR_wI, jI_wh, jR_wh, List.cons.injEq, Value.int.injEq, Value.ref.injEq, Value.long.injEq, Value.double.injEq, true_and, and_true, and_self, Nat.reduceAdd, Nat.reduceLeDiff, if_true, if_false, ite_true, ite_false, jc1q_i, jc1q_r, jc1q_l, jwtq_wR, jwtq_wY, jI_wI, Nat.reduceEqDiff, and_false, false_and, not_false_eq_true, not_true_eq_false, PX_X6_giveBack, FX_X6_giveBack, hR, hP, hx, hw, jnr_i, jk_h (M := M_L_giveBack G) (pc := 3) (E := "java/lang/IllegalStateException") 11 rfl]
      intro q
      simp only [jq_astore3 (M := M_L_giveBack G) 12 dL_giveBack_11 rfl, jq_bipush (M := M_L_giveBack G) (-3) 14 dL_giveBack_12 (by decide) rfl, jq_iret (M := M_L_giveBack G) .int dL_giveBack_14 rfl, eq_self, jref_10, jref_11, jref_12, jk_v, jk_n, jcat_nil, jcat_i, jcat_r, jcat_l, jcat_d, jc2_i, jc2_r, jc2_n, jc1_i, jc1_r, jrf_some, jwtq_wI, jwtq_wh, jR_wI, jI_wh, jR_wh, List.cons.injEq, Value.int.injEq, Value.ref.injEq, Value.long.injEq, Value.double.injEq, true_and, and_true, and_self, Nat.reduceAdd, Nat.reduceLeDiff, if_true, if_false, ite_true, ite_false, jc1q_i, jc1q_r, jc1q_l, jwtq_wR, jwtq_wY, jI_wI, Nat.reduceEqDiff, and_false, false_and, not_false_eq_true, not_true_eq_false, jnr_i]
      rfl
theorem met_L_giveBack {l : Launch} (hl : l.stackTraces = false) (D : va_G) (cy : Nat → ClassId) (G : jgG) : jMet l D cy G I_L_giveBack (S_L_giveBack G) :=
  jr_metH (M_L_giveBack G) I_L_giveBack (S_L_giveBack G) RL rfl (by decide) rfl rfl rfl (by decide) rfl rfl jmAI (fun R h1 h2 => List.forall_mem_cons.mpr ⟨⟨⟨jm_529, jm_10, jd_X6_giveBack, ⟨by rw [h1]; exact Nat.le_of_ble_eq_true rfl, by rw [h2]; exact Nat.le_of_ble_eq_true rfl⟩, Or.inl ⟨rfl, jm_526, jm_527, jm_528, rfl, Nat.le_of_ble_eq_true rfl, _, rfl, rfl⟩⟩, met_X6_giveBack hl D cy G⟩, fun _ h => nomatch h⟩) (List.forall_mem_cons.mpr ⟨⟨by decide, jw_lIO, jw_cIO⟩, List.forall_mem_cons.mpr ⟨⟨by decide, jw_lIS, jw_cIS⟩, fun _ h => nomatch h⟩⟩) (show ∀ q ∈ ([(0, 6, 7, 23, "java/lang/IndexOutOfBoundsException"), (0, 6, 11, 18, "java/lang/IllegalStateException")] : List (Nat × Nat × Nat × Nat × String)), ∀ z ∈ ([(0, 6, 7, 23, "java/lang/IndexOutOfBoundsException"), (0, 6, 11, 18, "java/lang/IllegalStateException")] : List (Nat × Nat × Nat × Nat × String)), z.2.2.2.2 = q.2.2.2.2 ∨ (q.2.2.2.2, z.2.2.2.2) ∈ jxnc from by decide +kernel) (fun As σ r h => by obtain ⟨-, rfl⟩ := h; exact lkW_v _ _) (bd_L_giveBack G)
def Pp_L_revive (G : jgG) (x : Nat) (a : Int32) (σ : jgS) : Prop := jo G (jwt σ) x 6 ∧ Pp_X6_revive G x a σ ∧ lkP [("java/lang/IndexOutOfBoundsException", -2), ("java/lang/IllegalStateException", -3)] σ (Ff_X6_revive G x a σ)
def Ff_L_revive (G : jgG) (x : Nat) (a : Int32) (σ : jgS) : jgR := lkW [("java/lang/IndexOutOfBoundsException", -2), ("java/lang/IllegalStateException", -3)] (Ff_X6_revive G x a σ)
def P_L_revive (G : jgG) (As : List Value) (σ : jgS) : Prop := ∃ x : Nat, ∃ a : Int32, As = [.ref x, .int a] ∧ Pp_L_revive G x a σ
def F_L_revive (G : jgG) (As : List Value) (σ : jgS) : jgR := Ff_L_revive G (jaR As 0) (jaI As 1) σ
def S_L_revive (G : jgG) : jgSpec := jsp (P_L_revive G) (F_L_revive G)
theorem PX_L_revive {G : jgG} {x : Nat} {a : Int32} {σ : jgS} : P_L_revive G [.ref x, .int a] σ ↔ Pp_L_revive G x a σ := by unfold P_L_revive; simp [and_assoc]
theorem FX_L_revive {G : jgG} {x : Nat} {a : Int32} {σ : jgS} : F_L_revive G [.ref x, .int a] σ = Ff_L_revive G x a σ := rfl
def I_L_revive : jgI := (4, 99, yL_revive, cL_revive, 3, (some .int), 2, 8, 133, [(0, 5, 6, 23), (0, 5, 10, 18)])
theorem jd_L_revive : I_L_revive.2.2.1.cls ≠ "java/lang/invoke/MethodHandle" ∧ I_L_revive.2.2.1.cls ≠ "java/lang/invoke/VarHandle" ∧ (parseMethodDescriptor I_L_revive.2.2.1.desc).map (fun d => d.parameters.length) = some I_L_revive.2.2.2.2.2.2.1 := ⟨by decide +kernel, by decide +kernel, by decide +kernel⟩
def M_L_revive (G : jgG) : jgM := (cL_revive, [(28, jpC I_X6_revive (S_X6_revive G))], [], [(0, 5, 6, 23, "java/lang/IndexOutOfBoundsException"), (0, 5, 10, 18, "java/lang/IllegalStateException")], (some .int), false)
theorem bd_L_revive (G : jgG) : ∀ (As : List Value) (σ : jgS) (r : jgR), S_L_revive G As σ r → jhs σ ≤ jhs r.2 ∧ jsl σ ≤ jsl r.2 ∧ (jent As).length ≤ I_L_revive.2.2.2.2.1 ∧ Jr G (M_L_revive G) 0 (jentry As I_L_revive.2.2.2.2.1) [] σ (fun r' => r' = r) := by
  rintro As σ r ⟨⟨x, a, rfl, hp⟩, rfl⟩
  rw [FX_L_revive]
  refine ⟨(lkW_le hp.2.2).1, (lkW_le hp.2.2).2, by simp [jent, Value.category, I_L_revive], ?_⟩
  show Jr G (M_L_revive G) 0 [some (.ref x), some (.int a), none] [] σ (fun r' => r' = Ff_L_revive G x a σ)
  obtain ⟨hx, hP, hE, hs⟩ := hp
  unfold Ff_L_revive
  have hw := kE6_wt hE
  generalize hR : Ff_X6_revive G x a σ = R at *
  obtain ⟨R1, τ⟩ := R
  rcases hs with ⟨v, hv⟩ | ⟨E, hm, hv⟩
  · have hv : R1 = .inl (some (.int v)) := hv
    subst hv
    simp only [jq_aload0 (M := M_L_revive G) 1 dL_revive_0 rfl, jq_iload1 (M := M_L_revive G) 2 dL_revive_1 rfl, jq_virt1 (M := M_L_revive G) I_X6_revive 6 dL_revive_2 rfl rfl rfl rfl, jq_iret (M := M_L_revive G) .int dL_revive_5 rfl, eq_self, jref_10, jref_11, jref_12, jk_v, jk_n, jcat_nil, jcat_i, jcat_r, jcat_l, jcat_d, jc2_i, jc2_r, jc2_n, jc1_i, jc1_r, jrf_some, jwtq_wI, jwtq_wh, jR_wI, jI_wh, jR_wh, List.cons.injEq, Value.int.injEq, Value.ref.injEq, Value.long.injEq, Value.double.injEq, true_and, and_true, and_self, Nat.reduceAdd, Nat.reduceLeDiff, if_true, if_false, ite_true, ite_false, jc1q_i, jc1q_r, jc1q_l, jwtq_wR, jwtq_wY, jI_wI, Nat.reduceEqDiff, and_false, false_and, not_false_eq_true, not_true_eq_false, PX_X6_revive, FX_X6_revive, hR, hP, hx, hw, jnr_i]
    rfl
  · have hv : R1 = .inr E.1 := hv
    subst hv
    simp only [List.mem_cons, List.not_mem_nil, or_false] at hm
    rcases hm with rfl | rfl
    · simp only [jq_aload0 (M := M_L_revive G) 1 dL_revive_0 rfl, jq_iload1 (M := M_L_revive G) 2 dL_revive_1 rfl, jq_virt1 (M := M_L_revive G) I_X6_revive 6 dL_revive_2 rfl rfl rfl rfl, eq_self, jref_10, jref_11, jref_12, jk_v, jk_n, jcat_nil, jcat_i, jcat_r, jcat_l, jcat_d, jc2_i, jc2_r, jc2_n, jc1_i, jc1_r, jrf_some, jwtq_wI, jwtq_wh, jR_wI, jI_wh, jR_wh, List.cons.injEq, Value.int.injEq, Value.ref.injEq, Value.long.injEq, Value.double.injEq, true_and, and_true, and_self, Nat.reduceAdd, Nat.reduceLeDiff, if_true, if_false, ite_true, ite_false, jc1q_i, jc1q_r, jc1q_l, jwtq_wR, jwtq_wY, jI_wI, Nat.reduceEqDiff, and_false, false_and, not_false_eq_true, not_true_eq_false, PX_X6_revive, FX_X6_revive, hR, hP, hx, hw, jnr_i, jk_h (M := M_L_revive G) (pc := 2) (E := "java/lang/IndexOutOfBoundsException") 6 rfl]
      intro q
      simp only [jq_astore2 (M := M_L_revive G) 7 dL_revive_6 rfl, jq_bipush (M := M_L_revive G) (-2) 9 dL_revive_7 (by decide) rfl, jq_iret (M := M_L_revive G) .int dL_revive_9 rfl, eq_self, jref_10, jref_11, jref_12, jk_v, jk_n, jcat_nil, jcat_i, jcat_r, jcat_l, jcat_d, jc2_i, jc2_r, jc2_n, jc1_i, jc1_r, jrf_some, jwtq_wI, jwtq_wh, jR_wI, jI_wh, jR_wh, List.cons.injEq, Value.int.injEq, Value.ref.injEq, Value.long.injEq, Value.double.injEq, true_and, and_true, and_self, Nat.reduceAdd, Nat.reduceLeDiff, if_true, if_false, ite_true, ite_false, jc1q_i, jc1q_r, jc1q_l, jwtq_wR, jwtq_wY, jI_wI, Nat.reduceEqDiff, and_false, false_and, not_false_eq_true, not_true_eq_false, jnr_i]
      rfl
    · simp only [jq_aload0 (M := M_L_revive G) 1 dL_revive_0 rfl, jq_iload1 (M := M_L_revive G) 2 dL_revive_1 rfl, jq_virt1 (M := M_L_revive G) I_X6_revive 6 dL_revive_2 rfl rfl rfl rfl, eq_self, jref_10, jref_11, jref_12, jk_v, jk_n, jcat_nil, jcat_i, jcat_r, jcat_l, jcat_d, jc2_i, jc2_r, jc2_n, jc1_i, jc1_r, jrf_some, jwtq_wI, jwtq_wh, jR_wI, jI_wh, jR_wh, List.cons.injEq, Value.int.injEq, Value.ref.injEq, Value.long.injEq, Value.double.injEq, true_and, and_true, and_self, Nat.reduceAdd, Nat.reduceLeDiff, if_true, if_false, ite_true, ite_false, jc1q_i, jc1q_r, jc1q_l, jwtq_wR, jwtq_wY, jI_wI, Nat.reduceEqDiff, and_false, false_and, not_false_eq_true, not_true_eq_false, PX_X6_revive, FX_X6_revive, hR, hP, hx, hw, jnr_i, jk_h (M := M_L_revive G) (pc := 2) (E := "java/lang/IllegalStateException") 10 rfl]
      intro q
      simp only [jq_astore2 (M := M_L_revive G) 11 dL_revive_10 rfl, jq_bipush (M := M_L_revive G) (-3) 13 dL_revive_11 (by decide) rfl, jq_iret (M := M_L_revive G) .int dL_revive_13 rfl, eq_self, jref_10, jref_11, jref_12, jk_v, jk_n, jcat_nil, jcat_i, jcat_r, jcat_l, jcat_d, jc2_i, jc2_r, jc2_n, jc1_i, jc1_r, jrf_some, jwtq_wI, jwtq_wh, jR_wI, jI_wh, jR_wh, List.cons.injEq, Value.int.injEq, Value.ref.injEq, Value.long.injEq, Value.double.injEq, true_and, and_true, and_self, Nat.reduceAdd, Nat.reduceLeDiff, if_true, if_false, ite_true, ite_false, jc1q_i, jc1q_r, jc1q_l, jwtq_wR, jwtq_wY, jI_wI, Nat.reduceEqDiff, and_false, false_and, not_false_eq_true, not_true_eq_false, jnr_i]
      rfl
theorem met_L_revive {l : Launch} (hl : l.stackTraces = false) (D : va_G) (cy : Nat → ClassId) (G : jgG) : jMet l D cy G I_L_revive (S_L_revive G) :=
  jr_metH (M_L_revive G) I_L_revive (S_L_revive G) RL rfl (by decide) rfl rfl rfl (by decide) rfl rfl jmAI (fun R h1 h2 => List.forall_mem_cons.mpr ⟨⟨⟨jm_536, jm_10, jd_X6_revive, ⟨by rw [h1]; exact Nat.le_of_ble_eq_true rfl, by rw [h2]; exact Nat.le_of_ble_eq_true rfl⟩, Or.inl ⟨rfl, jm_533, jm_534, jm_535, rfl, Nat.le_of_ble_eq_true rfl, _, rfl, rfl⟩⟩, met_X6_revive hl D cy G⟩, fun _ h => nomatch h⟩) (List.forall_mem_cons.mpr ⟨⟨by decide, jw_lIO, jw_cIO⟩, List.forall_mem_cons.mpr ⟨⟨by decide, jw_lIS, jw_cIS⟩, fun _ h => nomatch h⟩⟩) (show ∀ q ∈ ([(0, 5, 6, 23, "java/lang/IndexOutOfBoundsException"), (0, 5, 10, 18, "java/lang/IllegalStateException")] : List (Nat × Nat × Nat × Nat × String)), ∀ z ∈ ([(0, 5, 6, 23, "java/lang/IndexOutOfBoundsException"), (0, 5, 10, 18, "java/lang/IllegalStateException")] : List (Nat × Nat × Nat × Nat × String)), z.2.2.2.2 = q.2.2.2.2 ∨ (q.2.2.2.2, z.2.2.2.2) ∈ jxnc from by decide +kernel) (fun As σ r h => by obtain ⟨-, rfl⟩ := h; exact lkW_v _ _) (bd_L_revive G)
def Pp_L_urge (G : jgG) (x : Nat) (a : Int32) (b : Int32) (σ : jgS) : Prop := jo G (jwt σ) x 6 ∧ Pp_X6_urge G x a b σ ∧ lkP [("java/lang/IndexOutOfBoundsException", -2), ("java/lang/IllegalArgumentException", -4), ("java/lang/IllegalStateException", -3)] σ (Ff_X6_urge G x a b σ)
def Ff_L_urge (G : jgG) (x : Nat) (a : Int32) (b : Int32) (σ : jgS) : jgR := lkW [("java/lang/IndexOutOfBoundsException", -2), ("java/lang/IllegalArgumentException", -4), ("java/lang/IllegalStateException", -3)] (Ff_X6_urge G x a b σ)
def P_L_urge (G : jgG) (As : List Value) (σ : jgS) : Prop := ∃ x : Nat, ∃ a : Int32, ∃ b : Int32, As = [.ref x, .int a, .int b] ∧ Pp_L_urge G x a b σ
def F_L_urge (G : jgG) (As : List Value) (σ : jgS) : jgR := Ff_L_urge G (jaR As 0) (jaI As 1) (jaI As 2) σ
def S_L_urge (G : jgG) : jgSpec := jsp (P_L_urge G) (F_L_urge G)
theorem PX_L_urge {G : jgG} {x : Nat} {a : Int32} {b : Int32} {σ : jgS} : P_L_urge G [.ref x, .int a, .int b] σ ↔ Pp_L_urge G x a b σ := by unfold P_L_urge; simp [and_assoc]
theorem FX_L_urge {G : jgG} {x : Nat} {a : Int32} {b : Int32} {σ : jgS} : F_L_urge G [.ref x, .int a, .int b] σ = Ff_L_urge G x a b σ := rfl
def I_L_urge : jgI := (4, 99, yL_urge, cL_urge, 4, (some .int), 3, 8, 135, [(0, 6, 7, 23), (0, 6, 11, 16), (0, 6, 15, 18)])
theorem jd_L_urge : I_L_urge.2.2.1.cls ≠ "java/lang/invoke/MethodHandle" ∧ I_L_urge.2.2.1.cls ≠ "java/lang/invoke/VarHandle" ∧ (parseMethodDescriptor I_L_urge.2.2.1.desc).map (fun d => d.parameters.length) = some I_L_urge.2.2.2.2.2.2.1 := ⟨by decide +kernel, by decide +kernel, by decide +kernel⟩
def M_L_urge (G : jgG) : jgM := (cL_urge, [(32, jpC I_X6_urge (S_X6_urge G))], [], [(0, 6, 7, 23, "java/lang/IndexOutOfBoundsException"), (0, 6, 11, 16, "java/lang/IllegalArgumentException"), (0, 6, 15, 18, "java/lang/IllegalStateException")], (some .int), false)
theorem bd_L_urge (G : jgG) : ∀ (As : List Value) (σ : jgS) (r : jgR), S_L_urge G As σ r → jhs σ ≤ jhs r.2 ∧ jsl σ ≤ jsl r.2 ∧ (jent As).length ≤ I_L_urge.2.2.2.2.1 ∧ Jr G (M_L_urge G) 0 (jentry As I_L_urge.2.2.2.2.1) [] σ (fun r' => r' = r) := by
  rintro As σ r ⟨⟨x, a, b, rfl, hp⟩, rfl⟩
  rw [FX_L_urge]
  refine ⟨(lkW_le hp.2.2).1, (lkW_le hp.2.2).2, by simp [jent, Value.category, I_L_urge], ?_⟩
  show Jr G (M_L_urge G) 0 [some (.ref x), some (.int a), some (.int b), none] [] σ (fun r' => r' = Ff_L_urge G x a b σ)
  obtain ⟨hx, hP, hE, hs⟩ := hp
  unfold Ff_L_urge
  have hw := kE6_wt hE
  generalize hR : Ff_X6_urge G x a b σ = R at *
  obtain ⟨R1, τ⟩ := R
  rcases hs with ⟨v, hv⟩ | ⟨E, hm, hv⟩
  · have hv : R1 = .inl (some (.int v)) := hv
    subst hv
    simp only [jq_aload0 (M := M_L_urge G) 1 dL_urge_0 rfl, jq_iload1 (M := M_L_urge G) 2 dL_urge_1 rfl, jq_iload2 (M := M_L_urge G) 3 dL_urge_2 rfl, jq_virt2 (M := M_L_urge G) I_X6_urge 6 dL_urge_3 rfl rfl rfl rfl, jq_iret (M := M_L_urge G) .int dL_urge_6 rfl, eq_self, jref_10, jref_11, jref_12, jk_v, jk_n, jcat_nil, jcat_i, jcat_r, jcat_l, jcat_d, jc2_i, jc2_r, jc2_n, jc1_i, jc1_r, jrf_some, jwtq_wI, jwtq_wh, jR_wI, jI_wh, jR_wh, List.cons.injEq, Value.int.injEq, Value.ref.injEq, Value.long.injEq, Value.double.injEq, true_and, and_true, and_self, Nat.reduceAdd, Nat.reduceLeDiff, if_true, if_false, ite_true, ite_false, jc1q_i, jc1q_r, jc1q_l, jwtq_wR, jwtq_wY, jI_wI, Nat.reduceEqDiff, and_false, false_and, not_false_eq_true, not_true_eq_false, PX_X6_urge, FX_X6_urge, hR, hP, hx, hw, jnr_i]
    rfl
  · have hv : R1 = .inr E.1 := hv
    subst hv
    simp only [List.mem_cons, List.not_mem_nil, or_false] at hm
    rcases hm with rfl | rfl | rfl
    · simp only [jq_aload0 (M := M_L_urge G) 1 dL_urge_0 rfl, jq_iload1 (M := M_L_urge G) 2 dL_urge_1 rfl, jq_iload2 (M := M_L_urge G) 3 dL_urge_2 rfl, jq_virt2 (M := M_L_urge G) I_X6_urge 6 dL_urge_3 rfl rfl rfl rfl, eq_self, jref_10, jref_11, jref_12, jk_v, jk_n, jcat_nil, jcat_i, jcat_r, jcat_l, jcat_d, jc2_i, jc2_r, jc2_n, jc1_i, jc1_r, jrf_some, jwtq_wI, jwtq_wh, jR_wI, jI_wh, jR_wh, List.cons.injEq, Value.int.injEq, Value.ref.injEq, Value.long.injEq, Value.double.injEq, true_and, and_true, and_self, Nat.reduceAdd, Nat.reduceLeDiff, if_true, if_false, ite_true, ite_false, jc1q_i, jc1q_r, jc1q_l, jwtq_wR, jwtq_wY, jI_wI, Nat.reduceEqDiff, and_false, false_and, not_false_eq_true, not_true_eq_false, PX_X6_urge, FX_X6_urge, hR, hP, hx, hw, jnr_i, jk_h (M := M_L_urge G) (pc := 3) (E := "java/lang/IndexOutOfBoundsException") 7 rfl]
      intro q
      simp only [jq_astore3 (M := M_L_urge G) 8 dL_urge_7 rfl, jq_bipush (M := M_L_urge G) (-2) 10 dL_urge_8 (by decide) rfl, jq_iret (M := M_L_urge G) .int dL_urge_10 rfl, eq_self, jref_10, jref_11, jref_12, jk_v, jk_n, jcat_nil, jcat_i, jcat_r, jcat_l, jcat_d, jc2_i, jc2_r, jc2_n, jc1_i, jc1_r, jrf_some, jwtq_wI, jwtq_wh, jR_wI, jI_wh, jR_wh, List.cons.injEq, Value.int.injEq, Value.ref.injEq, Value.long.injEq, Value.double.injEq, true_and, and_true, and_self, Nat.reduceAdd, Nat.reduceLeDiff, if_true, if_false, ite_true, ite_false, jc1q_i, jc1q_r, jc1q_l, jwtq_wR, jwtq_wY, jI_wI, Nat.reduceEqDiff, and_false, false_and, not_false_eq_true, not_true_eq_false, jnr_i]
      rfl
    · simp only [jq_aload0 (M := M_L_urge G) 1 dL_urge_0 rfl, jq_iload1 (M := M_L_urge G) 2 dL_urge_1 rfl, jq_iload2 (M := M_L_urge G) 3 dL_urge_2 rfl, jq_virt2 (M := M_L_urge G) I_X6_urge 6 dL_urge_3 rfl rfl rfl rfl, eq_self, jref_10, jref_11, jref_12, jk_v, jk_n, jcat_nil, jcat_i, jcat_r, jcat_l, jcat_d, jc2_i, jc2_r, jc2_n, jc1_i, jc1_r, jrf_some, jwtq_wI, jwtq_wh, jR_wI, jI_wh, jR_wh, List.cons.injEq, Value.int.injEq, Value.ref.injEq, Value.long.injEq, Value.double.injEq, true_and, and_true, and_self, Nat.reduceAdd, Nat.reduceLeDiff, if_true, if_false, ite_true, ite_false, jc1q_i, jc1q_r, jc1q_l, jwtq_wR, jwtq_wY, jI_wI, Nat.reduceEqDiff, and_false, false_and, not_false_eq_true, not_true_eq_false, PX_X6_urge, FX_X6_urge, hR, hP, hx, hw, jnr_i, jk_h (M := M_L_urge G) (pc := 3) (E := "java/lang/IllegalArgumentException") 11 rfl]
      intro q
      simp only [jq_astore3 (M := M_L_urge G) 12 dL_urge_11 rfl, jq_bipush (M := M_L_urge G) (-4) 14 dL_urge_12 (by decide) rfl, jq_iret (M := M_L_urge G) .int dL_urge_14 rfl, eq_self, jref_10, jref_11, jref_12, jk_v, jk_n, jcat_nil, jcat_i, jcat_r, jcat_l, jcat_d, jc2_i, jc2_r, jc2_n, jc1_i, jc1_r, jrf_some, jwtq_wI, jwtq_wh, jR_wI, jI_wh, jR_wh, List.cons.injEq, Value.int.injEq, Value.ref.injEq, Value.long.injEq, Value.double.injEq, true_and, and_true, and_self, Nat.reduceAdd, Nat.reduceLeDiff, if_true, if_false, ite_true, ite_false, jc1q_i, jc1q_r, jc1q_l, jwtq_wR, jwtq_wY, jI_wI, Nat.reduceEqDiff, and_false, false_and, not_false_eq_true, not_true_eq_false, jnr_i]
      rfl
    · simp only [jq_aload0 (M := M_L_urge G) 1 dL_urge_0 rfl, jq_iload1 (M := M_L_urge G) 2 dL_urge_1 rfl, jq_iload2 (M := M_L_urge G) 3 dL_urge_2 rfl, jq_virt2 (M := M_L_urge G) I_X6_urge 6 dL_urge_3 rfl rfl rfl rfl, eq_self, jref_10, jref_11, jref_12, jk_v, jk_n, jcat_nil, jcat_i, jcat_r, jcat_l, jcat_d, jc2_i, jc2_r, jc2_n, jc1_i, jc1_r, jrf_some, jwtq_wI, jwtq_wh, jR_wI, jI_wh, jR_wh, List.cons.injEq, Value.int.injEq, Value.ref.injEq, Value.long.injEq, Value.double.injEq, true_and, and_true, and_self, Nat.reduceAdd, Nat.reduceLeDiff, if_true, if_false, ite_true, ite_false, jc1q_i, jc1q_r, jc1q_l, jwtq_wR, jwtq_wY, jI_wI, Nat.reduceEqDiff, and_false, false_and, not_false_eq_true, not_true_eq_false, PX_X6_urge, FX_X6_urge, hR, hP, hx, hw, jnr_i, jk_h (M := M_L_urge G) (pc := 3) (E := "java/lang/IllegalStateException") 15 rfl]
      intro q
      simp only [jq_astore3 (M := M_L_urge G) 16 dL_urge_15 rfl, jq_bipush (M := M_L_urge G) (-3) 18 dL_urge_16 (by decide) rfl, jq_iret (M := M_L_urge G) .int dL_urge_18 rfl, eq_self, jref_10, jref_11, jref_12, jk_v, jk_n, jcat_nil, jcat_i, jcat_r, jcat_l, jcat_d, jc2_i, jc2_r, jc2_n, jc1_i, jc1_r, jrf_some, jwtq_wI, jwtq_wh, jR_wI, jI_wh, jR_wh, List.cons.injEq, Value.int.injEq, Value.ref.injEq, Value.long.injEq, Value.double.injEq, true_and, and_true, and_self, Nat.reduceAdd, Nat.reduceLeDiff, if_true, if_false, ite_true, ite_false, jc1q_i, jc1q_r, jc1q_l, jwtq_wR, jwtq_wY, jI_wI, Nat.reduceEqDiff, and_false, false_and, not_false_eq_true, not_true_eq_false, jnr_i]
      rfl
theorem met_L_urge {l : Launch} (hl : l.stackTraces = false) (D : va_G) (cy : Nat → ClassId) (G : jgG) : jMet l D cy G I_L_urge (S_L_urge G) :=
  jr_metH (M_L_urge G) I_L_urge (S_L_urge G) RL rfl (by decide) rfl rfl rfl (by decide) rfl rfl jmAI (fun R h1 h2 => List.forall_mem_cons.mpr ⟨⟨⟨jm_544, jm_10, jd_X6_urge, ⟨by rw [h1]; exact Nat.le_of_ble_eq_true rfl, by rw [h2]; exact Nat.le_of_ble_eq_true rfl⟩, Or.inl ⟨rfl, jm_541, jm_542, jm_543, rfl, Nat.le_of_ble_eq_true rfl, _, rfl, rfl⟩⟩, met_X6_urge hl D cy G⟩, fun _ h => nomatch h⟩) (List.forall_mem_cons.mpr ⟨⟨by decide, jw_lIO, jw_cIO⟩, List.forall_mem_cons.mpr ⟨⟨by decide, jw_lIA, jw_cIA⟩, List.forall_mem_cons.mpr ⟨⟨by decide, jw_lIS, jw_cIS⟩, fun _ h => nomatch h⟩⟩⟩) (show ∀ q ∈ ([(0, 6, 7, 23, "java/lang/IndexOutOfBoundsException"), (0, 6, 11, 16, "java/lang/IllegalArgumentException"), (0, 6, 15, 18, "java/lang/IllegalStateException")] : List (Nat × Nat × Nat × Nat × String)), ∀ z ∈ ([(0, 6, 7, 23, "java/lang/IndexOutOfBoundsException"), (0, 6, 11, 16, "java/lang/IllegalArgumentException"), (0, 6, 15, 18, "java/lang/IllegalStateException")] : List (Nat × Nat × Nat × Nat × String)), z.2.2.2.2 = q.2.2.2.2 ∨ (q.2.2.2.2, z.2.2.2.2) ∈ jxnc from by decide +kernel) (fun As σ r h => by obtain ⟨-, rfl⟩ := h; exact lkW_v _ _) (bd_L_urge G)
