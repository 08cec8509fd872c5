/-! a method with handlers; what a wrapper answers -/
theorem jw_lIA : Cond.classLink RL 13 "java/lang/IllegalArgumentException" ∈ lw_W := List.mem_filter.mpr ⟨List.mem_of_getElem? (i := 596) (by decide +kernel), by decide +kernel⟩
theorem jw_lIS : Cond.classLink RL 15 "java/lang/IllegalStateException" ∈ lw_W := List.mem_filter.mpr ⟨List.mem_of_getElem? (i := 597) (by decide +kernel), by decide +kernel⟩
theorem jw_lIO : Cond.classLink RL 20 "java/lang/IndexOutOfBoundsException" ∈ lw_W := List.mem_filter.mpr ⟨List.mem_of_getElem? (i := 633) (by decide +kernel), by decide +kernel⟩
theorem jw_cIA : Cond.castable "java/lang/IllegalArgumentException" "java/lang/IllegalArgumentException" ∈ lw_A := List.mem_filter.mpr ⟨List.mem_of_getElem? (i := 403) (by decide +kernel), by decide +kernel⟩
theorem jw_cIO : Cond.castable "java/lang/IndexOutOfBoundsException" "java/lang/IndexOutOfBoundsException" ∈ lw_A := List.mem_filter.mpr ⟨List.mem_of_getElem? (i := 507) (by decide +kernel), by decide +kernel⟩
theorem jw_cIS : Cond.castable "java/lang/IllegalStateException" "java/lang/IllegalStateException" ∈ lw_A := List.mem_filter.mpr ⟨List.mem_of_getElem? (i := 608) (by decide +kernel), by decide +kernel⟩
theorem jghd_split : ∀ {T : List (Nat × Nat × Nat × Nat × String)} {pc : Nat} {E : String} {t : Nat}, jghd T pc E = some t → ∃ (pre : List (Nat × Nat × Nat × Nat × String)) (w : Nat × Nat × Nat × Nat × String) (suf : List (Nat × Nat × Nat × Nat × String)), T = pre ++ w :: suf ∧ w.2.2.1 = t ∧ w.1 ≤ pc ∧ pc < w.2.1 ∧ w.2.2.2.2 = E ∧ ∀ z ∈ pre, ¬ (z.1 ≤ pc ∧ pc < z.2.1 ∧ z.2.2.2.2 = E)
  | q :: l, pc, E, t, h => by
    unfold jghd at h
    split at h
    · rename_i hq
      cases h
      exact ⟨[], q, l, rfl, rfl, hq.1, hq.2.1, hq.2.2, fun _ h => nomatch h⟩
    · rename_i hq
      obtain ⟨pre, w, suf, h1, h2, h3, h4, h5, h6⟩ := jghd_split h
      refine ⟨q :: pre, w, suf, by rw [h1]; rfl, h2, h3, h4, h5, fun z hz => ?_⟩
      rcases List.mem_cons.mp hz with rfl | hz
      · exact hq
      · exact h6 z hz
def jent4 (q : Nat × Nat × Nat × Nat × String) : ExceptionTableEntry := ⟨q.1, q.2.1, q.2.2.1, q.2.2.2.1⟩
/-- a contract of a method that catches -/
theorem jr_metH {l : Launch} {D : va_G} {cy : Nat → ClassId} {G : jgG} (M : jgM) (I : jgI) (S : jgSpec) (own : String) (hown : own = I.2.2.1.cls) (hy : plainName I.2.2.1.cls = true) (hbytes : M.1 = I.2.2.2.1) (hret : M.2.2.2.2.1 = I.2.2.2.2.2.1) (hhh : I.2.2.2.2.2.2.2.2.2 = M.2.2.2.1.map (fun q => (q.1, q.2.1, q.2.2.1, q.2.2.2.1))) (hne : ¬ I.2.2.2.2.2.2.2.2.2 = []) (hM : M.2.2.1 = []) (hinit : M.2.2.2.2.2 = false)
    (hwI : Cond.arrayClass .int ∈ lw_W) (hwL : Cond.arrayClass .long ∈ lw_W)
    (hpo : ∀ (R : Room), R.frames = I.2.2.2.2.2.2.2.1 → R.locals = I.2.2.2.2.2.2.2.2.1 → ∀ q ∈ M.2.1, jPok l D cy G own R M.2.2.2.2.2 q)
    (hT : ∀ q ∈ M.2.2.2.1, ¬ q.2.2.2.1 = 0 ∧ Cond.classLink own q.2.2.2.1 q.2.2.2.2 ∈ lw_W ∧ Cond.castable q.2.2.2.2 q.2.2.2.2 ∈ lw_A) (hN : ∀ q ∈ M.2.2.2.1, ∀ z ∈ M.2.2.2.1, z.2.2.2.2 = q.2.2.2.2 ∨ (q.2.2.2.2, z.2.2.2.2) ∈ jxnc)
    (hv : ∀ (As : List Value) (σ : jgS) (r : jgR), S As σ r → ∃ v, r.1 = .inl v)
    (hS : ∀ (As : List Value) (σ : jgS) (r : jgR), S As σ r → jhs σ ≤ jhs r.2 ∧ jsl σ ≤ jsl r.2 ∧ (jent As).length ≤ I.2.2.2.2.1 ∧ Jr G M 0 (jentry As I.2.2.2.2.1) [] σ (fun r' => r' = r)) : jMet l D cy G I S := by
  intro As σ r hr
  obtain ⟨v0, hv0⟩ := hv As σ r hr
  obtain ⟨m1, m2, m3, hJ⟩ := hS As σ r hr
  refine ⟨m1, m2, ?_⟩
  have ecw : jcw I = Cond.codeWith I.2.2.1 I.2.2.2.1 I.2.2.2.2.1 I.2.2.2.2.2.1 I.2.2.2.2.2.2.2.2.2 := if_neg hne
  refine vx_ofWH (ws' := lw_W) (cc := I.2.2.2.1) (maxL := I.2.2.2.2.1) (ret := I.2.2.2.2.2.1) (hh := I.2.2.2.2.2.2.2.2.2) hy (by unfold jws; rw [ecw]) ?_
  intro p e s m args below meth c s₁ B hml hv
  obtain ⟨rfl, hB, hH, hHb⟩ := hv
  have hts0 := atoms_spec (ws := jws I) B.pre
  have hts : ∀ w ∈ lw_W, w.before As.toArray s = true := fun w h => hts0 w (List.mem_cons_of_mem _ h)
  have hcode := hts0 (jcw I) List.mem_cons_self
  rw [ecw] at hcode
  have htab : c.exceptionTable.toList = M.2.2.2.1.map jent4 := by
    rw [vx_table (x := I.2.2.1) B hcode, hhh]
    unfold tableOf
    rw [List.map_map]
    rfl
  have hfc : s.vm.findClass own = some m.cls := by rw [hown]; exact findClass_of_methodNamed B.named
  have C : jCx p s m As.toArray c M D cy G own I.2.2.2.2.1 (jhs σ) := ⟨B.exec, B.bytes.trans hbytes.symm, hml, hfc, hts, hB, hHb⟩
  have hlocks := B.notSynchronized
  have hrt : meth.sig.returnType = M.2.2.2.2.1 := B.returns.trans hret.symm
  rw [lg_entry_eq]
  refine jr_sound (l := l) (own := own) (M := M) (nL := I.2.2.2.2.1) (hs0 := jhs σ) (sl0 := jsl σ) (Φ := fun r' => r' = r) C (hpo _ rfl rfl) hwI hwL (fun h => ?_) (fun r' h => ?_) (fun pc ls σ' _ v h hok => ?_) (fun pc E ls st σ' hE h hcat => ?_) (fun pc ls rest E σ' hE h => ?_) (fun pc t ls rest E σ' hE h => ?_) hJ _ s.heap [] 0 0 (jentry_lv m3) hH va_S.rf (Nat.add_zero _).symm (Nat.add_zero _).symm
  · rw [hinit] at h
    cases h
  · subst h
    show jhs r'.2 ≤ jhs σ + (jhs r'.2 - jhs σ) ∧ jsl r'.2 ≤ jsl σ + (jsl r'.2 - jsl σ)
    omega
  · subst h
    exact js_return C hok hrt hlocks (by show jhs σ' ≤ jhs σ + (jhs σ' - jhs σ); omega) (by show jsl σ' ≤ jsl σ + (jsl σ' - jsl σ); omega)
  · rw [hM] at hE
    cases hE
  · subst h
    cases hv0
  · intro lsA H locs cells slots q ce hlv hH2 hS2 hc hs hce hcv hcl
    obtain ⟨pre, w, suf, e1, e2, e3, e4, e5, e6⟩ := jghd_split hE
    have hw : w ∈ M.2.2.2.1 := by rw [e1]; exact List.mem_append_right _ List.mem_cons_self
    obtain ⟨w1, w2, w3⟩ := hT w hw
    rw [e5] at w2 w3
    refine vx_catch (own := own) (name := E) hfc (pre.map jent4) (jent4 w) (suf.map jent4) ?_ (fun z hz => ?_) ?_ w1 (hts _ w2) (jA_use hB w3 _) hce hcv hcl ?_
    · rw [htab, e1, List.map_append, List.map_cons]
    · obtain ⟨z', hz', rfl⟩ := List.mem_map.mp hz
      have hzT : z' ∈ M.2.2.2.1 := by rw [e1]; exact List.mem_append_left _ hz'
      have hno := e6 z' hz'
      by_cases hcov : z'.1 ≤ pc ∧ pc < z'.2.1
      · have hE' : ¬ z'.2.2.2.2 = E := fun q => hno ⟨hcov.1, hcov.2, q⟩
        obtain ⟨z1, z2, z3⟩ := hT z' hzT
        refine Or.inr ⟨z1, z'.2.2.2.2, hts _ z2, ?_⟩
        rcases hN w hw z' hzT with h9 | h9
        · exact absurd (h9.trans e5) hE'
        · rw [e5] at h9
          exact hB.2.2.1.2 _ h9
      · refine Or.inl ?_
        show (decide (z'.1 ≤ pc) && decide (pc < z'.2.1)) = false
        by_cases h9 : z'.1 ≤ pc
        · have h8 : ¬ pc < z'.2.1 := fun q => hcov ⟨h9, q⟩
          simp [h8]
        · simp [h9]
    · show (decide (w.1 ≤ pc) && decide (pc < w.2.1)) = true
      simp [e3, e4]
    · have h9 := h q lsA H locs cells slots hlv hH2 hS2 hc hs
      subst e2
      exact h9
section J5
variable {G : jgG} {M : jgM} {pc : Nat} {ls : List (Option Value)} {st : List Value} {σ : jgS} {Φ : jgR → Prop}
theorem jq_stat5 {v1 v2 v3 v4 v5 : Value} {i : Nat} (I : jgI) {pre : List Value → jgS → Prop} {f : List Value → jgS → jgR} (hd : decode M.1 pc = .ok (.invokestatic i, 3)) (hp : jgfind M.2.1 i = some (jpC I (jsp pre f))) (h0 : I.1 = 1 ∨ I.1 = 4) (hn : I.2.2.2.2.2.2.1 = 5) : Jr G M pc ls (v5 :: v4 :: v3 :: v2 :: v1 :: st) σ Φ ↔ jcat st ≤ 8 ∧ pre [v1, v2, v3, v4, v5] σ ∧ jk G M pc ls st Φ (f [v1, v2, v3, v4, v5] σ) := by
  rw [jr_step hd]
  simp only [jgOp, hp, true_and, Option.some.injEq, Sum.inr.injEq, Sum.inl.injEq, Prod.mk.injEq]
  constructor
  · rintro ⟨I', S', ⟨rfl, rfl⟩, -, -, h4, h5⟩
    rw [hn] at h4 h5
    exact ⟨h4, jsp_ex.mp h5⟩
  · rintro ⟨h4, h5⟩
    refine ⟨I, _, ⟨rfl, rfl⟩, h0, by rw [hn]; simp, by rw [hn]; exact h4, ?_⟩
    rw [hn]
    exact jsp_ex.mpr h5
end J5
/-! what the wrappers answer -/
def kval : Option Value → Int32
  | some (.int v) => v
  | _ => 0
def kcode : List String → String → Nat
  | [], _ => 0
  | e :: l, E => if e = E then 1 else kcode l E + 1
theorem kcode_at : ∀ {ex : List String} {i : Nat} {E : String}, ex.Nodup → ex[i]? = some E → kcode ex E = i + 1
  | [], i, E, _, h => by simp at h
  | e :: l, 0, E, _, h => by
    have h' : e = E := by simpa using h
    exact if_pos h'
  | e :: l, i + 1, E, hn, h => by
    have h' : l[i]? = some E := by simpa using h
    have hne : ¬ e = E := fun q => (List.nodup_cons.mp hn).1 (by rw [q]; exact List.mem_of_getElem? h')
    show (if e = E then 1 else kcode l E + 1) = _
    rw [if_neg hne, kcode_at (List.nodup_cons.mp hn).2 h']
def kW (ex : List String) (o : Nat) (r : jgR) : jgR := match r.1 with
  | .inl v => (.inl (some (.int 0)), jwY r.2 o 0 (kval v).toInt64)
  | .inr E => (.inl (some (.int (nI (kcode ex E)))), r.2)
def kWp (G : jgG) (o : Nat) (ex : List String) (σ : jgS) (r : jgR) : Prop := ja G (jwt σ) o 9 1 ∧ kE6 σ r.2 ∧ ((∃ v, r.1 = .inl (some (.int v))) ∨ ∃ E ∈ ex, r.1 = .inr E)
theorem kE6_wt {σ τ : jgS} (h : kE6 σ τ) : jwt τ = jwt σ := by rcases h with h | h <;> (unfold jwt; rw [h]) <;> rfl
theorem kE6_le {σ τ : jgS} (h : kE6 σ τ) : jhs σ ≤ jhs τ ∧ jsl σ ≤ jsl τ := by
  rcases h with h | h
  · exact ⟨by unfold jhs; rw [h]; exact Nat.le_refl _, by unfold jsl; rw [h]; exact Nat.le_refl _⟩
  · exact ⟨by unfold jhs; rw [h]; exact Nat.le_succ _, by unfold jsl; rw [h]; exact Nat.le_add_right _ _⟩
theorem kW_le {G : jgG} {o : Nat} {ex : List String} {σ : jgS} {r : jgR} (h : kWp G o ex σ r) : jhs σ ≤ jhs (kW ex o r).2 ∧ jsl σ ≤ jsl (kW ex o r).2 := by
  obtain ⟨_, h2, _⟩ := h
  have h3 := kE6_le h2
  unfold kW
  split
  · exact h3
  · exact h3
theorem kW_v (ex : List String) (o : Nat) (r : jgR) : ∃ v, (kW ex o r).1 = .inl v := by
  unfold kW
  split
  · exact ⟨_, rfl⟩
  · exact ⟨_, rfl⟩
theorem kW_i {ex : List String} {o : Nat} {v : Int32} {τ : jgS} : kW ex o (.inl (some (.int v)), τ) = (.inl (some (.int 0)), jwY τ o 0 v.toInt64) := rfl
theorem kW_x {ex : List String} {o : Nat} {E : String} {τ : jgS} : kW ex o (.inr E, τ) = (.inl (some (.int (nI (kcode ex E)))), τ) := rfl
