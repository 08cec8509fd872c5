/-! a method's contract out of its run in the small machine -/
def jent : List Value → List (Option Value)
  | [] => []
  | v :: l => if v.category = 2 then some v :: none :: jent l else some v :: jent l
def jentry (As : List Value) (n : Nat) : List (Option Value) := jent As ++ List.replicate (n - (jent As).length) none
theorem jent_len (As : List Value) : (jent As).length = (lg_sl As).length := by
  induction As with
  | nil => rfl
  | cons v l ih =>
    have e : lg_sl (v :: l) = (if v.category = 2 then [Slot.val v, Slot.second] else [Slot.val v]) ++ lg_sl l := by simp [lg_sl]
    rw [e, List.length_append, ← ih]
    simp only [jent]
    split <;> simp <;> omega
theorem jpairs_none (k n : Nat) : jpairs k (List.replicate n none) = [] := by
  induction n generalizing k with
  | zero => rfl
  | succ n ih => exact ih (k + 1)
theorem jent_args : ∀ (As : List Value) (k n : Nat), jpairs k (jent As ++ List.replicate n none) = lv_args k As
  | [], k, n => jpairs_none k n
  | v :: l, k, n => by
    unfold jent lv_args
    split
    · rename_i h
      show (k, v) :: jpairs (k + 1 + 1) (jent l ++ List.replicate n none) = _
      rw [jent_args l]
    · rename_i h
      show (k, v) :: jpairs (k + 1) (jent l ++ List.replicate n none) = _
      rw [jent_args l]
theorem jentry_lv {As : List Value} {n : Nat} (h : (jent As).length ≤ n) : jlv ((lg_sl As ++ List.replicate (n - (lg_sl As).length) Slot.unset).toArray) n (jentry As n) := by
  refine ⟨?_, ?_⟩
  · unfold jentry
    rw [List.length_append, List.length_replicate]
    omega
  · unfold jentry
    rw [jent_args]
    exact lv_entry As (by rw [← jent_len]; exact h)
/-- the names of the exceptions' own superclasses -/
def jxn : List String := ["java/lang/RuntimeException", "java/lang/Exception"]
/-- a place at which a method of SkipRows makes and throws an exception -/
def jXok (M : jgM) (q : Nat × String) : Prop := ∃ (ik is ic : Nat) (text : String), (is, text) ∈ jstrs ∧ Bundle.fit q.2 = true ∧ (Cond.classLink RX6 ik q.2 ∈ lw_A ∧ Cond.initialized q.2 ∈ lw_A ∧ ∀ w ∈ vx_atS RX6 ic q.2 jxn, w ∈ lw_A) ∧
  ((decode M.1 q.1 = .ok (.new ik, 3) ∧ decode M.1 (q.1 + 3) = .ok (.dup, 1) ∧ decode M.1 (q.1 + 4) = .ok (.ldc is, 2) ∧ decode M.1 (q.1 + 6) = .ok (.invokespecial ic, 3) ∧ decode M.1 (q.1 + 9) = .ok (.athrow, 1)) ∨
   (decode M.1 q.1 = .ok (.new ik, 3) ∧ decode M.1 (q.1 + 3) = .ok (.dup, 1) ∧ decode M.1 (q.1 + 4) = .ok (.ldc_w is, 3) ∧ decode M.1 (q.1 + 7) = .ok (.invokespecial ic, 3) ∧ decode M.1 (q.1 + 10) = .ok (.athrow, 1)))
theorem jgx_mem : ∀ {ex : List (Nat × String)} {i : Nat} {E : String}, jgx ex i = some E → (i, E) ∈ ex
  | q :: l, i, x, h => by
    unfold jgx at h
    split at h
    · rename_i hq
      cases h
      rw [← hq]
      exact List.mem_cons_self
    · exact List.mem_cons_of_mem _ (jgx_mem h)
theorem lw_A_face {w : Cond} (h : w ∈ lw_A) : jface w = true := (List.mem_filter.mp h).2
theorem jA_use {D : va_G} {cy : Nat → ClassId} {G : jgG} {s : State} (hB : jB D cy G s) {w : Cond} (h : w ∈ lw_A) (a : Array Value) : w.before a s = true := by
  have h1 := lw_A_face h
  simp only [jface, Bool.and_eq_true] at h1
  exact va_Nw.use h1.1 (hB.2.1 w h)
theorem jA_ot {w : Cond} (h : w ∈ lw_A) : vx_ot w = true := by
  have h1 := lw_A_face h
  simp only [jface, Bool.and_eq_true] at h1
  simp [vx_ot, h1.1]
section JT
variable {p : Program} {l : Launch} {e : Env} {R : Room} {s : State} {m : MethodId} {args : Array Value} {below : List Frame} {meth : Method} {c : Code} {G : jgG} {M : jgM} {D : va_G} {cy : Nat → ClassId} {own : String} {nL hs0 sl0 : Nat}
theorem js_throw {pc : Nat} {ls : List (Option Value)} {st : List Value} {σ : jgS} {E : String} {r : jgR} {mc ms : Nat} (C : jCx p s m args c M D cy G RX6 nL hs0) (hl : l.stackTraces = false) (hx : jXok M (pc, E)) (hcat : jcat st ≤ 8) (htab : ∀ x ∈ c.exceptionTable.toList, False) (hlocks : meth.locks = false) (hR1 : 6 ≤ R.frames) (hR2 : 90 ≤ R.locals) (hr : r = (.inr E, jwh σ 6)) (hcells : R.cells = mc) (hslots : R.slots = ms) (hmc : jhs σ + 1 ≤ hs0 + mc) (hms : jsl σ + 6 ≤ sl0 + ms) :
    jGo p l e R s m args below meth c (vx_MQ below (jPost D cy G r) (jX D cy G r) args s mc ms (jA G)) G D cy nL hs0 sl0 pc ls st σ := by
  subst hr
  intro lsA H locs cells slots hv hH hS hc hs
  obtain ⟨hx0, hb, hml, hown, hts, hB, h0⟩ := C
  obtain ⟨ik, is, ic, text, t1, t2, ⟨t3, t4, t5⟩, t6⟩ := hx
  obtain ⟨sa, hstr⟩ := hB.2.2.2.2.2.2.2.1 _ t1
  obtain ⟨z1, z2⟩ := hB.2.2.2.2.1
  have hnames : ∀ n ∈ jxn, Bundle.fit n = true := by decide +kernel
  have hat : ∀ w ∈ vx_atS RX6 ic E jxn, w.before args s = true := fun w hw => jA_use hB (t5 w hw) args
  have hgood : ∀ w ∈ Cond.classLink RX6 ik E :: Cond.initialized E :: vx_atS RX6 ic E jxn, vx_ot w = true := by
    intro w hw
    rcases List.mem_cons.mp hw with rfl | hw
    · exact jA_ot t3
    · rcases List.mem_cons.mp hw with rfl | hw
      · exact jA_ot t4
      · exact jA_ot (t5 w hw)
  have hxc : ∀ t : State, s.vm.Alike t.vm → H.size ≤ t.heap.size → (∀ q : Nat, q < H.size → t.heap[q]? = H[q]?) → jX D cy G (.inr E, jwh σ 6) E s t := by
    intro t _ g1 g2
    obtain ⟨a1, a2, a3⟩ := hH
    refine ⟨rfl, ⟨fun k q hk => (a1 k q hk).kept (g2 q.1 (a1 k q hk).lt), a2, Nat.le_trans a3 g1⟩, Nat.le_trans hS.1 g1, fun q h1 h2 => (g2 q (Nat.lt_of_lt_of_le h1 hS.1)).trans (hS.2.1 q h1 h2)⟩
  have hcat : (st.map fun v => v.category).sum ≤ 8 := hcat
  have hn : jxn.length = 2 := rfl
  rcases t6 with ⟨d0, d3, d4, d6, d9⟩ | ⟨d0, d3, d4, d6, d9⟩
  · exact vx_throwS hx0 hb hl hown t2 hnames (jA_use hB t3 args) (jA_use hB t4 args) hstr hat hgood z1 z2 hS (by rw [hml]; exact hv.2.1) d0 d3 d4 d6 d9 (fun x hx => (htab x hx).elim) (by omega) (by omega) (by omega) (by omega) hlocks hxc hS.2.2 (by omega) (by omega)
  · exact vx_throwSW hx0 hb hl hown t2 hnames (jA_use hB t3 args) (jA_use hB t4 args) hstr hat hgood z1 z2 hS (by rw [hml]; exact hv.2.1) d0 d3 d4 d6 d9 (fun x hx => (htab x hx).elim) (by omega) (by omega) (by omega) (by omega) hlocks hxc hS.2.2 (by omega) (by omega)
theorem js_return {pc : Nat} {ls : List (Option Value)} {σ : jgS} {v : Option Value} {mc ms : Nat} (C : jCx p s m args c M D cy G own nL hs0) (hok : jretok M pc v) (hr : meth.sig.returnType = M.2.2.2.2.1) (hlocks : meth.locks = false) (hmc : jhs σ ≤ hs0 + mc) (hms : jsl σ ≤ sl0 + ms) :
    jGo p l e R s m args below meth c (vx_MQ below (jPost D cy G (.inl v, σ)) (jX D cy G (.inl v, σ)) args s mc ms (jA G)) G D cy nL hs0 sl0 pc ls v.toList σ := by
  intro lsA H locs cells slots hv hH hS hc hs
  obtain ⟨hx, hb, hml, hown, hts, hB, h0⟩ := C
  refine W.widen (k := mc) (n := ms) (by omega) (by omega) (vx_ret ?_)
  have hq : ∀ t : State, t.heap = H → s.WarmedH t.vm → jPost D cy G (.inl v, σ) args s (.returned v) t := fun t ht _ => ⟨v, rfl, rfl, by rw [ht]; exact hH, hS.F ht⟩
  rcases hok with ⟨x, ty, rfl, h1, h2, h3⟩ | ⟨x, rfl, h1, h3⟩ | ⟨x, rfl, h1, h3⟩ | ⟨rfl, h1, h3⟩
  · exact W.zret (v := x) hx hb (hr.trans h1) h2 hq hS.2.2 h3
  · exact W.lret hx hb (hr.trans h1) hq hS.2.2 h3
  · exact W.dret hx hb (hr.trans h1) hq hS.2.2 h3
  · exact W.vret hx hb (hr.trans h1) hq hS.2.2 h3
end JT
/-- a plain method's contract: its body, run in the small machine, comes to every end that its specification allows -/
theorem jr_met {l : Launch} (hl : l.stackTraces = false) {D : va_G} {cy : Nat → ClassId} {G : jgG} (M : jgM) (I : jgI) (S : jgSpec) (own : String) (hown : own = I.2.2.1.cls) (hy : plainName I.2.2.1.cls = true) (hbytes : M.1 = I.2.2.2.1) (hret : M.2.2.2.2.1 = I.2.2.2.2.2.1) (hhh : I.2.2.2.2.2.2.2.2.2 = []) (hM : M.2.2.2.1 = []) (hinit : M.2.2.2.2.2 = true → I.2.2.1.name = "<init>")
    (hwI : Cond.arrayClass .int ∈ lw_W)
    (hpo : ∀ (R : Room), R.frames = I.2.2.2.2.2.2.2.1 → R.locals = I.2.2.2.2.2.2.2.2.1 → ∀ q ∈ M.2.1, jPok l D cy G own R M.2.2.2.2.2 q)
    (hex : M.2.2.1 ≠ [] → own = RX6 ∧ 6 ≤ I.2.2.2.2.2.2.2.1 ∧ 90 ≤ I.2.2.2.2.2.2.2.2.1) (hXok : ∀ q ∈ M.2.2.1, jXok M q)
    (hS : ∀ (As : List Value) (σ : jgS) (r : jgR), S As σ r → jhs σ ≤ jhs r.2 ∧ jsl σ ≤ jsl r.2 ∧ (jent As).length ≤ I.2.2.2.2.1 ∧ Jr G M 0 (jentry As I.2.2.2.2.1) [] σ (fun r' => r' = r)) : jMet l D cy G I S := by
  intro As σ r hr
  obtain ⟨m1, m2, m3, hJ⟩ := hS As σ r hr
  refine ⟨m1, m2, ?_⟩
  refine vx_ofW (cc := I.2.2.2.1) (maxL := I.2.2.2.2.1) (ret := I.2.2.2.2.2.1) hy (jwsPlain hhh) ?_
  intro p e s m args below meth c s₁ B hml htab hv
  obtain ⟨rfl, hB, hH, hHb⟩ := hv
  have hts0 := atoms_spec (ws := jws I) B.pre
  have hts : ∀ w ∈ lw_W, w.before As.toArray s = true := fun w h => hts0 w (List.mem_cons_of_mem _ h)
  have hfc : s.vm.findClass own = some m.cls := by rw [hown]; exact findClass_of_methodNamed B.named
  have C : jCx p s m As.toArray c M D cy G own I.2.2.2.2.1 (jhs σ) := ⟨B.exec, B.bytes.trans hbytes.symm, hml, hfc, hts, hB, hHb⟩
  have hlocks := B.notSynchronized
  have hrt : meth.sig.returnType = M.2.2.2.2.1 := B.returns.trans hret.symm
  rw [lg_entry_eq]
  refine jr_sound (l := l) (own := own) (M := M) (nL := I.2.2.2.2.1) (hs0 := jhs σ) (sl0 := jsl σ) (Φ := fun r' => r' = r) C (hpo _ rfl rfl) hwI (fun h => ?_) (fun r' h => ?_) (fun pc ls σ' _ v h hok => ?_) (fun pc E ls st σ' hE h hcat => ?_) (fun pc ls rest E σ' hE h => ?_) (fun pc t ls rest E σ' hE h => ?_) hJ _ s.heap [] 0 0 (jentry_lv m3) hH va_S.rf (Nat.add_zero _).symm (Nat.add_zero _).symm
  · exact (name_of_methodNamed B.named B.method).1.trans (hinit h)
  · subst h
    show jhs r'.2 ≤ jhs σ + (jhs r'.2 - jhs σ) ∧ jsl r'.2 ≤ jsl σ + (jsl r'.2 - jsl σ)
    omega
  · subst h
    exact js_return C hok hrt hlocks (by show jhs σ' ≤ jhs σ + (jhs σ' - jhs σ); omega) (by show jsl σ' ≤ jsl σ + (jsl σ' - jsl σ); omega)
  · have hne : M.2.2.1 ≠ [] := fun q => by rw [q] at hE; cases hE
    obtain ⟨e1, e2, e3⟩ := hex hne
    subst h
    rw [e1] at C
    exact js_throw C hl (hXok _ (jgx_mem hE)) hcat htab hlocks e2 e3 rfl rfl rfl (by have : jhs (jwh σ' 6) = jhs σ' + 1 := rfl; dsimp only; omega) (by have : jsl (jwh σ' 6) = jsl σ' + 6 := rfl; dsimp only; omega)
  · subst h
    intro lsA H locs cells slots q ce hv2 hH2 hS2 hc hs hce hcv hcl
    exact vx_out (fun x hx => (htab x hx).elim) hlocks hce hcv hcl (fun t ht _ => ⟨rfl, by rw [ht]; exact hH2, hS2.F ht⟩) hS2.2.2 (by dsimp only; omega) (by dsimp only; omega)
  · rw [hM] at hE
    cases hE
