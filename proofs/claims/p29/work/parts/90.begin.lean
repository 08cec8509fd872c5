/-! the start of the law -/
/-- the kinds of the cells that the law makes, by their places -/
def wkT (j : Nat) : Nat × Nat := if j = 0 then (5, 0) else if j = 1 then (10, 24) else if j = 2 then (11, 4) else if j = 3 then (8, 4) else if j < 28 then (4, 0) else (3, 0)
def wkJ (j : Nat) : Nat × Nat := if j = 0 then (6, 0) else if j < 33 then wkT (j - 1) else if j = 33 then (1, 0) else if j = 34 then (12, 6) else if j < 227 then wkT ((j - 35) % 32) else if j = 227 then (0, 0) else if j = 228 then (8, 60) else if j < 232 then (8, 20) else if j = 232 then (2, 0) else if j = 233 then (8, 25) else if j = 234 then (8, 63) else if j = 235 then (8, 25) else if j = 236 then (8, 63) else (8, 3)
def wkK (x a : Nat) : Nat × Nat := wkJ (a - x)
theorem wkK_at (x j : Nat) : wkK x (x + j) = wkJ j := by unfold wkK; rw [Nat.add_sub_cancel_left]
def wly (j : Nat) : Prop := (wkJ j).1 = 5 ∧ wkJ (j + 1) = (10, 24) ∧ wkJ (j + 2) = (11, 4) ∧ wkJ (j + 3) = (8, 4) ∧ (∀ i, i < 24 → (wkJ (j + 4 + i)).1 = 4) ∧ ∀ r, r < 4 → (wkJ (j + 28 + r)).1 = 3
theorem wly_0 : (wkJ 1).1 = 5 ∧ wkJ (1 + 1) = (10, 24) ∧ wkJ (1 + 2) = (11, 4) ∧ wkJ (1 + 3) = (8, 4) ∧ (∀ i, i < 24 → (wkJ (1 + 4 + i)).1 = 4) ∧ ∀ r, r < 4 → (wkJ (1 + 28 + r)).1 = 3 := by decide +kernel
theorem wly_s : ∀ q, q < 6 → (wkJ (35 + 32 * q)).1 = 5 ∧ wkJ (35 + 32 * q + 1) = (10, 24) ∧ wkJ (35 + 32 * q + 2) = (11, 4) ∧ wkJ (35 + 32 * q + 3) = (8, 4) ∧ (∀ i, i < 24 → (wkJ (35 + 32 * q + 4 + i)).1 = 4) ∧ ∀ r, r < 4 → (wkJ (35 + 32 * q + 28 + r)).1 = 3 := by decide +kernel
theorem wly_jLy {G : jgG} {x j h : Nat} (hG : G.2.2.2.1 = wkK x) (hh : h = x + j) (hw : wly j) : jLy G h := by
  subst hh
  obtain ⟨h0, h1, h2, h3, h4, h5⟩ := hw
  unfold jLy
  rw [hG]
  exact ⟨by rw [wkK_at]; exact h0, by rw [Nat.add_assoc, wkK_at]; exact h1, by rw [Nat.add_assoc, wkK_at]; exact h2, by rw [Nat.add_assoc, wkK_at]; exact h3, fun i hi => by rw [show x + j + 4 + i = x + (j + 4 + i) by omega, wkK_at]; exact h4 i hi, fun r hr => by rw [show x + j + 28 + r = x + (j + 28 + r) by omega, wkK_at]; exact h5 r hr⟩
theorem wk_Lx {G : jgG} {x : Nat} (hG : G.2.2.2.1 = wkK x) : jLx G x ∧ (G.2.2.2.1 (x + 233) = (8, 25) ∧ G.2.2.2.1 (x + 234) = (8, 63) ∧ G.2.2.2.1 (x + 235) = (8, 25) ∧ G.2.2.2.1 (x + 236) = (8, 63) ∧ G.2.2.2.1 (x + 237) = (8, 3)) := by
  have e : ∀ j, G.2.2.2.1 (x + j) = wkJ j := fun j => by rw [hG, wkK_at]
  refine ⟨⟨by have := e 0; rw [Nat.add_zero] at this; rw [this]; rfl, wly_jLy hG rfl wly_0, by rw [e]; rfl, by rw [e]; rfl, fun i hi => wly_jLy hG (j := 35 + 32 * i) (by omega) (wly_s i hi), by rw [e]; rfl, by rw [e]; rfl, by rw [e]; rfl, by rw [e]; rfl, by rw [e]; rfl, by rw [e]; rfl⟩, by rw [e]; rfl, by rw [e]; rfl, by rw [e]; rfl, by rw [e]; rfl, by rw [e]; rfl⟩
theorem wk_len {args : Array Value} {s : State} {t : Term} {v : Value} {a : Nat} {cell : Cell} (hv : (Term.length t).eval args s none [] s = some v) (ht : t.eval args s none [] s = some (.ref a)) (hat : s.arrayAt? a = some cell) : cell.slots.size < 2 ^ 31 := by
  simp only [Term.eval, ht, hat, Option.bind_eq_bind, Option.bind_some] at hv
  by_cases hlt : cell.slots.size < 2147483648
  · exact hlt
  · simp [hlt] at hv
/-- a static row of four ints -/
theorem wk_row {args : Array Value} {s : State} {n : String} {f : Nat → Int32} (harr : (Cond.arrayOf (.static RX6 n "[I") .int).before args s = true) (hlen : (Cond.eq (.length (.static RX6 n "[I")) (.int 4)).before args s = true) (h0 : (Cond.eq (.elem (.static RX6 n "[I") (.int 0)) (.int (f 0))).before args s = true) (h1 : (Cond.eq (.elem (.static RX6 n "[I") (.int 1)) (.int (f 1))).before args s = true) (h2 : (Cond.eq (.elem (.static RX6 n "[I") (.int 2)) (.int (f 2))).before args s = true) (h3 : (Cond.eq (.elem (.static RX6 n "[I") (.int 3)) (.int (f 3))).before args s = true) : ∃ t : Nat, (Term.static RX6 n "[I").eval args s none [] s = some (.ref t) ∧ t < s.heap.size ∧ ∃ cell : Cell, s.heap[t]? = some cell ∧ s.isArrayOf cell .int ∧ cell.vm ≠ .unknown ∧ cell.slots.size = 4 ∧ ∀ j : Nat, j < 4 → cell.slots[j]? = some (.int (f j)) := by
  obtain ⟨t, ht, cell, c1, c2, c3, c4, c5, c6, -⟩ := va_Tof (N := 4) (f := fun j => .int (f j)) (A := fun q => s.heap.size ≤ q) (by decide) harr (va_eqt hlen) (fun j hj => by
    have hj4 : j = 0 ∨ j = 1 ∨ j = 2 ∨ j = 3 := by omega
    rcases hj4 with rfl | rfl | rfl | rfl
    · exact va_eqt h0
    · exact va_eqt h1
    · exact va_eqt h2
    · exact va_eqt h3) (fun a ha => Nat.not_le.mpr ha)
  have hv := va_eqt hlen
  obtain ⟨t2, cell2, ht2, hat, -⟩ := Term.length_spec hv
  cases ht.symm.trans ht2
  obtain ⟨hc2, -⟩ := State.arrayAt?_spec hat
  cases c1.symm.trans hc2
  exact ⟨t, ht, (Array.getElem?_eq_some_iff.mp c1).1, cell, c1, c2, c3, nI_inj (wk_len hv ht hat) (by decide) c5, c6⟩
theorem wk_arrI {s : State} {args : Array Value} {ty : FieldType} (h : (Cond.arrayClass ty).before args s = true) : ∃ c : ClassId, ArrOfT s c ty ∧ s.vm.findClass ("[" ++ ty.toString) = some c := by
  obtain ⟨c, k, comp, h1, h2, h3⟩ := Cond.arrayClass_spec h
  exact ⟨c, fun n z => ⟨fun k h => (by cases h), k, h2, comp, h3⟩, h1⟩
theorem wk_arrO {s : State} {args : Array Value} {C : String} (h : (Cond.arrayOver (.object C)).before args s = true) : ∃ c : ClassId, ArrOfT s c (.object C) ∧ va_RA s c (.object C) := by
  obtain ⟨comp, c, k, h1, h2, h3, h4, h5⟩ := Cond.arrayOver_spec h
  exact ⟨c, fun n z => ⟨fun k h => (by cases h), k, h3, comp, h4⟩, k, comp, h3, h4, h1, h5⟩
theorem wk_nest : ∀ q ∈ jnest, Cond.methodLinkNest q.1 q.2.1 q.2.2 RX6 ∈ lw_tbl := List.forall_mem_cons.mpr ⟨List.mem_of_getElem? (i := 43) (by decide +kernel), List.forall_mem_cons.mpr ⟨List.mem_of_getElem? (i := 95) (by decide +kernel), List.forall_mem_cons.mpr ⟨List.mem_of_getElem? (i := 175) (by decide +kernel), List.forall_mem_cons.mpr ⟨List.mem_of_getElem? (i := 200) (by decide +kernel), fun _ h => nomatch h⟩⟩⟩⟩
theorem wk_strs : ∀ q ∈ jstrs, Cond.stringRef RX6 q.1 q.2 ∈ lw_tbl ∧ Cond.exactly (.string RX6 q.1) "java/lang/String" ∈ flatC (Jvm.Cond.and given_1 narrow_1) := List.forall_mem_cons.mpr ⟨⟨List.mem_of_getElem? (i := 352) (by decide +kernel), by decide +kernel⟩, List.forall_mem_cons.mpr ⟨⟨List.mem_of_getElem? (i := 515) (by decide +kernel), by decide +kernel⟩, List.forall_mem_cons.mpr ⟨⟨List.mem_of_getElem? (i := 366) (by decide +kernel), by decide +kernel⟩, List.forall_mem_cons.mpr ⟨⟨List.mem_of_getElem? (i := 494) (by decide +kernel), by decide +kernel⟩, List.forall_mem_cons.mpr ⟨⟨List.mem_of_getElem? (i := 546) (by decide +kernel), by decide +kernel⟩, List.forall_mem_cons.mpr ⟨⟨List.mem_of_getElem? (i := 537) (by decide +kernel), by decide +kernel⟩, List.forall_mem_cons.mpr ⟨⟨List.mem_of_getElem? (i := 309) (by decide +kernel), by decide +kernel⟩, List.forall_mem_cons.mpr ⟨⟨List.mem_of_getElem? (i := 521) (by decide +kernel), by decide +kernel⟩, List.forall_mem_cons.mpr ⟨⟨List.mem_of_getElem? (i := 449) (by decide +kernel), by decide +kernel⟩, fun _ h => nomatch h⟩⟩⟩⟩⟩⟩⟩⟩⟩
theorem wk_nc : ∀ q ∈ jxnc, Cond.not (.castable q.1 q.2) ∈ flatC (Jvm.Cond.and given_1 narrow_1) := List.forall_mem_cons.mpr ⟨by decide +kernel, List.forall_mem_cons.mpr ⟨by decide +kernel, List.forall_mem_cons.mpr ⟨by decide +kernel, List.forall_mem_cons.mpr ⟨by decide +kernel, List.forall_mem_cons.mpr ⟨by decide +kernel, List.forall_mem_cons.mpr ⟨by decide +kernel, fun _ h => nomatch h⟩⟩⟩⟩⟩⟩
theorem wk_aR : Cond.arrayOver (.object RX4) ∈ lw_tbl := List.mem_of_getElem? (i := 39) (by decide +kernel)
theorem wk_aD : Cond.arrayOver (.object RX3) ∈ lw_tbl := List.mem_of_getElem? (i := 41) (by decide +kernel)
theorem wk_aT : Cond.arrayOver (.object RX5) ∈ lw_tbl := List.mem_of_getElem? (i := 160) (by decide +kernel)
theorem wk_lU : Cond.laysStatic Bundle.tN "UNASSIGNED_STACK" Bundle.steD ∈ lw_tbl := List.mem_of_getElem? (i := 295) (by decide +kernel)
theorem wk_lS : Cond.laysStatic Bundle.tN "SUPPRESSED_SENTINEL" Bundle.listD ∈ lw_tbl := List.mem_of_getElem? (i := 297) (by decide +kernel)
theorem wk_iT : Cond.initialized Bundle.tN ∈ lw_tbl := List.mem_of_getElem? (i := 17) (by decide +kernel)
theorem wk_i6 : Cond.initialized RX6 ∈ lw_tbl := List.mem_of_getElem? (i := 10) (by decide +kernel)
theorem wk_lL : Cond.laysStatic RX6 "LEAST_VALUES" "[I" ∈ lw_tbl := List.mem_of_getElem? (i := 337) (by decide +kernel)
theorem wk_lG : Cond.laysStatic RX6 "GREATEST_VALUES" "[I" ∈ lw_tbl := List.mem_of_getElem? (i := 339) (by decide +kernel)
theorem wk_K {s : State} {args : Array Value} (hts : ∀ w ∈ lw_tbl, w.before args s = true) : ∃ (D : va_G) (cy : Nat → ClassId), va_K D vwCl (jtys cy) s := by
  have htw : ∀ w ∈ lw_W, w.before args s = true := fun w h => hts w (List.mem_filter.mp h).1
  obtain ⟨c0, i0, h0⟩ := u_known (C := RX0) (T := TX0) (N := 7) htw jcls0.1 (hts _ (show Cond.instantiable RX0 7 ∈ lw_tbl from List.mem_of_getElem? (i := 174) (by decide +kernel)))
  obtain ⟨c1, i1, h1⟩ := u_known (C := RX1) (T := TX1) (N := 3) htw jcls1.1 (hts _ (show Cond.instantiable RX1 3 ∈ lw_tbl from List.mem_of_getElem? (i := 154) (by decide +kernel)))
  obtain ⟨c2, i2, h2⟩ := u_known (C := RX2) (T := TX2) (N := 5) htw jcls2.1 (hts _ (show Cond.instantiable RX2 5 ∈ lw_tbl from List.mem_of_getElem? (i := 199) (by decide +kernel)))
  obtain ⟨c3, i3, h3⟩ := u_known (C := RX3) (T := TX3) (N := 4) htw jcls3.1 (hts _ (show Cond.instantiable RX3 4 ∈ lw_tbl from List.mem_of_getElem? (i := 94) (by decide +kernel)))
  obtain ⟨c4, i4, h4⟩ := u_known (C := RX4) (T := TX4) (N := 9) htw jcls4.1 (hts _ (show Cond.instantiable RX4 9 ∈ lw_tbl from List.mem_of_getElem? (i := 42) (by decide +kernel)))
  obtain ⟨c5, i5, h5⟩ := u_known (C := RX5) (T := TX5) (N := 8) htw jcls5.1 (hts _ (show Cond.instantiable RX5 8 ∈ lw_tbl from List.mem_of_getElem? (i := 33) (by decide +kernel)))
  obtain ⟨c6, i6, h6⟩ := u_known (C := RX6) (T := TX6) (N := 4) htw jcls6.1 (hts _ (show Cond.instantiable RX6 4 ∈ lw_tbl from List.mem_of_getElem? (i := 25) (by decide +kernel)))
  obtain ⟨aI, bI, dI⟩ := wk_arrI (htw _ jmAI)
  obtain ⟨aR, bR, dR⟩ := wk_arrO (hts _ wk_aR)
  obtain ⟨aD, bD, dD⟩ := wk_arrO (hts _ wk_aD)
  obtain ⟨aT, bT, dT⟩ := wk_arrO (hts _ wk_aT)
  refine ⟨(fun k => if k = 0 then c0 else if k = 1 then c1 else if k = 2 then c2 else if k = 3 then c3 else if k = 4 then c4 else if k = 5 then c5 else c6, fun k => if k = 0 then i0 else if k = 1 then i1 else if k = 2 then i2 else if k = 3 then i3 else if k = 4 then i4 else if k = 5 then i5 else i6), fun k => if k = 0 then aI else if k = 1 then aR else if k = 2 then aD else aT, fun k q hq => ?_, fun k q hq => ?_⟩
  · match k, hq with
    | 0, hq => cases hq; exact h0
    | 1, hq => cases hq; exact h1
    | 2, hq => cases hq; exact h2
    | 3, hq => cases hq; exact h3
    | 4, hq => cases hq; exact h4
    | 5, hq => cases hq; exact h5
    | 6, hq => cases hq; exact h6
    | k + 7, hq => cases hq
  · match k, hq with
    | 0, hq => cases hq; exact ⟨bI, dI⟩
    | 1, hq => cases hq; exact ⟨bR, dR⟩
    | 2, hq => cases hq; exact ⟨bD, dD⟩
    | 3, hq => cases hq; exact ⟨bT, dT⟩
    | k + 4, hq => cases hq
