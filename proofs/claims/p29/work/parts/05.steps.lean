/-! the steps -/
section JS
variable {p : Program} {l : Launch} {e : Env} {R : Room} {s : State} {m : MethodId} {args : Array Value} {below : List Frame} {meth : Method} {c : Code} {Q : State → Prop} {G : jgG} {M : jgM} {D : va_G} {cy : Nat → ClassId} {own : String} {nL hs0 sl0 : Nat}
variable {pc : Nat} {ls : List (Option Value)} {st rest : List Value} {σ : jgS}
/-- from this place and state of the small machine, the machine comes to Q -/
def jGo (p : Program) (l : Launch) (e : Env) (R : Room) (s : State) (m : MethodId) (args : Array Value) (below : List Frame) (meth : Method) (c : Code) (Q : State → Prop) (G : jgG) (D : va_G) (cy : Nat → ClassId) (nL hs0 sl0 : Nat) (pc : Nat) (ls : List (Option Value)) (st : List Value) (σ : jgS) : Prop :=
  ∀ (lsA : Array Slot) (H : Heap) (locs : List Loc) (cells slots : Nat), jlv lsA nL ls → jH D cy G σ H → va_S (jA G) s.heap H locs → jhs σ = hs0 + cells → jsl σ = sl0 + slots → W p l e R s m args below meth c H locs cells slots Q (F0 m pc lsA st)
/-- what a frame knows throughout -/
def jCx (p : Program) (s : State) (m : MethodId) (args : Array Value) (c : Code) (M : jgM) (D : va_G) (cy : Nat → ClassId) (G : jgG) (own : String) (nL hs0 : Nat) : Prop :=
  p.tables.exec = Jvm.exec ∧ c.code = M.1 ∧ c.maxLocals = nL ∧ s.vm.findClass own = some m.cls ∧ (∀ w ∈ lw_W, w.before args s = true) ∧ jB D cy G s ∧ s.heap.size ≤ hs0
/-- the heap is no larger than the state says -/
theorem js_bound {H : Heap} {locs : List Loc} {cells slots : Nat} {g : JFrame} (h0 : s.heap.size ≤ hs0) (hc : jhs σ = hs0 + cells) (k : H.size ≤ jhs σ → W p l e R s m args below meth c H locs cells slots Q g) : W p l e R s m args below meth c H locs cells slots Q g := by
  intro T hT X
  have h := X.heapSize
  rw [hT] at h
  exact k (by omega) T hT X
theorem js_put {σ' : jgS} {H H1 : Heap} {locs locs1 : List Loc} {cells slots : Nat} {g : JFrame} (hH : jH D cy G σ H) (hS : va_S (jA G) s.heap H locs) (hS1 : va_S (jA G) H H1 locs1) (hP : va_P D vwCl (jW cy G σ') H1) (h2 : jwt σ' = jwt σ)
    (k : jH D cy G σ' H1 → va_S (jA G) s.heap H1 locs1 → W p l e R s m args below meth c H1 locs1 cells slots Q g) : W p l e R s m args below meth c H1 locs1 cells slots Q g :=
  k ⟨hP, by rw [h2]; exact hH.2.1, by rw [h2]; exact Nat.le_trans hH.2.2 hS1.1⟩ ⟨Nat.le_trans hS.1 hS1.1, fun q b1 b2 => (hS1.2.1 q (Nat.lt_of_lt_of_le b1 hS.1) b2).trans (hS.2.1 q b1 b2), hS1.2.2⟩
theorem js_self {H : Heap} {locs : List Loc} (hS : va_S (jA G) s.heap H locs) : va_S (jA G) H H locs := ⟨Nat.le_refl _, fun _ _ _ => rfl, hS.2.2⟩
theorem js_aload_n {i : Fin 4} {a : Nat} (C : jCx p s m args c M D cy G own nL hs0) (hd : decode M.1 pc = .ok (.aload_n i, 1)) (hl : jgl ls i = some (.ref a)) (k : jGo p l e R s m args below meth c Q G D cy nL hs0 sl0 (pc + 1) ls (.ref a :: st) σ) : jGo p l e R s m args below meth c Q G D cy nL hs0 sl0 pc ls st σ :=
  fun lsA H locs cells slots hv hH hS hc hs => lv_aload_n C.1 C.2.1 hd rfl (jlv_at hv hl) (k lsA H locs cells slots hv hH hS hc hs)
theorem js_aload {i a : Nat} (C : jCx p s m args c M D cy G own nL hs0) (hd : decode M.1 pc = .ok (.aload i, 2)) (hl : jgl ls i = some (.ref a)) (k : jGo p l e R s m args below meth c Q G D cy nL hs0 sl0 (pc + 2) ls (.ref a :: st) σ) : jGo p l e R s m args below meth c Q G D cy nL hs0 sl0 pc ls st σ :=
  fun lsA H locs cells slots hv hH hS hc hs => lv_aload C.1 C.2.1 hd (jlv_at hv hl) (k lsA H locs cells slots hv hH hS hc hs)
theorem js_iload_n {i : Fin 4} {x : Int32} (C : jCx p s m args c M D cy G own nL hs0) (hd : decode M.1 pc = .ok (.iload_n i, 1)) (hl : jgl ls i = some (.int x)) (k : jGo p l e R s m args below meth c Q G D cy nL hs0 sl0 (pc + 1) ls (.int x :: st) σ) : jGo p l e R s m args below meth c Q G D cy nL hs0 sl0 pc ls st σ :=
  fun lsA H locs cells slots hv hH hS hc hs => lv_iload_n C.1 C.2.1 hd rfl (jlv_at hv hl) (k lsA H locs cells slots hv hH hS hc hs)
theorem js_iload {i : Nat} {x : Int32} (C : jCx p s m args c M D cy G own nL hs0) (hd : decode M.1 pc = .ok (.iload i, 2)) (hl : jgl ls i = some (.int x)) (k : jGo p l e R s m args below meth c Q G D cy nL hs0 sl0 (pc + 2) ls (.int x :: st) σ) : jGo p l e R s m args below meth c Q G D cy nL hs0 sl0 pc ls st σ :=
  fun lsA H locs cells slots hv hH hS hc hs => lv_iload C.1 C.2.1 hd (jlv_at hv hl) (k lsA H locs cells slots hv hH hS hc hs)
theorem js_lload_n {i : Fin 4} {x : Int64} (C : jCx p s m args c M D cy G own nL hs0) (hd : decode M.1 pc = .ok (.lload_n i, 1)) (hl : jgl ls i = some (.long x)) (k : jGo p l e R s m args below meth c Q G D cy nL hs0 sl0 (pc + 1) ls (.long x :: st) σ) : jGo p l e R s m args below meth c Q G D cy nL hs0 sl0 pc ls st σ :=
  fun lsA H locs cells slots hv hH hS hc hs => lv_lload_n C.1 C.2.1 hd rfl (jlv_at hv hl) (k lsA H locs cells slots hv hH hS hc hs)
theorem js_lload {i : Nat} {x : Int64} (C : jCx p s m args c M D cy G own nL hs0) (hd : decode M.1 pc = .ok (.lload i, 2)) (hl : jgl ls i = some (.long x)) (k : jGo p l e R s m args below meth c Q G D cy nL hs0 sl0 (pc + 2) ls (.long x :: st) σ) : jGo p l e R s m args below meth c Q G D cy nL hs0 sl0 pc ls st σ :=
  fun lsA H locs cells slots hv hH hS hc hs => lv_lload C.1 C.2.1 hd (jlv_at hv hl) (k lsA H locs cells slots hv hH hS hc hs)
theorem js_dload_n {i : Fin 4} {x : UInt64} (C : jCx p s m args c M D cy G own nL hs0) (hd : decode M.1 pc = .ok (.dload_n i, 1)) (hl : jgl ls i = some (.double x)) (k : jGo p l e R s m args below meth c Q G D cy nL hs0 sl0 (pc + 1) ls (.double x :: st) σ) : jGo p l e R s m args below meth c Q G D cy nL hs0 sl0 pc ls st σ :=
  fun lsA H locs cells slots hv hH hS hc hs => lv_dload_n C.1 C.2.1 hd rfl (jlv_at hv hl) (k lsA H locs cells slots hv hH hS hc hs)
theorem js_dload {i : Nat} {x : UInt64} (C : jCx p s m args c M D cy G own nL hs0) (hd : decode M.1 pc = .ok (.dload i, 2)) (hl : jgl ls i = some (.double x)) (k : jGo p l e R s m args below meth c Q G D cy nL hs0 sl0 (pc + 2) ls (.double x :: st) σ) : jGo p l e R s m args below meth c Q G D cy nL hs0 sl0 pc ls st σ :=
  fun lsA H locs cells slots hv hH hS hc hs => lv_dload C.1 C.2.1 hd (jlv_at hv hl) (k lsA H locs cells slots hv hH hS hc hs)
theorem js_istore_n {i : Fin 4} {x : Int32} (C : jCx p s m args c M D cy G own nL hs0) (hd : decode M.1 pc = .ok (.istore_n i, 1)) (hi : (i : Nat) < ls.length) (hk : jgok ls i = true) (k : jGo p l e R s m args below meth c Q G D cy nL hs0 sl0 (pc + 1) (ls.set i (some (.int x))) rest σ) : jGo p l e R s m args below meth c Q G D cy nL hs0 sl0 pc ls (.int x :: rest) σ :=
  fun lsA H locs cells slots hv hH hS hc hs => lv_istore_n C.1 C.2.1 hd rfl hv.2 (by rw [← hv.1]; exact hi) rfl fun ls' hB => k ls' H locs cells slots (jlv_set1 hv hi hk hB) hH hS hc hs
theorem js_istore {i : Nat} {x : Int32} (C : jCx p s m args c M D cy G own nL hs0) (hd : decode M.1 pc = .ok (.istore i, 2)) (hi : i < ls.length) (hk : jgok ls i = true) (k : jGo p l e R s m args below meth c Q G D cy nL hs0 sl0 (pc + 2) (ls.set i (some (.int x))) rest σ) : jGo p l e R s m args below meth c Q G D cy nL hs0 sl0 pc ls (.int x :: rest) σ :=
  fun lsA H locs cells slots hv hH hS hc hs => lv_istore C.1 C.2.1 hd hv.2 (by rw [← hv.1]; exact hi) rfl fun ls' hB => k ls' H locs cells slots (jlv_set1 hv hi hk hB) hH hS hc hs
theorem js_astore_n {i : Fin 4} {x : Nat} (C : jCx p s m args c M D cy G own nL hs0) (hd : decode M.1 pc = .ok (.astore_n i, 1)) (hi : (i : Nat) < ls.length) (hk : jgok ls i = true) (k : jGo p l e R s m args below meth c Q G D cy nL hs0 sl0 (pc + 1) (ls.set i (some (.ref x))) rest σ) : jGo p l e R s m args below meth c Q G D cy nL hs0 sl0 pc ls (.ref x :: rest) σ :=
  fun lsA H locs cells slots hv hH hS hc hs => lv_astore_n C.1 C.2.1 hd rfl hv.2 (by rw [← hv.1]; exact hi) rfl fun ls' hB => k ls' H locs cells slots (jlv_set1 hv hi hk hB) hH hS hc hs
theorem js_astore {i : Nat} {x : Nat} (C : jCx p s m args c M D cy G own nL hs0) (hd : decode M.1 pc = .ok (.astore i, 2)) (hi : i < ls.length) (hk : jgok ls i = true) (k : jGo p l e R s m args below meth c Q G D cy nL hs0 sl0 (pc + 2) (ls.set i (some (.ref x))) rest σ) : jGo p l e R s m args below meth c Q G D cy nL hs0 sl0 pc ls (.ref x :: rest) σ :=
  fun lsA H locs cells slots hv hH hS hc hs => lv_astore C.1 C.2.1 hd hv.2 (by rw [← hv.1]; exact hi) rfl fun ls' hB => k ls' H locs cells slots (jlv_set1 hv hi hk hB) hH hS hc hs
theorem js_lstore_n {i : Fin 4} {x : Int64} (C : jCx p s m args c M D cy G own nL hs0) (hd : decode M.1 pc = .ok (.lstore_n i, 1)) (hi : (i : Nat) + 1 < ls.length) (hk : jgok ls i = true) (k : jGo p l e R s m args below meth c Q G D cy nL hs0 sl0 (pc + 1) ((ls.set i (some (.long x))).set (i + 1) none) rest σ) : jGo p l e R s m args below meth c Q G D cy nL hs0 sl0 pc ls (.long x :: rest) σ :=
  fun lsA H locs cells slots hv hH hS hc hs => lv_lstore_n C.1 C.2.1 hd rfl hv.2 (by rw [← hv.1]; exact hi) rfl fun ls' hB => k ls' H locs cells slots (jlv_set2 hv hi hk hB) hH hS hc hs
theorem js_lstore {i : Nat} {x : Int64} (C : jCx p s m args c M D cy G own nL hs0) (hd : decode M.1 pc = .ok (.lstore i, 2)) (hi : i + 1 < ls.length) (hk : jgok ls i = true) (k : jGo p l e R s m args below meth c Q G D cy nL hs0 sl0 (pc + 2) ((ls.set i (some (.long x))).set (i + 1) none) rest σ) : jGo p l e R s m args below meth c Q G D cy nL hs0 sl0 pc ls (.long x :: rest) σ :=
  fun lsA H locs cells slots hv hH hS hc hs => lv_lstore C.1 C.2.1 hd hv.2 (by rw [← hv.1]; exact hi) rfl fun ls' hB => k ls' H locs cells slots (jlv_set2 hv hi hk hB) hH hS hc hs
theorem js_dstore_n {i : Fin 4} {x : UInt64} (C : jCx p s m args c M D cy G own nL hs0) (hd : decode M.1 pc = .ok (.dstore_n i, 1)) (hi : (i : Nat) + 1 < ls.length) (hk : jgok ls i = true) (k : jGo p l e R s m args below meth c Q G D cy nL hs0 sl0 (pc + 1) ((ls.set i (some (.double x))).set (i + 1) none) rest σ) : jGo p l e R s m args below meth c Q G D cy nL hs0 sl0 pc ls (.double x :: rest) σ :=
  fun lsA H locs cells slots hv hH hS hc hs => lv_dstore_n C.1 C.2.1 hd rfl hv.2 (by rw [← hv.1]; exact hi) rfl fun ls' hB => k ls' H locs cells slots (jlv_set2 hv hi hk hB) hH hS hc hs
theorem js_dstore {i : Nat} {x : UInt64} (C : jCx p s m args c M D cy G own nL hs0) (hd : decode M.1 pc = .ok (.dstore i, 2)) (hi : i + 1 < ls.length) (hk : jgok ls i = true) (k : jGo p l e R s m args below meth c Q G D cy nL hs0 sl0 (pc + 2) ((ls.set i (some (.double x))).set (i + 1) none) rest σ) : jGo p l e R s m args below meth c Q G D cy nL hs0 sl0 pc ls (.double x :: rest) σ :=
  fun lsA H locs cells slots hv hH hS hc hs => lv_dstore C.1 C.2.1 hd hv.2 (by rw [← hv.1]; exact hi) rfl fun ls' hB => k ls' H locs cells slots (jlv_set2 hv hi hk hB) hH hS hc hs
theorem jpairs_at {lsA : Array Slot} {i : Nat} {v : Value} (hv : jlv lsA nL ls) (hl : jgl ls i = some v) : ∃ k : Nat, (jpairs 0 ls)[k]? = some (i, v) :=
  List.getElem?_of_mem ((jpairs_mem ls 0 (i, v)).mpr ⟨i, by omega, hl⟩)
theorem js_iinc {i : Nat} {n : Int} {x : Int32} (C : jCx p s m args c M D cy G own nL hs0) (hd : decode M.1 pc = .ok (.iinc i n, 3)) (hl : jgl ls i = some (.int x)) (hi : i < ls.length) (hk : jgok ls i = true) (k : jGo p l e R s m args below meth c Q G D cy nL hs0 sl0 (pc + 3) (ls.set i (some (.int (x + Int32.ofInt n)))) st σ) : jGo p l e R s m args below meth c Q G D cy nL hs0 sl0 pc ls st σ := by
  intro lsA H locs cells slots hv hH hS hc hs
  obtain ⟨j, hj⟩ := jpairs_at hv hl
  exact lv_iinc C.1 C.2.1 hd hv.2 hj rfl (by rw [← hv.1]; exact hi) rfl fun ls' hB => k ls' H locs cells slots (jlv_set1 hv hi hk hB) hH hS hc hs
theorem js_if_icmp {cd : Jvm.ClassFile.Cond} {off : Int} {x y : Int32} {t : Nat} (C : jCx p s m args c M D cy G own nL hs0) (hd : decode M.1 pc = .ok (.if_icmp cd off, 3)) (ht : (pc : Int) + off = (t : Int)) (kt : jcmp cd x y → jGo p l e R s m args below meth c Q G D cy nL hs0 sl0 t ls rest σ) (kf : ¬ jcmp cd x y → jGo p l e R s m args below meth c Q G D cy nL hs0 sl0 (pc + 3) ls rest σ) : jGo p l e R s m args below meth c Q G D cy nL hs0 sl0 pc ls (.int y :: .int x :: rest) σ := by
  intro lsA H locs cells slots hv hH hS hc hs
  cases cd
  · exact lv_icmp_eq C.1 C.2.1 hd ht (fun h => kt h lsA H locs cells slots hv hH hS hc hs) (fun h => kf h lsA H locs cells slots hv hH hS hc hs)
  · exact lv_icmp_ne C.1 C.2.1 hd ht (fun h => kt h lsA H locs cells slots hv hH hS hc hs) (fun h => kf (fun h2 => h2 h) lsA H locs cells slots hv hH hS hc hs)
  · exact lv_icmp_lt C.1 C.2.1 hd ht (fun h => kt h lsA H locs cells slots hv hH hS hc hs) (fun h => kf h lsA H locs cells slots hv hH hS hc hs)
  · exact lv_icmp_ge C.1 C.2.1 hd ht (fun h => kt h lsA H locs cells slots hv hH hS hc hs) (fun h => kf h lsA H locs cells slots hv hH hS hc hs)
  · exact lv_icmp_gt C.1 C.2.1 hd ht (fun h => kt h lsA H locs cells slots hv hH hS hc hs) (fun h => kf h lsA H locs cells slots hv hH hS hc hs)
  · exact lv_icmp_le C.1 C.2.1 hd ht (fun h => kt h lsA H locs cells slots hv hH hS hc hs) (fun h => kf h lsA H locs cells slots hv hH hS hc hs)
theorem js_ifCond {cd : Jvm.ClassFile.Cond} {off : Int} {x : Int32} {t : Nat} (C : jCx p s m args c M D cy G own nL hs0) (hd : decode M.1 pc = .ok (.ifCond cd off, 3)) (ht : (pc : Int) + off = (t : Int)) (kt : jcmp cd x 0 → jGo p l e R s m args below meth c Q G D cy nL hs0 sl0 t ls rest σ) (kf : ¬ jcmp cd x 0 → jGo p l e R s m args below meth c Q G D cy nL hs0 sl0 (pc + 3) ls rest σ) : jGo p l e R s m args below meth c Q G D cy nL hs0 sl0 pc ls (.int x :: rest) σ := by
  intro lsA H locs cells slots hv hH hS hc hs
  cases cd
  · exact lv_if_eq C.1 C.2.1 hd ht (fun h => kt h lsA H locs cells slots hv hH hS hc hs) (fun h => kf h lsA H locs cells slots hv hH hS hc hs)
  · exact lv_if_ne C.1 C.2.1 hd ht (fun h => kt h lsA H locs cells slots hv hH hS hc hs) (fun h => kf (fun h2 => h2 h) lsA H locs cells slots hv hH hS hc hs)
  · exact lv_if_lt C.1 C.2.1 hd ht (fun h => kt h lsA H locs cells slots hv hH hS hc hs) (fun h => kf h lsA H locs cells slots hv hH hS hc hs)
  · exact lv_if_ge C.1 C.2.1 hd ht (fun h => kt h lsA H locs cells slots hv hH hS hc hs) (fun h => kf h lsA H locs cells slots hv hH hS hc hs)
  · exact lv_if_gt C.1 C.2.1 hd ht (fun h => kt h lsA H locs cells slots hv hH hS hc hs) (fun h => kf h lsA H locs cells slots hv hH hS hc hs)
  · exact lv_if_le C.1 C.2.1 hd ht (fun h => kt h lsA H locs cells slots hv hH hS hc hs) (fun h => kf h lsA H locs cells slots hv hH hS hc hs)
/-- the object at a -/
theorem js_obj {H : Heap} {a ci : Nat} (hin : jin G σ a) (hkd : (G.2.2.2.1 a).1 = ci) (hci : ci < 8) : ∃ pl : Nat, (jW cy G σ)[pl]? = some (a, .inr (ci, (List.range (jN ci)).map (jfv ci σ a))) := by
  obtain ⟨pl, h⟩ := jW_get (cy := cy) hin (by omega)
  exact ⟨pl, by rw [h, jF_obj hkd hci]⟩
theorem js_arr {a : Nat} {e : va_E} (hin : jin G σ a) (hk : (G.2.2.2.1 a).1 < 13) (he : jF cy G σ a = e) : ∃ pl : Nat, (jW cy G σ)[pl]? = some (a, e) := by
  obtain ⟨pl, h⟩ := jW_get (cy := cy) hin hk
  exact ⟨pl, by rw [h, he]⟩
theorem js_getfield {i a ci j : Nat} {r : vw_C} (C : jCx p s m args c M D cy G own nL hs0) (hd : decode M.1 pc = .ok (.getfield i, 3)) (hr : vwCl[ci]? = some r) (hcl : jcls ci r) (hci : ci < 8) (hj : j < jN ci) (hw : Cond.fieldLink own i r.1 (r.2.1 j).2.1 (r.2.1 j).2.2.1 ∈ lw_W) (hin : jin G σ a) (hkd : (G.2.2.2.1 a).1 = ci)
    (k : jGo p l e R s m args below meth c Q G D cy nL hs0 sl0 (pc + 3) ls (jfv ci σ a j :: rest) σ) : jGo p l e R s m args below meth c Q G D cy nL hs0 sl0 pc ls (.ref a :: rest) σ := by
  intro lsA H locs cells slots hv hH hS hc hs
  obtain ⟨hx, hb, hml, hown, hts, hB, h0⟩ := C
  obtain ⟨q1, q2, q3, q4, q5, q6⟩ := hcl
  obtain ⟨rC, rT, rN⟩ := r
  have e5 : (rT j).1 = rC := q5 j (by rw [q2]; exact hj)
  obtain ⟨pl, hpl⟩ := js_obj (cy := cy) (H := H) hin hkd hci
  exact va_get (C := rC) (T := rT) (N := rN) hx hb hts q1 hown hB.1 hH.1 pl hpl hr j (by have : rN = jN ci := q2; omega) (hts _ hw) (fun x h => by rw [e5] at h; exact h) (jobj_get hj) hd (k lsA H locs cells slots hv hH hS hc hs)
theorem js_putI {i a ci j : Nat} {x : Int32} {r : vw_C} (C : jCx p s m args c M D cy G own nL hs0) (hd : decode M.1 pc = .ok (.putfield i, 3)) (hr : vwCl[ci]? = some r) (hcl : jcls ci r) (hci : ci < 8) (hj : j < jN ci) (hw : Cond.fieldLink own i r.1 (r.2.1 j).2.1 (r.2.1 j).2.2.1 ∈ lw_W) (hin : jin G σ a) (hkd : (G.2.2.2.1 a).1 = ci) (hty : jty ci j = true)
    (k : jGo p l e R s m args below meth c Q G D cy nL hs0 sl0 (pc + 3) ls rest (jwI σ a j x)) : jGo p l e R s m args below meth c Q G D cy nL hs0 sl0 pc ls (.int x :: .ref a :: rest) σ := by
  intro lsA H locs cells slots hv hH hS hc hs
  obtain ⟨hx, hb, hml, hown, hts, hB, h0⟩ := C
  obtain ⟨q1, q2, q3, q4, q5, q6⟩ := hcl
  obtain ⟨rC, rT, rN⟩ := r
  have hN : rN = jN ci := q2
  have e5 : (rT j).1 = rC := q5 j (by show j < rN; omega)
  have e6 := (q6 j (by show j < rN; omega)).1 hty
  obtain ⟨pl, hpl⟩ := js_obj (cy := cy) (H := H) hin hkd hci
  refine va_put (C := rC) (T := rT) (N := rN) (H0 := H) (A := jA G) (ty := .int) hx hb hts q1 (jft ci) q3 q4 hown hB.1 hH.1 jW_D (js_self hS) pl hpl hr j (by omega) (hts _ hw) (fun x h => by rw [e5] at h; exact h) e6.2 (by rw [q3 j (by show j < rN; omega), e6.1]) rfl rfl (by simp; omega) hd (fun H1 locs1 hP _ hS1 => ?_)
  rw [jobj_I hj hty, jW_set hpl (jwt_I σ a j x) (jF_obj hkd hci) (fun b hb => jFo_I b hb)] at hP
  exact js_put hH hS hS1 hP rfl (fun hH1 hS2 => k lsA H1 locs1 cells slots hv hH1 hS2 hc hs)
theorem js_putR {i a ci j q : Nat} {r : vw_C} (C : jCx p s m args c M D cy G own nL hs0) (hd : decode M.1 pc = .ok (.putfield i, 3)) (hr : vwCl[ci]? = some r) (hcl : jcls ci r) (hci : ci < 8) (hj : j < jN ci) (hw : Cond.fieldLink own i r.1 (r.2.1 j).2.1 (r.2.1 j).2.2.1 ∈ lw_W) (hin : jin G σ a) (hkd : (G.2.2.2.1 a).1 = ci) (hty : jty ci j = false) (hinit : meth.name = "<init>") (hro : r.1 = own)
    (k : jGo p l e R s m args below meth c Q G D cy nL hs0 sl0 (pc + 3) ls rest (jwR σ a j (some q))) : jGo p l e R s m args below meth c Q G D cy nL hs0 sl0 pc ls (.ref q :: .ref a :: rest) σ := by
  intro lsA H locs cells slots hv hH hS hc hs
  obtain ⟨hx, hb, hml, hown, hts, hB, h0⟩ := C
  obtain ⟨q1, q2, q3, q4, q5, q6⟩ := hcl
  obtain ⟨rC, rT, rN⟩ := r
  have hN : rN = jN ci := q2
  have e5 : (rT j).1 = rC := q5 j (by show j < rN; omega)
  obtain ⟨e6, e7⟩ := (q6 j (by show j < rN; omega)).2 hty
  obtain ⟨pl, hpl⟩ := js_obj (cy := cy) (H := H) hin hkd hci
  refine va_putF (C := rC) (T := rT) (N := rN) (H0 := H) (A := jA G) (ty := jft ci j) hx hb hts q1 (jft ci) q3 q4 hown hB.1 hH.1 jW_D (js_self hS) pl hpl hr j (by omega) (hts _ hw) (fun x h => by rw [e5] at h; exact h) e6 hinit (e5.trans hro) (q3 j (by show j < rN; omega)) (by rcases e7 with ⟨n, h⟩ | ⟨t, h⟩ <;> rw [h] <;> rfl) (by rcases e7 with ⟨n, h⟩ | ⟨t, h⟩ <;> rw [h] <;> rfl) (by simp; omega) hd (fun H1 locs1 hP _ hS1 => ?_)
  rw [jobj_R hj hty, jW_set hpl (jwt_R σ a j (some q)) (jF_obj hkd hci) (fun b hb => jFo_R b hb)] at hP
  exact js_put hH hS hS1 hP rfl (fun hH1 hS2 => k lsA H1 locs1 cells slots hv hH1 hS2 hc hs)
theorem js_iaload {a n : Nat} {i : Int32} {f : Nat → Int32} (C : jCx p s m args c M D cy G own nL hs0) (hd : decode M.1 pc = .ok (.iaload, 1)) (ha : jga G σ a = some (n, f)) (hi : vp_in i n)
    (k : jGo p l e R s m args below meth c Q G D cy nL hs0 sl0 (pc + 1) ls (.int (f i.toNatClampNeg) :: rest) σ) : jGo p l e R s m args below meth c Q G D cy nL hs0 sl0 pc ls (.int i :: .ref a :: rest) σ := by
  intro lsA H locs cells slots hv hH hS hc hs
  obtain ⟨hx, hb, hml, hown, hts, hB, h0⟩ := C
  unfold jga at ha
  by_cases h1 : G.1 ≤ a
  · rw [if_pos h1] at ha
    split at ha
    · rename_i h2
      have ha := Option.some.inj ha
      have hkd : G.2.2.2.1 a = (8, n) := Prod.ext h2.2 (congrArg Prod.fst ha)
      have hf : σ.1 a = f := congrArg Prod.snd ha
      subst hf
      obtain ⟨pl, hpl⟩ := js_arr (cy := cy) (σ := σ) ⟨h1, h2.1⟩ (by rw [hkd]; exact Nat.le_of_ble_eq_true rfl) (jF_int hkd)
      exact va_iald hx hb hB.1 hH.1 pl 0 hpl rfl hi hd (k lsA H locs cells slots hv hH hS hc hs)
    · cases ha
  · rw [if_neg h1] at ha
    obtain ⟨g1, g2⟩ := hB.2.2.2.2.2.2.1 a n f ha
    exact va_sld hx hb g2 (Nat.lt_of_lt_of_le g1 hB.2.2.2.2.2.2.2.2) h1 hS hi hd (k lsA H locs cells slots hv hH hS hc hs)
theorem js_arraylength {a n : Nat} {f : Nat → Int32} (C : jCx p s m args c M D cy G own nL hs0) (hd : decode M.1 pc = .ok (.arraylength, 1)) (ha : jga G σ a = some (n, f))
    (k : jGo p l e R s m args below meth c Q G D cy nL hs0 sl0 (pc + 1) ls (.int (Int32.ofNat n) :: rest) σ) : jGo p l e R s m args below meth c Q G D cy nL hs0 sl0 pc ls (.ref a :: rest) σ := by
  intro lsA H locs cells slots hv hH hS hc hs
  obtain ⟨hx, hb, hml, hown, hts, hB, h0⟩ := C
  unfold jga at ha
  by_cases h1 : G.1 ≤ a
  · rw [if_pos h1] at ha
    split at ha
    · rename_i h2
      have ha := Option.some.inj ha
      have hkd : G.2.2.2.1 a = (8, n) := Prod.ext h2.2 (congrArg Prod.fst ha)
      obtain ⟨pl, hpl⟩ := js_arr (cy := cy) (σ := σ) ⟨h1, h2.1⟩ (by rw [hkd]; exact Nat.le_of_ble_eq_true rfl) (jF_int hkd)
      exact va_alen hx hb hB.1 hH.1 pl 0 hpl rfl rfl hd (k lsA H locs cells slots hv hH hS hc hs)
    · cases ha
  · rw [if_neg h1] at ha
    obtain ⟨g1, g2⟩ := hB.2.2.2.2.2.2.1 a n f ha
    exact va_slen hx hb g2 (Nat.lt_of_lt_of_le g1 hB.2.2.2.2.2.2.2.2) h1 hS hd (k lsA H locs cells slots hv hH hS hc hs)
theorem js_iastore {a n : Nat} {i x : Int32} (C : jCx p s m args c M D cy G own nL hs0) (hd : decode M.1 pc = .ok (.iastore, 1)) (hin : jin G σ a) (hkd : G.2.2.2.1 a = (8, n)) (hi : vp_in i n)
    (k : jGo p l e R s m args below meth c Q G D cy nL hs0 sl0 (pc + 1) ls rest (jwI σ a i.toNatClampNeg x)) : jGo p l e R s m args below meth c Q G D cy nL hs0 sl0 pc ls (.int x :: .int i :: .ref a :: rest) σ := by
  intro lsA H locs cells slots hv hH hS hc hs
  obtain ⟨hx, hb, hml, hown, hts, hB, h0⟩ := C
  obtain ⟨pl, hpl⟩ := js_arr (cy := cy) (σ := σ) hin (by rw [hkd]; exact Nat.le_of_ble_eq_true rfl) (jF_int hkd)
  refine va_iast (H0 := H) (A := jA G) hx hb hB.1 hH.1 jW_D (js_self hS) pl 0 hpl rfl hi hd (fun H1 locs1 hP _ hS1 => ?_)
  rw [jW_set hpl (jwt_I σ a i.toNatClampNeg x) (by rw [jF_int hkd, show (jwI σ a i.toNatClampNeg x).1 a = upd (σ.1 a) i.toNatClampNeg x from by funext j; simp [jwI, upd]]) (fun b hb => jFo_I b hb)] at hP
  exact js_put hH hS hS1 hP rfl (fun hH1 hS2 => k lsA H1 locs1 cells slots hv hH1 hS2 hc hs)
theorem jtys_q {j : Nat} (hj : j < 3) : (jtys cy)[1 + j]? = some (cy (1 + j), .object (jen j)) := by
  rcases (show j = 0 ∨ j = 1 ∨ j = 2 by omega) with rfl | rfl | rfl <;> rfl
theorem js_aaload {a n j : Nat} {i : Int32} (C : jCx p s m args c M D cy G own nL hs0) (hd : decode M.1 pc = .ok (.aaload, 1)) (hin : jin G σ a) (hj : j < 3) (hkd : G.2.2.2.1 a = (10 + j, n)) (hi : vp_in i n)
    (k : jGo p l e R s m args below meth c Q G D cy nL hs0 sl0 (pc + 1) ls (va_rf (σ.2.1 a i.toNatClampNeg) :: rest) σ) : jGo p l e R s m args below meth c Q G D cy nL hs0 sl0 pc ls (.int i :: .ref a :: rest) σ := by
  intro lsA H locs cells slots hv hH hS hc hs
  obtain ⟨hx, hb, hml, hown, hts, hB, h0⟩ := C
  obtain ⟨pl, hpl⟩ := js_arr (cy := cy) (σ := σ) hin (by rw [hkd]; show 10 + j < 13; omega) (jF_ref hkd)
  exact va_aldq hx hb hB.1 hH.1 pl (1 + j) hpl (jtys_q hj) hi hd (k lsA H locs cells slots hv hH hS hc hs)
theorem js_aastore {a n j q : Nat} {i : Int32} (C : jCx p s m args c M D cy G own nL hs0) (hd : decode M.1 pc = .ok (.aastore, 1)) (hin : jin G σ a) (hj : j < 3) (hkd : G.2.2.2.1 a = (10 + j, n)) (hi : vp_in i n) (hq : jin G σ q) (hqk : (G.2.2.2.1 q).1 = (if j = 0 then 4 else if j = 1 then 3 else 5))
    (k : jGo p l e R s m args below meth c Q G D cy nL hs0 sl0 (pc + 1) ls rest (jwR σ a i.toNatClampNeg (some q))) : jGo p l e R s m args below meth c Q G D cy nL hs0 sl0 pc ls (.ref q :: .int i :: .ref a :: rest) σ := by
  intro lsA H locs cells slots hv hH hS hc hs
  obtain ⟨hx, hb, hml, hown, hts, hB, h0⟩ := C
  obtain ⟨ci, hci, hci8, r, hr, hrj⟩ : ∃ ci, (G.2.2.2.1 q).1 = ci ∧ ci < 8 ∧ ∃ r, vwCl[ci]? = some r ∧ r.1 = jen j := by
    rcases (show j = 0 ∨ j = 1 ∨ j = 2 by omega) with rfl | rfl | rfl
    · exact ⟨4, hqk, by decide, _, rfl, rfl⟩
    · exact ⟨3, hqk, by decide, _, rfl, rfl⟩
    · exact ⟨5, hqk, by decide, _, rfl, rfl⟩
  obtain ⟨pl, hpl⟩ := js_arr (cy := cy) (σ := σ) hin (by rw [hkd]; show 10 + j < 13; omega) (jF_ref hkd)
  obtain ⟨pq, hpq⟩ := js_obj (cy := cy) (H := H) hq hci hci8
  refine va_astq (H0 := H) (A := jA G) (r := r) hx hb hB.1 hH.1 jW_D (js_self hS) pl (1 + j) pq ci hpl (by rw [hrj]; exact jtys_q hj) hpq hr hi hd (fun H1 locs1 hP _ hS1 => ?_)
  rw [jW_set hpl (jwt_R σ a i.toNatClampNeg (some q)) (by rw [jF_ref hkd, show (jwR σ a i.toNatClampNeg (some q)).2.1 a = va_up (σ.2.1 a) i.toNatClampNeg (some q) from by funext j; simp [jwR, va_up]]) (fun b hb => jFo_R b hb)] at hP
  exact js_put hH hS hS1 hP rfl (fun hH1 hS2 => k lsA H1 locs1 cells slots hv hH1 hS2 hc hs)
/-- a cell is made at the world's end -/
theorem js_grown {H H1 : Heap} {n : Nat} (hH : jH D cy G σ H) (hk13 : (G.2.2.2.1 (jwt σ)).1 < 13) (hHz : H.size = jwt σ) (hz : H1.size = jwt σ + 1) (ho : ∀ q, q < jwt σ → H1[q]? = H[q]?) (he : va_at D vwCl (jwt σ, jF cy G (jwn σ n) (jwt σ)) H1) : jH D cy G (jwn σ n) H1 := by
  obtain ⟨a1, a3, a4⟩ := hH
  refine ⟨?_, Nat.le_succ_of_le a3, by rw [hz]; exact Nat.le_refl _⟩
  have hsame : ∀ b, b < jwt σ → jF cy G (jwn σ n) b = jF cy G σ b := fun b hb => by
    have hb2 : b ≠ σ.2.2.2.1 := Nat.ne_of_lt hb
    exact jF_same (by funext k; simp [jwn, hb2]) (by funext k; simp [jwn, hb2]) (by funext k; simp [jwn, hb2])
  rw [← jW_push (σ := σ) (σ' := jwn σ n) a3 hk13 rfl rfl hsame]
  refine va_P.app (fun k q hk => (a1 k q hk).kept (ho q.1 ?_)) (fun k q hk => ?_)
  · have := (a1 k q hk).lt
    omega
  · have hz : k < 1 := (List.getElem?_eq_some_iff.mp hk).1
    rw [show k = 0 by omega] at hk
    cases hk
    exact he
theorem js_Sgrown {H H1 : Heap} {locs : List Loc} (hS : va_S (jA G) s.heap H locs) (hz : H.size ≤ H1.size) (ho : ∀ q, q < H.size → H1[q]? = H[q]?) : va_S (jA G) s.heap H1 locs := ⟨Nat.le_trans hS.1 hz, fun q b1 b2 => (ho q (Nat.lt_of_lt_of_le b1 hS.1)).trans (hS.2.1 q b1 b2), hS.2.2⟩
theorem js_new {i ci : Nat} {r : vw_C} (C : jCx p s m args c M D cy G own nL hs0) (hd : decode M.1 pc = .ok (.new i, 3)) (hr : vwCl[ci]? = some r) (hcl : jcls ci r) (hci : ci < 8) (hw1 : Cond.classLink own i r.1 ∈ lw_W) (hw2 : Cond.instantiable r.1 r.2.2 ∈ lw_W) (hw3 : Cond.initialized r.1 ∈ lw_W) (hw : jwt σ = jhs σ) (hkd : (G.2.2.2.1 (jwt σ)).1 = ci)
    (hroom : jhs σ + 1 ≤ hs0 + R.cells ∧ jsl σ + jN ci ≤ sl0 + R.slots) (k : jGo p l e R s m args below meth c Q G D cy nL hs0 sl0 (pc + 3) ls (.ref (jwt σ) :: rest) (jwn σ (jN ci))) : jGo p l e R s m args below meth c Q G D cy nL hs0 sl0 pc ls rest σ := by
  intro lsA H locs cells slots hv hH hS hc hs
  obtain ⟨hx, hb, hml, hown, hts, hB, h0⟩ := C
  obtain ⟨q1, q2, q3, q4, q5, q6⟩ := hcl
  obtain ⟨rC, rT, rN⟩ := r
  have hN : rN = jN ci := q2
  have hKn := hB.1.1 ci _ hr
  refine js_bound h0 hc fun hHb => ?_
  have hHz : H.size = jwt σ := Nat.le_antisymm (by rw [hw]; exact hHb) hH.2.2
  refine W.newcK hx hb hown (hts _ hw1) (hts _ hw2) (hts _ hw3) rfl hd (by omega) (by show slots + rN ≤ R.slots; omega) hKn.2.1 hHz fun H1 kC hkC e1 z1 o1 => ?_
  rw [show slots + (rC, rT, rN).2.2 = slots + jN ci from by rw [← hN]]
  refine k lsA H1 locs (cells + 1) (slots + jN ci) hv (js_grown hH (by rw [hkd]; omega) hHz z1 o1 ?_) (js_Sgrown hS (by omega) (fun q hq => o1 q (by omega))) (by show jhs σ + 1 = _; omega) (by show jsl σ + jN ci = _; omega)
  rw [jF_obj hkd hci]
  refine ⟨(rC, rT, rN), hr, (u_born (jft ci) hts q1 hKn hkC e1 q3).to (fun j hj => ?_)⟩
  have hjN : j < jN ci := by rw [← hN]; exact hj
  have e9 : vp_V (List.map (jfv ci (jwn σ (jN ci)) (jwt σ)) (List.range (jN ci))) j = jfv ci (jwn σ (jN ci)) (jwt σ) j := by
    simp [vp_V, hjN]
  rw [e9]
  cases ht : jty ci j with
  | true =>
    rw [((q6 j hj).1 ht).1]
    simp [jfv, ht, jwn, jwt, defaultValue]
  | false =>
    rcases ((q6 j hj).2 ht).2 with ⟨n, h⟩ | ⟨t, h⟩ <;> rw [h] <;> simp [jfv, ht, jwn, jwt, defaultValue, va_rf]
theorem js_newarrayI {n : Int32} (C : jCx p s m args c M D cy G own nL hs0) (hd : decode M.1 pc = .ok (.newarray .int, 2)) (hwA : Cond.arrayClass .int ∈ lw_W) (hn : ¬ n < 0) (hn2 : n.toNatClampNeg ≤ 60000000) (hw : jwt σ = jhs σ) (hkd : G.2.2.2.1 (jwt σ) = (8, n.toNatClampNeg))
    (hroom : jhs σ + 1 ≤ hs0 + R.cells ∧ jsl σ + n.toNatClampNeg ≤ sl0 + R.slots) (k : jGo p l e R s m args below meth c Q G D cy nL hs0 sl0 (pc + 2) ls (.ref (jwt σ) :: rest) (jwn σ n.toNatClampNeg)) : jGo p l e R s m args below meth c Q G D cy nL hs0 sl0 pc ls (.int n :: rest) σ := by
  intro lsA H locs cells slots hv hH hS hc hs
  obtain ⟨hx, hb, hml, hown, hts, hB, h0⟩ := C
  refine js_bound h0 hc fun hHb => ?_
  have hHz : H.size = jwt σ := Nat.le_antisymm (by rw [hw]; exact hHb) hH.2.2
  refine va_newaK (atype := .int) hx hb (hts _ hwA) rfl hd rfl hn rfl (by show n.toNatClampNeg * 4 ≤ _; omega) (by omega) (by omega) hHz fun H1 cA e1 z1 o1 hAr hNm => ?_
  refine k lsA H1 locs (cells + 1) (slots + n.toNatClampNeg) hv (js_grown hH (by rw [hkd]; exact Nat.le_of_ble_eq_true rfl) hHz z1 o1 ?_) (js_Sgrown hS (by omega) (fun q hq => o1 q (by omega))) (by show jhs σ + 1 = _; omega) (by show jsl σ + n.toNatClampNeg = _; omega)
  have hcA : cA = cy 0 := Option.some.inj (hNm.symm.trans (hB.1.2 0 _ rfl).2)
  subst hcA
  rw [jF_int hkd]
  show H1[jwt σ]? = some (vp_cell _ _)
  rw [e1]
  refine congrArg some ?_
  dsimp only
  rw [vp_cell_i]
  congr 1
  funext j
  simp [jwn, jwt, newarray.typeOf, defaultValue]
theorem js_anewarray {n : Int32} {i j : Nat} (C : jCx p s m args c M D cy G own nL hs0) (hd : decode M.1 pc = .ok (.anewarray i, 3)) (hj : j < 3) (hw1 : Cond.classLink own i (jen j) ∈ lw_W) (hn : ¬ n < 0) (hn2 : n.toNatClampNeg ≤ 60000000) (hw : jwt σ = jhs σ) (hkd : G.2.2.2.1 (jwt σ) = (10 + j, n.toNatClampNeg))
    (hroom : jhs σ + 1 ≤ hs0 + R.cells ∧ jsl σ + n.toNatClampNeg ≤ sl0 + R.slots) (k : jGo p l e R s m args below meth c Q G D cy nL hs0 sl0 (pc + 3) ls (.ref (jwt σ) :: rest) (jwn σ n.toNatClampNeg)) : jGo p l e R s m args below meth c Q G D cy nL hs0 sl0 pc ls (.int n :: rest) σ := by
  intro lsA H locs cells slots hv hH hS hc hs
  obtain ⟨hx, hb, hml, hown, hts, hB, h0⟩ := C
  refine js_bound h0 hc fun hHb => ?_
  have hHz : H.size = jwt σ := Nat.le_antisymm (by rw [hw]; exact hHb) hH.2.2
  have hAO : va_AO (jen j) s := by
    obtain ⟨-, -, -, ⟨b1, b2, b3⟩, -⟩ := hB
    rcases (show j = 0 ∨ j = 1 ∨ j = 2 by omega) with rfl | rfl | rfl
    · exact b1
    · exact b2
    · exact b3
  refine W.anew hx hb hown (hts _ hw1) (va_AO.use hAO) rfl hd rfl hn (by omega) (by omega) (by omega) fun cA kA comp f1 f2 f3 f4 => ?_
  have z1 : (H.push ({ cls := cA, slots := Array.replicate n.toNatClampNeg .null, vm := .none } : Cell)).size = H.size + 1 := Array.size_push ..
  have o1 : ∀ q, q < H.size → (H.push ({ cls := cA, slots := Array.replicate n.toNatClampNeg .null, vm := .none } : Cell))[q]? = H[q]? := fun q hq => by rw [Array.getElem?_push, if_neg (Nat.ne_of_lt hq)]
  have e1 : (H.push ({ cls := cA, slots := Array.replicate n.toNatClampNeg .null, vm := .none } : Cell))[H.size]? = some (arrV cA n.toNatClampNeg (fun _ => .null)) := by rw [Array.getElem?_push_size, ← arrV_new]
  generalize H.push ({ cls := cA, slots := Array.replicate n.toNatClampNeg .null, vm := .none } : Cell) = H1 at z1 o1 e1 ⊢
  rw [show (Value.ref H.size) = .ref (jwt σ) by rw [hHz]]
  rw [hHz] at e1 o1 z1
  refine k lsA H1 locs (cells + 1) (slots + n.toNatClampNeg) hv (js_grown hH (by rw [hkd]; show 10 + j < 13; omega) hHz z1 o1 ?_) (js_Sgrown hS (by omega) (fun q hq => o1 q (by omega))) (by show jhs σ + 1 = _; omega) (by show jsl σ + n.toNatClampNeg = _; omega)
  have hcA : cA = cy (1 + j) := by
    obtain ⟨_, _, _, _, _, g4⟩ := (hB.1.2 (1 + j) _ (jtys_q hj)).2
    exact Option.some.inj (f1.symm.trans g4)
  subst hcA
  rw [jF_ref hkd]
  show H1[jwt σ]? = some (vp_cell _ _)
  rw [e1]
  refine congrArg some ?_
  dsimp only
  rw [vp_cell_q]
  congr 1
  funext j
  simp [jwn, jwt, va_rf]
end JS
