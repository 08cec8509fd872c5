/-! What the machine's tables say, and what a method's contract is in these words. -/
def jface (w : Cond) : Bool := w.onTables && w.keepsFace
/-- the words that all methods stand on, and those that stay true without being a contract's -/
def lw_W : List Cond := lw_tbl.filter goodWord
def lw_A : List Cond := lw_tbl.filter jface
theorem jface_moved {w : Cond} (hw : jface w = true) {s U : State} (hW : s.WarmedH U.vm) (h : va_Nw w s) : va_Nw w U := by
  simp only [jface, Bool.and_eq_true] at hw
  have h1 := Cond.before_shiftedFace (args := #[]) (State.Shifted.of_warmed hW) w hw.2 h
  exact va_tabs hw.1 (rfl : (s.setVm U.vm).vm = U.vm) h1
def jnest : List (String × Nat × MethodName) := [(RX5, 27, yX4_init), (RX5, 28, yX3_init), (RX6, 25, yX0_init), (RX6, 32, yX2_init)]
def jstrs : List (Nat × String) := [(324, "an argument is out of range"), (333, "there is no such row"), (328, "there is no such reader"), (340, "there would be more than 24 rows"), (72, "the row is done or dead"), (83, "the row is not dead"), (331, "there is no such setting"), (338, "the reader does not hold the row"), (151, "the time would be above 9999")]
/-- exceptions of which none is another -/
def jxnc : List (String × String) := [("java/lang/IllegalArgumentException", "java/lang/IllegalStateException"), ("java/lang/IllegalArgumentException", "java/lang/IndexOutOfBoundsException"), ("java/lang/IllegalStateException", "java/lang/IllegalArgumentException"), ("java/lang/IllegalStateException", "java/lang/IndexOutOfBoundsException"), ("java/lang/IndexOutOfBoundsException", "java/lang/IllegalArgumentException"), ("java/lang/IndexOutOfBoundsException", "java/lang/IllegalStateException")]
/-- what holds of the machine's tables and of what lies outside the world -/
def jB (D : va_G) (cy : Nat → ClassId) (G : jgG) (s : State) : Prop :=
  va_K D vwCl (jtys cy) s ∧ (∀ w ∈ lw_A, va_Nw w s) ∧ ((∀ q ∈ jnest, va_Nw (.methodLinkNest q.1 q.2.1 q.2.2 RX6) s) ∧ ∀ q ∈ jxnc, va_Nc q.1 q.2 s) ∧ (va_AO RX4 s ∧ va_AO RX3 s ∧ va_AO RX5 s)
    ∧ (vx_Zq Bundle.tN "UNASSIGNED_STACK" Bundle.steD (jA G) s s.heap ∧ vx_Zq Bundle.tN "SUPPRESSED_SENTINEL" Bundle.listD (jA G) s s.heap)
    ∧ (va_Z RX6 "LEAST_VALUES" "[I" (.ref G.2.1) (jA G) s s.heap ∧ va_Z RX6 "GREATEST_VALUES" "[I" (.ref G.2.2.1) (jA G) s s.heap)
    ∧ (∀ (a n : Nat) (f : Nat → Int32), G.2.2.2.2 a = some (n, f) → a < G.1 ∧ va_X a n f s s.heap) ∧ (∀ q ∈ jstrs, ∃ sa, vk_R RX6 q.1 q.2 sa s) ∧ G.1 ≤ s.heap.size
theorem jB.moved {D : va_G} {cy : Nat → ClassId} {G : jgG} {s U : State} (hW : s.WarmedH U.vm) (hz : s.heap.size ≤ U.heap.size) (hq : ∀ a : Nat, a < s.heap.size → ¬ jA G a → U.heap[a]? = s.heap[a]?) (h : jB D cy G s) : jB D cy G U := by
  obtain ⟨h1, h2, h3, ⟨h4a, h4b, h4c⟩, ⟨h5a, h5b⟩, ⟨h6a, h6b⟩, h7, h8, h9⟩ := h
  refine ⟨h1.moved hW.alike, fun w hw => jface_moved (List.mem_filter.mp hw).2 hW (h2 w hw), ⟨fun q hq => va_Nw.warmM hW (h3.1 q hq), fun q hq => va_Nc.moved hW.alike (h3.2 q hq)⟩, ⟨va_AO.moved hW.alike h4a, va_AO.moved hW.alike h4b, va_AO.moved hW.alike h4c⟩, ⟨(h5a.kept hq).moved hW.alike, (h5b.kept hq).moved hW.alike⟩, ⟨(h6a.kept hq).moved hW.alike, (h6b.kept hq).moved hW.alike⟩, fun a n f ha => ?_, fun q hq => ?_, Nat.le_trans h9 hz⟩
  · obtain ⟨h10, h11⟩ := h7 a n f ha
    exact ⟨h10, (h11.kept (hq a (by omega) (by show ¬ G.1 ≤ a; omega))).moved hW.alike⟩
  · obtain ⟨sa, h10⟩ := h8 q hq
    exact ⟨sa, vk_R.warm hW h10⟩
/-- the world of a state lies in the heap -/
def jH (D : va_G) (cy : Nat → ClassId) (G : jgG) (σ : jgS) (H : Heap) : Prop := va_P D vwCl (jW cy G σ) H ∧ G.1 ≤ jwt σ ∧ jwt σ ≤ H.size
def jPre (D : va_G) (cy : Nat → ClassId) (G : jgG) (As : List Value) (σ : jgS) : Array Value → State → Prop := va_Pc As (fun U => jB D cy G U ∧ jH D cy G σ U.heap ∧ U.heap.size ≤ jhs σ)
theorem jPre_blind {D : va_G} {cy : Nat → ClassId} {G : jgG} {As : List Value} {σ : jgS} : FrameBlind (jPre D cy G As σ) := fun a U g mk h => by
  refine ⟨h.1, jB.moved (U := U.calling g mk a) (State.WarmedH.refl U) (Nat.le_refl _) (fun _ _ _ => rfl) h.2.1, h.2.2⟩
def jPost (D : va_G) (cy : Nat → ClassId) (G : jgG) (r : jgR) : Array Value → State → Outcome → State → Prop := fun _ st oc t => ∃ v, r.1 = .inl v ∧ oc = .returned v ∧ jH D cy G r.2 t.heap ∧ va_F (jA G) st t
def jX (D : va_G) (cy : Nat → ClassId) (G : jgG) (r : jgR) : String → State → State → Prop := fun E st t => r.1 = .inr E ∧ jH D cy G r.2 t.heap ∧ va_F (jA G) st t
/-- the word of a method's code -/
def jcw (I : jgI) : Cond := if I.2.2.2.2.2.2.2.2.2 = [] then .code I.2.2.1 I.2.2.2.1 I.2.2.2.2.1 I.2.2.2.2.2.1 else .codeWith I.2.2.1 I.2.2.2.1 I.2.2.2.2.1 I.2.2.2.2.2.1 I.2.2.2.2.2.2.2.2.2
def jws (I : jgI) : List Cond := jcw I :: lw_W
/-- a contract: wherever S allows the end r, the method comes to it -/
def jMet (l : Launch) (D : va_G) (cy : Nat → ClassId) (G : jgG) (I : jgI) (S : jgSpec) : Prop := ∀ (As : List Value) (σ : jgS) (r : jgR), S As σ r → jhs σ ≤ jhs r.2 ∧ jsl σ ≤ jsl r.2 ∧
  vx_Met l I.2.2.1 (jws I) { frames := I.2.2.2.2.2.2.2.1, cells := jhs r.2 - jhs σ, slots := jsl r.2 - jsl σ, locals := I.2.2.2.2.2.2.2.2.1 } (jPre D cy G As σ) (jPost D cy G r) (jX D cy G r) (jhs r.2 - jhs σ) (jsl r.2 - jsl σ) (jA G)
theorem lw_W_good {w : Cond} (h : w ∈ lw_W) : goodWord w = true := (List.mem_filter.mp h).2
theorem jgoodIn {ws : List Cond} (h : ∀ w ∈ ws, w ∈ lw_W) : GoodIn lw_W ws := fun w hw => ⟨h w hw, good_of_word (lw_W_good (h w hw))⟩
/-- the types of the fields -/
def jft : Nat → Nat → FieldType
  | 0 => tyX0
  | 1 => tyX1
  | 2 => tyX2
  | 3 => tyX3
  | 4 => tyX4
  | 5 => tyX5
  | 6 => tyX6
  | _ => tyX7
/-- what a class's tables say, as far as the steps need it -/
def jcls (ci : Nat) (r : vw_C) : Prop := (∀ w ∈ u_ws r.1 r.2.1 r.2.2, w ∈ lw_W) ∧ r.2.2 = jN ci ∧ (∀ k, k < r.2.2 → parseFieldDescriptor (r.2.1 k).2.2.1 = some (jft ci k)) ∧ (∀ a, a < r.2.2 → ∀ b, b < r.2.2 → a ≠ b → (r.2.1 a).2.1 ≠ (r.2.1 b).2.1) ∧ (∀ k, k < r.2.2 → (r.2.1 k).1 = r.1) ∧
  (∀ k, k < r.2.2 → (jty ci k = true → jft ci k = .int ∧ (r.2.1 k).2.2.2 = false) ∧ (jty ci k = false → (r.2.1 k).2.2.2 = true ∧ ((∃ n, jft ci k = .object n) ∨ ∃ t, jft ci k = .array t)))
/-- a call's words -/
def jCok (own : String) (i : Nat) (I : jgI) (R : Room) : Prop :=
  jcw I ∈ lw_W ∧ Cond.initialized I.2.2.1.cls ∈ lw_W ∧ (I.2.2.1.cls ≠ "java/lang/invoke/MethodHandle" ∧ I.2.2.1.cls ≠ "java/lang/invoke/VarHandle" ∧ (parseMethodDescriptor I.2.2.1.desc).map (fun d => d.parameters.length) = some I.2.2.2.2.2.2.1) ∧
  (I.2.2.2.2.2.2.2.1 + 1 ≤ R.frames ∧ 8 + (I.2.2.2.2.1 + 11) + I.2.2.2.2.2.2.2.2.1 ≤ R.locals) ∧
  ((I.1 = 0 ∧ Cond.methodLink own i I.2.2.1 ∈ lw_W ∧ Cond.instanceMethod I.2.2.1 ∈ lw_W ∧ Cond.selects I.2.2.1.cls I.2.2.1 I.2.2.1 ∈ lw_W ∧ I.2.2.2.2.2.2.2.2.2 = [] ∧ I.2.1 < 8 ∧ ∃ r, vwCl[I.2.1]? = some r ∧ r.1 = I.2.2.1.cls)
  ∨ (I.1 = 1 ∧ Cond.methodLink own i I.2.2.1 ∈ lw_W ∧ Cond.static I.2.2.1 ∈ lw_W ∧ I.2.2.2.2.2.2.2.2.2 = [])
  ∨ (I.1 = 2 ∧ Cond.methodLink own i I.2.2.1 ∈ lw_W ∧ Cond.instanceMethod I.2.2.1 ∈ lw_W ∧ I.2.2.1.name = "<init>" ∧ I.2.2.2.2.2.1 = none ∧ I.2.2.2.2.2.2.2.2.2 = [])
  ∨ (I.1 = 3 ∧ (own, i, I.2.2.1) ∈ jnest ∧ Cond.instanceMethod I.2.2.1 ∈ lw_W ∧ I.2.2.1.name = "<init>" ∧ I.2.2.2.2.2.1 = none ∧ I.2.2.2.2.2.2.2.2.2 = [])
  ∨ (I.1 = 4 ∧ Cond.methodLink own i I.2.2.1 ∈ lw_W ∧ Cond.static I.2.2.1 ∈ lw_W ∧ I.2.2.2.2.2.2.2.2.2 ≠ []))
def jen (j : Nat) : String := if j = 0 then RX4 else if j = 1 then RX3 else RX5
/-- an entry of a method's pool is as the tables say -/
def jPok (l : Launch) (D : va_G) (cy : Nat → ClassId) (G : jgG) (own : String) (R : Room) (b : Bool) (q : Nat × jgPool) : Prop := match q.2 with
  | .inl f => ∃ r, vwCl[f.1]? = some r ∧ jcls f.1 r ∧ f.1 < 8 ∧ f.2 < jN f.1 ∧ Cond.fieldLink own q.1 r.1 (r.2.1 f.2).2.1 (r.2.1 f.2).2.2.1 ∈ lw_W ∧ (b = true → r.1 = own)
  | .inr (.inl c) => jCok own q.1 c.1 R ∧ jMet l D cy G c.1 c.2
  | .inr (.inr (.inl v)) => ∃ x, v = .int x ∧ Cond.constant own q.1 x ∈ lw_W
  | .inr (.inr (.inr (.inl ci))) => ci < 8 ∧ ∃ r, vwCl[ci]? = some r ∧ jcls ci r ∧ Cond.classLink own q.1 r.1 ∈ lw_W ∧ Cond.instantiable r.1 r.2.2 ∈ lw_W ∧ Cond.initialized r.1 ∈ lw_W
  | .inr (.inr (.inr (.inr (.inl j)))) => j < 3 ∧ ∀ i : Nat, q.1 = i + 1000 → Cond.classLink own i (jen j) ∈ lw_W
  | .inr (.inr (.inr (.inr (.inr (.inl w))))) => Cond.fieldLink own q.1 RX6 (if w = 0 then "LEAST_VALUES" else "GREATEST_VALUES") "[I" ∈ lw_W
  | .inr (.inr (.inr (.inr (.inr (.inr _))))) => Cond.methodLink own q.1 objectInit ∈ lw_W ∧ Cond.instanceMethod objectInit ∈ lw_W ∧ Cond.code objectInit ⟨#[0xb1]⟩ 1 none ∈ lw_W ∧ 1 ≤ R.frames ∧ 22 ≤ R.locals
theorem jgfind_mem : ∀ {po : List (Nat × jgPool)} {i : Nat} {x : jgPool}, jgfind po i = some x → (i, x) ∈ po
  | q :: l, i, x, h => by
    unfold jgfind at h
    split at h
    · rename_i hq
      cases h
      rw [← hq]
      exact List.mem_cons_self
    · exact List.mem_cons_of_mem _ (jgfind_mem h)
