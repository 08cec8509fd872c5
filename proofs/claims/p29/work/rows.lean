section
-- ===== PART A: goes FIRST, ahead of the names: the tables' words, and 'selects' of the private methods out of them =====
/-- a private method of a class that the tables say can be made, by its rows of tables_1 -/
def lw_okq (q : MethodName × Nat) : Prop := (q.1.cls ≠ "java/lang/invoke/MethodHandle" ∧ q.1.cls ≠ "java/lang/invoke/VarHandle") ∧ Cond.instantiable q.1.cls q.2 ∈ tables_1 ∧ Cond.privateMethod q.1 ∈ tables_1 ∧ Cond.instanceMethod q.1 ∈ tables_1
theorem lw_p0 : lw_okq (⟨"java/lang/Throwable", "fillInStackTrace", "(I)Ljava/lang/Throwable;"⟩, 6) := ⟨⟨by decide +kernel, by decide +kernel⟩, List.mem_of_getElem? (i := 298) (by decide +kernel), List.mem_of_getElem? (i := 296) (by decide +kernel), List.mem_of_getElem? (i := 297) (by decide +kernel)⟩
theorem lw_p1 : lw_okq (⟨"SkipRows$Look", "forget", "()V"⟩, 5) := ⟨⟨by decide +kernel, by decide +kernel⟩, List.mem_of_getElem? (i := 190) (by decide +kernel), List.mem_of_getElem? (i := 367) (by decide +kernel), List.mem_of_getElem? (i := 368) (by decide +kernel)⟩
theorem lw_p2 : lw_okq (⟨"SkipRows$Look", "meet", "(IZ)V"⟩, 5) := ⟨⟨by decide +kernel, by decide +kernel⟩, List.mem_of_getElem? (i := 190) (by decide +kernel), List.mem_of_getElem? (i := 399) (by decide +kernel), List.mem_of_getElem? (i := 400) (by decide +kernel)⟩
theorem lw_p3 : lw_okq (⟨"SkipRows$Table", "lapse", "(LSkipRows$Row;)V"⟩, 8) := ⟨⟨by decide +kernel, by decide +kernel⟩, List.mem_of_getElem? (i := 24) (by decide +kernel), List.mem_of_getElem? (i := 456) (by decide +kernel), List.mem_of_getElem? (i := 457) (by decide +kernel)⟩
theorem lw_p4 : lw_okq (⟨"SkipRows", "requireRoomFor", "(I)V"⟩, 4) := ⟨⟨by decide +kernel, by decide +kernel⟩, List.mem_of_getElem? (i := 16) (by decide +kernel), List.mem_of_getElem? (i := 482) (by decide +kernel), List.mem_of_getElem? (i := 483) (by decide +kernel)⟩
theorem lw_p5 : lw_okq (⟨"SkipRows", "requireRow", "(I)V"⟩, 4) := ⟨⟨by decide +kernel, by decide +kernel⟩, List.mem_of_getElem? (i := 16) (by decide +kernel), List.mem_of_getElem? (i := 503) (by decide +kernel), List.mem_of_getElem? (i := 504) (by decide +kernel)⟩
theorem lw_p6 : lw_okq (⟨"SkipRows", "requireHold", "(II)V"⟩, 4) := ⟨⟨by decide +kernel, by decide +kernel⟩, List.mem_of_getElem? (i := 16) (by decide +kernel), List.mem_of_getElem? (i := 508) (by decide +kernel), List.mem_of_getElem? (i := 509) (by decide +kernel)⟩
theorem lw_p7 : lw_okq (⟨"SkipRows$Table", "isAhead", "(II)Z"⟩, 8) := ⟨⟨by decide +kernel, by decide +kernel⟩, List.mem_of_getElem? (i := 24) (by decide +kernel), List.mem_of_getElem? (i := 569) (by decide +kernel), List.mem_of_getElem? (i := 570) (by decide +kernel)⟩
theorem lw_p8 : lw_okq (⟨"SkipRows$Table", "hasEarlierPair", "(I)Z"⟩, 8) := ⟨⟨by decide +kernel, by decide +kernel⟩, List.mem_of_getElem? (i := 24) (by decide +kernel), List.mem_of_getElem? (i := 632) (by decide +kernel), List.mem_of_getElem? (i := 633) (by decide +kernel)⟩
def lw_privs_1 : List (MethodName × Nat) := [(⟨"java/lang/Throwable", "fillInStackTrace", "(I)Ljava/lang/Throwable;"⟩, 6), (⟨"SkipRows$Look", "forget", "()V"⟩, 5), (⟨"SkipRows$Look", "meet", "(IZ)V"⟩, 5), (⟨"SkipRows$Table", "lapse", "(LSkipRows$Row;)V"⟩, 8), (⟨"SkipRows", "requireRoomFor", "(I)V"⟩, 4), (⟨"SkipRows", "requireRow", "(I)V"⟩, 4), (⟨"SkipRows", "requireHold", "(II)V"⟩, 4), (⟨"SkipRows$Table", "isAhead", "(II)Z"⟩, 8), (⟨"SkipRows$Table", "hasEarlierPair", "(I)Z"⟩, 8)]
theorem lw_r1 : ∀ q ∈ lw_privs_1, lw_okq q := List.forall_mem_cons.mpr ⟨lw_p0, List.forall_mem_cons.mpr ⟨lw_p1, List.forall_mem_cons.mpr ⟨lw_p2, List.forall_mem_cons.mpr ⟨lw_p3, List.forall_mem_cons.mpr ⟨lw_p4, List.forall_mem_cons.mpr ⟨lw_p5, List.forall_mem_cons.mpr ⟨lw_p6, List.forall_mem_cons.mpr ⟨lw_p7, List.forall_mem_cons.mpr ⟨lw_p8, fun _ h => absurd h List.not_mem_nil⟩⟩⟩⟩⟩⟩⟩⟩⟩
def lw_privs : List (MethodName × Nat) := lw_privs_1
def lw_tbl : List Cond := k2_sels lw_privs ++ tables_1
theorem lw_privs_ok : ∀ q ∈ lw_privs, lw_okq q := lw_r1
/-- the streams that the claim lets the run draw from -/
abbrev lw_cs : List Choice := [Jvm.Choice.named "NaN.bits"]
theorem lw_bits : nanBits ∈ lw_cs := by first | decide | exact List.mem_cons_self | simp [lw_cs, nanBits]
-- ===== end of PART A; then your names; then what follows =====
/-! ===== BEGIN words of one list among another's, by their places ===== -/
theorem goodIn_r {big : List Cond} (ws : List Cond) (ps : List Nat) (hp : ws = ps.filterMap (fun i => big[i]?)) (h : ws.all goodWord = true) : GoodIn big ws := by
  intro w hw
  have h1 := List.all_eq_true.mp h w hw
  rw [hp] at hw
  obtain ⟨i, -, hi⟩ := List.mem_filterMap.mp hw
  have hm : w ∈ big := by first | exact List.mem_of_getElem? hi | exact List.getElem?_mem hi
  exact ⟨hm, good_of_word h1⟩
theorem goodIn_app {big a b : List Cond} (ha : GoodIn big a) (hb : GoodIn big b) : GoodIn big (a ++ b) := fun w h => (List.mem_append.mp h).elim (ha w) (hb w)
theorem goodIn_ca {big a b : List Cond} {c : Cond} (ha : GoodIn big (c :: a)) (hb : GoodIn big b) : GoodIn big (c :: (a ++ b)) := fun w h => (List.mem_cons.mp h).elim (fun e => ha w (List.mem_cons.mpr (Or.inl e))) (fun h => (List.mem_append.mp h).elim (fun h => ha w (List.mem_cons.mpr (Or.inr h))) (hb w))
theorem goodIn_sub {big ws : List Cond} (hm : ∀ w ∈ ws, w ∈ big) (h : ws.all goodWord = true) : GoodIn big ws := fun w hw => ⟨hm w hw, good_of_word (List.all_eq_true.mp h w hw)⟩
/-! ===== END ===== -/

/-! ===== BEGIN exceptions that leave a method, and their catching by the caller (launches without stack traces) ===== -/
section VXA
/-! The laws vx_back, vx_callV, vx_callS, vx_callSW, vx_throw0, vx_throwS follow proofs of the library, with one case more: JvmDerived/Free/Laws.lean (Back.of_free), Shelf42/LK1.lean (callV, callS), Shelf/KitTraced.lean (throwNew0V, throwNewS). -/
/-- where a method has thrown q: the class by its name, the cell, what was written, the world -/
def vx_T (XC : String → State → State → Prop) (st : State) (q : Addr) (t : State) (mc ms : Nat) (free : Addr → Prop) : Prop :=
  ∃ (E : String) (ce : Cell) (L : List Loc), XC E st t ∧ t.heap[q]? = some ce ∧ ce.vm = .none ∧ st.vm.findClass E = some ce.cls ∧ st.WarmedH t.vm ∧ st.sameButNew ({ t with vm := st.vm } : State) L mc ms ∧ ∀ z ∈ L, free z.base
def vx_Q (Qc : Array Value → State → Outcome → State → Prop) (XC : String → State → State → Prop) (mc ms : Nat) (free : Addr → Prop) : Array Value → State → Outcome → State → Prop := fun a st o t =>
  (Qc a st o t ∧ ∃ L, FrameEnd st o t L mc ms ∧ ∀ q ∈ L, free q.base) ∨ ∃ q, o = .threw q ∧ vx_T XC st q t mc ms free
/-- a callee that returns or throws -/
def vx_Met (l : Launch) (y : MethodName) (ws : List Cond) (rm : Room) (Pc : Array Value → State → Prop) (Qc : Array Value → State → Outcome → State → Prop) (XC : String → State → State → Prop) (mc ms : Nat) (free : Addr → Prop) : Prop :=
  MetFree l y (headSpec ws rm) Pc (fun _ _ _ _ _ => True) (vx_Q Qc XC mc ms free)
def vx_Post (XC : String → State → State → Prop) (mc ms : Nat) (free : Addr → Prop) : Pt → Array Value → Addr → Pt → Prop := fun A a q B =>
  ∃ (g : JFrame) (mk : MethodId) (t : State) (L : List Loc) (E : String) (ce : Cell), B.U.heap = t.heap ∧ B.U.vm = t.vm ∧ XC E (A.U.calling g mk a) t ∧ t.heap[q]? = some ce ∧ ce.vm = .none ∧ A.U.vm.findClass E = some ce.cls ∧ B.locs = A.locs ++ L ∧ (∀ z ∈ L, free z.base) ∧ B.cells = A.cells + mc ∧ B.slots = A.slots + ms
def vx_Back (l : Launch) (R : Room) (p : Program) (e : Env) (below : List Frame) (s : State) (sargs : Array Value) (y : MethodName) (len W9 : Nat)
    (Pre : Pt → Array Value → Prop) (Post : Pt → Array Value → Option Value → Pt → Prop) (PostX : Pt → Array Value → Addr → Pt → Prop) : Prop :=
  ∀ (m : MethodId) (meth : Method) (c : Code) (A : Pt) (g : JFrame) (ig : Instr) (mk : MethodId) (a : Array Value),
    Stand p l e R s m sargs below meth c A.U A.locs A.cells A.slots → g.method = m → g.locals.size = c.maxLocals → decode c.code g.pc = .ok (ig, len) →
    2 * g.monitorRoom + (g.stack.map fun v => v.category).sum ≤ W9 → A.U.methodNamed? y = some mk → Pre A a →
    (∃ (v : Option Value) (B : Pt), Stand p l e R s m sargs below meth c B.U B.locs B.cells B.slots ∧ Post A a v B ∧
      Steps p.tables e below (doInvoke e (A.U.setTop g) [] mk a).1 (B.U.setTop { g with pc := g.pc + len, stack := v.toList ++ g.stack })) ∨
    (∃ (q : Addr) (B : Pt), Stand p l e R s m sargs below meth c B.U B.locs B.cells B.slots ∧ PostX A a q B ∧
      Steps p.tables e below (doInvoke e (A.U.setTop g) [] mk a).1 ((B.U.setTop g).pushFrame (.throwing q)))
section Payer
variable {l : Launch} {R : Room} {p : Program} {e : Env} {below : List Frame} {s : State} {sargs : Array Value} {y : MethodName} {len W9 : Nat}
theorem vx_back {ws : List Cond} {rm : Room} {Pc : Array Value → State → Prop} {Qc : Array Value → State → Outcome → State → Prop} {XC : String → State → State → Prop} {mc ms : Nat} {free : Addr → Prop} {bytes : ByteArray} {maxL : Nat} {ret : Option FieldType}
    (hM : vx_Met l y ws rm Pc Qc XC mc ms free) (hblind : FrameBlind Pc) (hrc : rm.cells = mc) (hrs : rm.slots = ms)
    (hframes : rm.frames + 1 ≤ R.frames) (hlocals : W9 + (maxL + 11) + rm.locals ≤ R.locals)
    (hws : ∀ w ∈ ws, ∀ a' U, s.WarmedH U.vm → w.before a' U = true) (hcode : Cond.code y bytes maxL ret ∈ ws) (hinit : ∀ a' U, s.WarmedH U.vm → (Cond.initialized y.cls).before a' U = true) :
    vx_Back l R p e below s sargs y len W9 (PreOf R mc ms Pc) (PostOf Qc mc ms free) (vx_Post XC mc ms free) := by
  intro m meth c A g ig mk a X hg hsize hdg hW hn hp
  have h1 : (headSpec ws rm).pre.before a A.U = true := atoms_intro fun w hw => hws w hw _ _ X.warmed
  have h2 : (Cond.code y bytes maxL ret).before a A.U = true := hws _ hcode _ _ X.warmed
  have h3 : (Cond.initialized y.cls).before a A.U = true := hinit _ _ X.warmed
  have h4 : A.cells + (headSpec ws rm).room.cells ≤ R.cells := by rw [show (headSpec ws rm).room.cells = mc from hrc]; exact hp.1
  have h5 : A.slots + (headSpec ws rm).room.slots ≤ R.slots := by rw [show (headSpec ws rm).room.slots = ms from hrs]; exact hp.2.1
  have hPc : Pc a (A.U.calling g mk a) := hblind _ _ _ _ hp.2.2
  obtain ⟨U, Ls, c0, s0⟩ := A
  dsimp only [Pt.U, Pt.locs, Pt.cells, Pt.slots] at h1 h2 h3 h4 h5 X hn hPc ⊢
  obtain ⟨methY, cY, hmY, hcY, -, hlY, -, -, -, -⟩ := Cond.code_spec hn h2
  obtain ⟨kY, hkY, -⟩ := className_of_methodNamed hn
  have hinitY : kY.init = .initialized := Cond.initialized_spec (findClass_of_methodNamed hn) hkY h3
  have h : At U g.method c below := by rw [hg]; exact X.here
  have hlocals9 : W9 + (maxL + 11) + (headSpec ws rm).room.locals ≤ R.locals := hlocals
  have happ : (headSpec ws rm).appliesLoose y e.platform (U.calling g mk a) = true :=
    Spec.appliesLoose_calling (g := g) h hdg hn hkY hinitY
      (X.room_calling (g := g) (R' := (headSpec ws rm).room) hsize hmY hcY hframes (by rw [hlY]; omega) h4 h5) h1
  obtain ⟨mid, hmid⟩ := h.above
  have hfr : (U.setTop g).frames = (.java g :: mid) ++ below := by rw [State.frames_setTop' g h.top, hmid]; rfl
  obtain ⟨o, s₂, hsteps, -, hend, hq⟩ := Steps.callFree hM p X.admits X.cas X.clock (acts := []) hfr happ hPc trivial
  have hq' : vx_Q Qc XC mc ms free a (U.calling g mk a) o s₂ := hq
  rw [State.frames_setTop' g h.top] at hend
  obtain ⟨g₀, hg0⟩ := Option.isSome_iff_exists.mp h.top
  obtain ⟨r, hr⟩ := State.topJava?_eq_some.mp hg0
  have hr' : (({ U with heap := s₂.heap, slotsUsed := s₂.slotsUsed } : State).setVm s₂.vm).frames = .java g₀ :: r := hr
  rcases hq' with ⟨hqc, L, hfe, hL⟩ | ⟨q, rfl, E, ce, L, hx, hce, hcv, hcl, hW₂, hsm, hL⟩
  · obtain ⟨⟨v, rfl⟩, hW₂, e2, q2, q3, q4, q5, q6⟩ := id hfe
    have e3 : s₂ = ({ (U.calling g mk a).setFrames s₂.frames with heap := s₂.heap, slotsUsed := s₂.slotsUsed } : State).setVm s₂.vm := by
      have : s₂ = ({ s₂ with vm := (U.calling g mk a).vm } : State).setVm s₂.vm := rfl
      rw [e2] at this
      exact this
    obtain ⟨c₂, i₂, len₂, hc₂, hd₂, hf₂⟩ := hend
    have hW' : U.WarmedH s₂.vm := hW₂
    have hcc : c₂ = c := by
      have h1 : s₂.code? g.method = U.code? g.method := by
        rw [State.code?_eq, State.code?_eq, hW'.alike.method?]
      exact Option.some.inj (hc₂.symm.trans (h1.trans h.code))
    subst hcc
    have hlen : len₂ = len := by rw [hdg] at hd₂; cases hd₂; rfl
    subst hlen
    have hs₂ : s₂ = (({ U with heap := s₂.heap, slotsUsed := s₂.slotsUsed } : State).setVm s₂.vm).setTop { g with pc := g.pc + len₂, stack := v.toList ++ g.stack } := by
      refine e3.trans ?_
      rw [hf₂, State.calling_eq h.top, State.setFrames_setFrames, State.setTop_of_frames _ hr', hr]
      rfl
    have hsame : U.sameButNew ({ U with heap := s₂.heap, slotsUsed := s₂.slotsUsed } : State) L mc ms := by
      refine ⟨?_, q2, q3, q4, q5, q6⟩
      obtain ⟨t, ht, -⟩ := State.frames_cons hr
      show ({ U with heap := s₂.heap, slotsUsed := s₂.slotsUsed } : State) = { U.setFrames U.frames with heap := s₂.heap, slotsUsed := s₂.slotsUsed }
      rw [State.setFrames_self ht]
    subst hg
    refine Or.inl ⟨v, ⟨(({ U with heap := s₂.heap, slotsUsed := s₂.slotsUsed } : State).setVm s₂.vm), Ls ++ L, c0 + mc, s0 + ms⟩,
      ⟨X.admits, X.cas, X.clock, X.frames, X.room, X.hears, X.method, X.code, (X.here.setHeapUsed s₂.heap s₂.slotsUsed).setVm hW'.alike, X.tail, State.WarmedH.trans X.warmed hW', X.limits, X.bytes, X.same.trans (hsame.setVm s.vm)⟩,
      ⟨g, mk, s₂, L, rfl, rfl, hqc, rfl, hL, rfl, rfl⟩, ?_⟩
    show Steps p.tables e below _ ((({ U with heap := s₂.heap, slotsUsed := s₂.slotsUsed } : State).setVm s₂.vm).setTop { g with pc := g.pc + len₂, stack := v.toList ++ g.stack })
    rw [← hs₂]
    exact hsteps
  · obtain ⟨e2, q2, q3, q4, q5, q6⟩ := id hsm
    have e3 : s₂ = ({ (U.calling g mk a).setFrames s₂.frames with heap := s₂.heap, slotsUsed := s₂.slotsUsed } : State).setVm s₂.vm := by
      have : s₂ = ({ s₂ with vm := (U.calling g mk a).vm } : State).setVm s₂.vm := rfl
      rw [e2] at this
      exact this
    have hf₂ : s₂.frames = .throwing q :: .java g :: U.frames.tail := hend
    have hW' : U.WarmedH s₂.vm := hW₂
    have hs₂ : s₂ = ((({ U with heap := s₂.heap, slotsUsed := s₂.slotsUsed } : State).setVm s₂.vm).setTop g).pushFrame (.throwing q) := by
      refine e3.trans ?_
      rw [hf₂, State.calling_eq h.top, State.setFrames_setFrames, State.pushFrame, State.frames_setTop _ hr', State.setTop_of_frames _ hr', State.setFrames_setFrames, hr]
      rfl
    have hsame : U.sameButNew ({ U with heap := s₂.heap, slotsUsed := s₂.slotsUsed } : State) L mc ms := by
      refine ⟨?_, q2, q3, q4, q5, q6⟩
      obtain ⟨t, ht, -⟩ := State.frames_cons hr
      show ({ U with heap := s₂.heap, slotsUsed := s₂.slotsUsed } : State) = { U.setFrames U.frames with heap := s₂.heap, slotsUsed := s₂.slotsUsed }
      rw [State.setFrames_self ht]
    subst hg
    refine Or.inr ⟨q, ⟨(({ U with heap := s₂.heap, slotsUsed := s₂.slotsUsed } : State).setVm s₂.vm), Ls ++ L, c0 + mc, s0 + ms⟩,
      ⟨X.admits, X.cas, X.clock, X.frames, X.room, X.hears, X.method, X.code, (X.here.setHeapUsed s₂.heap s₂.slotsUsed).setVm hW'.alike, X.tail, State.WarmedH.trans X.warmed hW', X.limits, X.bytes, X.same.trans (hsame.setVm s.vm)⟩,
      ⟨g, mk, s₂, L, E, ce, rfl, rfl, hx, hce, hcv, hcl, rfl, hL, rfl, rfl⟩, ?_⟩
    show Steps p.tables e below _ (((({ U with heap := s₂.heap, slotsUsed := s₂.slotsUsed } : State).setVm s₂.vm).setTop g).pushFrame (.throwing q))
    rw [← hs₂]
    exact hsteps
end Payer
section Calls
variable {p : Program} {l : Launch} {e : Env} {R : Room} {s : State} {m : MethodId} {args : Array Value} {below : List Frame} {meth : Method} {c : Code} {T : State} {locs : List Loc} {cells slots : Nat}
theorem vx_callV (X : Stand p l e R s m args below meth c T locs cells slots) (hexec : p.tables.exec = Jvm.exec) {own C : String} {index : Nat} {y : MethodName} {bytes : ByteArray} {maxL : Nat} {ret : Option FieldType}
    (hown : s.vm.findClass own = some m.cls) (hlink : (Cond.methodLink own index y).before args s = true) (hinst : (Cond.instanceMethod y).before args s = true) (hsel : (Cond.selects C y y).before args s = true)
    (hcode : (Cond.code y bytes maxL ret).before args s = true) (hy : y.cls ≠ "java/lang/invoke/MethodHandle" ∧ y.cls ≠ "java/lang/invoke/VarHandle")
    {W9 : Nat} {Pre : Pt → Array Value → Prop} {Post : Pt → Array Value → Option Value → Pt → Prop} {PostX : Pt → Array Value → Addr → Pt → Prop} (hK : vx_Back l R p e below s args y 3 W9 Pre Post PostX)
    {b : Addr} {cellB : Cell} (hcell : T.heap[b]? = some cellB) (hobj : cellB.vm.isStatics = false) (hcls : s.vm.findClass C = some cellB.cls)
    {g : JFrame} (hg : g.method = m) (hsize : g.locals.size = c.maxLocals) {argsL rest : List Value} (hlen : ∀ sig, parseMethodDescriptor y.desc = some sig → argsL.length = sig.parameters.length)
    (hstack : g.stack = argsL.reverse ++ .ref b :: rest) (hW : 2 * g.monitorRoom + (rest.map fun v => v.category).sum ≤ W9) (hdg : decode c.code g.pc = .ok (.invokevirtual index, 3))
    (hpre : ∀ vm₁, s.WarmedH vm₁ → Pre ⟨T.setVm vm₁, locs, cells, slots⟩ (Value.ref b :: argsL).toArray) :
    (∃ (v : Option Value) (vm₁ : Vm) (B : Pt), s.WarmedH vm₁ ∧ Stand p l e R s m args below meth c B.U B.locs B.cells B.slots ∧ Post ⟨T.setVm vm₁, locs, cells, slots⟩ (Value.ref b :: argsL).toArray v B ∧
      ∀ target, Steps p.tables e below (B.U.setTop { g with pc := g.pc + 3, stack := v.toList ++ rest }) target → Steps p.tables e below (T.setTop g) target) ∨
    (∃ (q : Addr) (vm₁ : Vm) (B : Pt), s.WarmedH vm₁ ∧ Stand p l e R s m args below meth c B.U B.locs B.cells B.slots ∧ PostX ⟨T.setVm vm₁, locs, cells, slots⟩ (Value.ref b :: argsL).toArray q B ∧
      Steps p.tables e below (T.setTop g) ((B.U.setTop { g with stack := rest }).pushFrame (.throwing q))) := by
  obtain ⟨mk, methM, hnamed, hmethM, hstM, habM⟩ := Cond.instanceMethod_spec hinst
  obtain ⟨methM', cM, hmethM', -, -, -, -, -, -, hsigM⟩ := Cond.code_spec hnamed hcode
  cases hmethM.symm.trans hmethM'
  obtain ⟨c2, r2, m2, q1, q2, q3, q4, kP, hkP, hkPi⟩ := Cond.selects_spec hsel
  cases hcls.symm.trans q1
  cases (State.methodFound?_of_named hnamed hy).symm.trans q2
  cases hnamed.symm.trans q3
  have hselP : selectMethod e.platform s.vm cellB.cls mk = .method mk := by rw [Launch.admits_selectMethod X.admits]; exact q4
  obtain ⟨vm₁, X₁, hstep₁⟩ := X.invokevirtual hexec hown hlink hnamed hmethM hstM hkP hkPi hy (a := b) (cell := cellB) hcell
    (fun z h => by rw [h] at hobj; cases hobj) hselP hmethM habM hkP hkPi (g := g) hg (argsL := argsL) (rest := rest) (hlen _ hsigM) hstack hdg
  rcases hK m meth c ⟨T.setVm vm₁, locs, cells, slots⟩ { g with stack := rest } (.invokevirtual index) mk (Value.ref b :: argsL).toArray X₁ hg hsize hdg hW (X₁.named hnamed) (hpre vm₁ X₁.warmed) with ⟨v, B, X', hpost, hsteps⟩ | ⟨q, B, X', hpost, hsteps⟩
  · exact Or.inl ⟨v, vm₁, B, X₁.warmed, X', hpost, fun target h => hstep₁ _ fun acts => by rw [doInvoke_state]; exact hsteps.trans h⟩
  · exact Or.inr ⟨q, vm₁, B, X₁.warmed, X', hpost, hstep₁ _ fun acts => by rw [doInvoke_state]; exact hsteps⟩
theorem vx_callS (X : Stand p l e R s m args below meth c T locs cells slots) (hexec : p.tables.exec = Jvm.exec) {own : String} {index : Nat} {y : MethodName} {bytes : ByteArray} {maxL : Nat} {ret : Option FieldType}
    (hown : s.vm.findClass own = some m.cls) (hlink : (Cond.methodLink own index y).before args s = true) (hstat : (Cond.static y).before args s = true) (hinit : (Cond.initialized y.cls).before args s = true)
    (hcode : (Cond.code y bytes maxL ret).before args s = true) (hy : y.cls ≠ "java/lang/invoke/MethodHandle" ∧ y.cls ≠ "java/lang/invoke/VarHandle")
    {W9 : Nat} {Pre : Pt → Array Value → Prop} {Post : Pt → Array Value → Option Value → Pt → Prop} {PostX : Pt → Array Value → Addr → Pt → Prop} (hK : vx_Back l R p e below s args y 3 W9 Pre Post PostX)
    {g : JFrame} (hg : g.method = m) (hsize : g.locals.size = c.maxLocals) {argsL rest : List Value} (hlen : ∀ sig, parseMethodDescriptor y.desc = some sig → argsL.length = sig.parameters.length)
    (hstack : g.stack = argsL.reverse ++ rest) (hW : 2 * g.monitorRoom + (rest.map fun v => v.category).sum ≤ W9) (hdg : decode c.code g.pc = .ok (.invokestatic index, 3))
    (hpre : ∀ vm₁, s.WarmedH vm₁ → Pre ⟨T.setVm vm₁, locs, cells, slots⟩ argsL.toArray) :
    (∃ (v : Option Value) (vm₁ : Vm) (B : Pt), s.WarmedH vm₁ ∧ Stand p l e R s m args below meth c B.U B.locs B.cells B.slots ∧ Post ⟨T.setVm vm₁, locs, cells, slots⟩ argsL.toArray v B ∧
      ∀ target, Steps p.tables e below (B.U.setTop { g with pc := g.pc + 3, stack := v.toList ++ rest }) target → Steps p.tables e below (T.setTop g) target) ∨
    (∃ (q : Addr) (vm₁ : Vm) (B : Pt), s.WarmedH vm₁ ∧ Stand p l e R s m args below meth c B.U B.locs B.cells B.slots ∧ PostX ⟨T.setVm vm₁, locs, cells, slots⟩ argsL.toArray q B ∧
      Steps p.tables e below (T.setTop g) ((B.U.setTop { g with stack := rest }).pushFrame (.throwing q))) := by
  obtain ⟨mk, hnamed⟩ := Cond.code_named hcode
  obtain ⟨methM, cM, hmethM, -, -, -, -, -, -, hsigM⟩ := Cond.code_spec hnamed hcode
  have hstatic : methM.isStatic = true := Cond.static_spec hnamed hmethM hstat
  obtain ⟨kP, hkP, -⟩ := className_of_methodNamed hnamed
  have hinitP : kP.init = .initialized := Cond.initialized_spec (findClass_of_methodNamed hnamed) hkP hinit
  obtain ⟨vm₁, X₁, hstep₁⟩ := X.invokestatic hexec hown hlink hnamed hmethM hstatic hkP hinitP hy (g := g) hg (argsL := argsL) (rest := rest) (hlen _ hsigM) hstack hdg
  rcases hK m meth c ⟨T.setVm vm₁, locs, cells, slots⟩ { g with stack := rest } (.invokestatic index) mk argsL.toArray X₁ hg hsize hdg hW (X₁.named hnamed) (hpre vm₁ X₁.warmed) with ⟨v, B, X', hpost, hsteps⟩ | ⟨q, B, X', hpost, hsteps⟩
  · exact Or.inl ⟨v, vm₁, B, X₁.warmed, X', hpost, fun target h => hstep₁ _ fun acts => by rw [doInvoke_state]; exact hsteps.trans h⟩
  · exact Or.inr ⟨q, vm₁, B, X₁.warmed, X', hpost, hstep₁ _ fun acts => by rw [doInvoke_state]; exact hsteps⟩
end Calls
theorem vx_cls {s : State} {T : State} {vm₁ : Vm} {E : String} {k : ClassId} (hW : s.WarmedH vm₁) (h : (T.setVm vm₁).vm.findClass E = some k) : s.vm.findClass E = some k := by
  have h1 : vm₁.findClass E = some k := h
  rw [hW.alike.findClass] at h1
  exact h1
/-- the method's frame g, with q thrown over it -/
def vx_W (p : Program) (l : Launch) (e : Env) (R : Room) (s : State) (m : MethodId) (args : Array Value) (below : List Frame) (meth : Method) (c : Code) (H : Heap) (locs : List Loc) (cells slots : Nat) (Q : State → Prop) (g : JFrame) (q : Addr) : Prop :=
  ∀ T : State, T.heap = H → Stand p l e R s m args below meth c T locs cells slots → ∃ t, Steps p.tables e below ((T.setTop g).pushFrame (.throwing q)) t ∧ Q t
def vx_Run (p : Program) (l : Launch) (e : Env) (R : Room) (s : State) (m : MethodId) (args : Array Value) (below : List Frame) (meth : Method) (c : Code) (H : Heap) (locs : List Loc) (cells slots mc ms : Nat) (g : JFrame) (rest : List Value) (Qa : State → Outcome → State → Prop) (XC : String → State → State → Prop) (free : Addr → Prop) : Prop :=
  ∀ T : State, T.heap = H → Stand p l e R s m args below meth c T locs cells slots →
    (∃ (v : Option Value) (st₀ t T' : State) (L : List Loc), st₀.heap = H ∧ Stand p l e R s m args below meth c T' (locs ++ L) (cells + mc) (slots + ms) ∧ (∀ q ∈ L, free q.base) ∧ T'.heap = t.heap ∧ T'.vm = t.vm ∧ Qa st₀ (.returned v) t ∧
      Goes p e below T g T' { g with pc := g.pc + 3, stack := v.toList ++ rest }) ∨
    (∃ (q : Addr) (st₀ t T' : State) (L : List Loc) (E : String) (ce : Cell), st₀.heap = H ∧ Stand p l e R s m args below meth c T' (locs ++ L) (cells + mc) (slots + ms) ∧ (∀ z ∈ L, free z.base) ∧ T'.heap = t.heap ∧ T'.vm = t.vm ∧ XC E st₀ t ∧ t.heap[q]? = some ce ∧ ce.vm = .none ∧ s.vm.findClass E = some ce.cls ∧
      Steps p.tables e below (T.setTop g) ((T'.setTop { g with stack := rest }).pushFrame (.throwing q)))
def vx_X {S : Type} (px : S → Prop) (B : String → S → State → Prop) (A : Nat → Prop) : String → State → State → Prop := fun E st t => ∃ u : S, px u ∧ B E u t ∧ va_F A st t
section Runs
variable {p : Program} {l : Launch} {e : Env} {R : Room} {s : State} {m : MethodId} {args : Array Value} {below : List Frame} {meth : Method} {c : Code} {H : Heap} {locs : List Loc} {cells slots : Nat}
variable {y : MethodName} {bytes cc : ByteArray} {maxL nL mc ms n index : Nat} {ret : Option FieldType} {ws : List Cond} {rm : Room} {Pc : Array Value → State → Prop} {Qc : Array Value → State → Outcome → State → Prop} {XC : String → State → State → Prop} {free : Addr → Prop} {Ts : List Cond} {own C : String} {b : Addr} {As rest : List Value} {g : JFrame}
theorem vx_callBack (cb : CallB R s args own index y bytes maxL ret ws rm mc ms n) (hM : vx_Met l y ws rm Pc Qc XC mc ms free) (hbl : FrameBlind Pc) : vx_Back l R p e below s args y 3 8 (PreOf R mc ms Pc) (PostOf Qc mc ms free) (vx_Post XC mc ms free) := by
  obtain ⟨hrc, hrs, hfr, hlo, hws, hcw, -, hini, -⟩ := cb
  exact vx_back (bytes := bytes) (maxL := maxL) (ret := ret) hM hbl hrc hrs hfr hlo hws hcw (fun a' U hW => word_at hW (Or.inl (by first | rfl | simp [Cond.onTables, Cond.keeps, Cond.steady])) hini)
theorem vx_runV (S : CallFix p m c cc nL s args Ts own) (hM : vx_Met l y ws rm Pc Qc XC mc ms free) (cw : CallW R s args own C index y bytes maxL ret ws rm mc ms n) (hp : PreV s H C b Pc As)
    (hg : g.method = m) (hn : As.length = n) (hsize : g.locals.size = nL) (hstack : g.stack = As.reverse ++ .ref b :: rest) (hW : 2 * g.monitorRoom + (rest.map fun v => v.category).sum ≤ 8) (hdg : decode cc g.pc = .ok (.invokevirtual index, 3)) (hf : cells + mc ≤ R.cells ∧ slots + ms ≤ R.slots) :
    vx_Run p l e R s m args below meth c H locs cells slots mc ms g rest (Qc (Value.ref b :: As).toArray) XC free := by
  have hK : vx_Back l R p e below s args y 3 8 (PreOf R mc ms Pc) (PostOf Qc mc ms free) (vx_Post XC mc ms free) := vx_callBack cw.1 hM hp.1
  obtain ⟨⟨-, -, -, -, -, -, hcode, -, hy, hlen, hl⟩, hin, hse⟩ := cw
  obtain ⟨hx, hb, hml, ho, -⟩ := S
  obtain ⟨-, ⟨cellB, hcB, hoB, hclB⟩, hPc⟩ := hp
  intro T hT X
  rcases vx_callV X hx (C := C) (bytes := bytes) (maxL := maxL) (ret := ret) ho hl hin hse hcode hy hK (by rw [hT]; exact hcB) hoB hclB hg (hsize.trans hml.symm) (argsL := As) (rest := rest) (fun sig h => hn.trans (hlen sig h)) hstack hW (by rw [hb]; exact hdg)
    (fun vm₁ hW₁ => ⟨hf.1, hf.2, hPc (T.setVm vm₁) hT hW₁⟩) with ⟨v, vm₁, ⟨U', l2, c2, s2⟩, hW₁, X', ⟨g', mk, t, L, e1, e2, hq, h1, hL, h2, h3⟩, st⟩ | ⟨q, vm₁, ⟨U', l2, c2, s2⟩, hW₁, X', ⟨g', mk, t, L, E, ce, e1, e2, hq, hce, hcv, hcl, h1, hL, h2, h3⟩, st⟩
  · dsimp only [Pt.U, Pt.locs, Pt.cells, Pt.slots] at X' e1 e2 h1 h2 h3 st
    subst h1; subst h2; subst h3
    exact Or.inl ⟨v, (T.setVm vm₁).calling g' mk (Value.ref b :: As).toArray, t, U', L, hT, X', hL, e1, e2, hq, st⟩
  · dsimp only [Pt.U, Pt.locs, Pt.cells, Pt.slots] at X' e1 e2 h1 h2 h3 st hcl
    subst h1; subst h2; subst h3
    exact Or.inr ⟨q, (T.setVm vm₁).calling g' mk (Value.ref b :: As).toArray, t, U', L, E, ce, hT, X', hL, e1, e2, hq, hce, hcv, vx_cls hW₁ hcl, st⟩
theorem vx_runS (S : CallFix p m c cc nL s args Ts own) (hM : vx_Met l y ws rm Pc Qc XC mc ms free) (cw : CallB R s args own index y bytes maxL ret ws rm mc ms n ∧ (Cond.static y).before args s = true) (hp : PreS s H Pc As)
    (hg : g.method = m) (hn : As.length = n) (hsize : g.locals.size = nL) (hstack : g.stack = As.reverse ++ rest) (hW : 2 * g.monitorRoom + (rest.map fun v => v.category).sum ≤ 8) (hdg : decode cc g.pc = .ok (.invokestatic index, 3)) (hf : cells + mc ≤ R.cells ∧ slots + ms ≤ R.slots) :
    vx_Run p l e R s m args below meth c H locs cells slots mc ms g rest (Qc As.toArray) XC free := by
  have hK : vx_Back l R p e below s args y 3 8 (PreOf R mc ms Pc) (PostOf Qc mc ms free) (vx_Post XC mc ms free) := vx_callBack cw.1 hM hp.1
  obtain ⟨⟨-, -, -, -, -, -, hcode, hini, hy, hlen, hl⟩, hstt⟩ := cw
  obtain ⟨hx, hb, hml, ho, -⟩ := S
  intro T hT X
  rcases vx_callS X hx (bytes := bytes) (maxL := maxL) (ret := ret) ho hl hstt hini hcode hy hK hg (hsize.trans hml.symm) (argsL := As) (rest := rest) (fun sig h => hn.trans (hlen sig h)) hstack hW (by rw [hb]; exact hdg)
    (fun vm₁ hW₁ => ⟨hf.1, hf.2, hp.2 (T.setVm vm₁) hT hW₁⟩) with ⟨v, vm₁, ⟨U', l2, c2, s2⟩, hW₁, X', ⟨g', mk, t, L, e1, e2, hq, h1, hL, h2, h3⟩, st⟩ | ⟨q, vm₁, ⟨U', l2, c2, s2⟩, hW₁, X', ⟨g', mk, t, L, E, ce, e1, e2, hq, hce, hcv, hcl, h1, hL, h2, h3⟩, st⟩
  · dsimp only [Pt.U, Pt.locs, Pt.cells, Pt.slots] at X' e1 e2 h1 h2 h3 st
    subst h1; subst h2; subst h3
    exact Or.inl ⟨v, (T.setVm vm₁).calling g' mk As.toArray, t, U', L, hT, X', hL, e1, e2, hq, st⟩
  · dsimp only [Pt.U, Pt.locs, Pt.cells, Pt.slots] at X' e1 e2 h1 h2 h3 st hcl
    subst h1; subst h2; subst h3
    exact Or.inr ⟨q, (T.setVm vm₁).calling g' mk As.toArray, t, U', L, E, ce, hT, X', hL, e1, e2, hq, hce, hcv, vx_cls hW₁ hcl, st⟩
end Runs
section Rows
variable {p : Program} {l : Launch} {e : Env} {R : Room} {s : State} {m : MethodId} {args : Array Value} {below : List Frame} {meth : Method} {c : Code} {H : Heap} {locs : List Loc} {cells slots : Nat} {Q : State → Prop}
variable {mc ms : Nat} {free : Addr → Prop} {A0 A1 : Nat → Prop} {H0 : Heap} {a : Array Value} {pc : Nat} {ls : Array Slot} {st0 rest : List Value}
theorem vx_keep {st₀ t T' : State} {L : List Loc} (h0 : st₀.heap = H) (e1 : T'.heap = t.heap) (hS : va_S A0 H0 H locs) (hA : ∀ q, q < H.size → A1 q → A0 q) (hf : ∀ q, free q → A0 q) (hL : ∀ q ∈ L, free q.base) (hF : va_F A1 st₀ t) :
    H.size ≤ T'.heap.size ∧ (∀ q : Nat, q < H.size → ¬ A1 q → T'.heap[q]? = H[q]?) ∧ va_S A0 H0 T'.heap (locs ++ L) := by
  obtain ⟨hz, hk⟩ := hF
  rw [h0] at hz hk
  exact ⟨by rw [e1]; exact hz, fun q h1 h2 => by rw [e1]; exact hk q h1 h2,
    ⟨Nat.le_trans hS.1 (by rw [e1]; exact hz), fun q h1 h2 => by rw [e1, hk q (Nat.lt_of_lt_of_le h1 hS.1) (fun z => h2 (hA q (Nat.lt_of_lt_of_le h1 hS.1) z))]; exact hS.2.1 q h1 h2, fun q hq => by
      rcases List.mem_append.mp hq with h | h
      · exact hS.2.2 q h
      · exact hf _ (hL q h)⟩⟩
theorem vx_calli {S SX : Type} {post : Int32 → S → Prop} {px : SX → Prop} {B : S → State → Prop} {BX : String → SX → State → Prop} {AX : Nat → Prop} (hr : vx_Run p l e R s m args below meth c H locs cells slots mc ms (F0 m pc ls st0) rest (va_Qi post B A1 a) (vx_X px BX AX) free) (hS : va_S A0 H0 H locs) (hA : ∀ q, q < H.size → A1 q → A0 q) (hf : ∀ q, free q → A0 q) (hAX : ∀ q, q < H.size → AX q → A0 q)
    (kx : ∀ (E : String) (ce : Cell) (q9 : Addr) (u : SX) (t : State) (H1 : Heap) (locs1 : List Loc), t.heap = H1 → s.vm.Alike t.vm → px u → BX E u t → H.size ≤ H1.size → (∀ q : Nat, q < H.size → ¬ AX q → H1[q]? = H[q]?) → va_S A0 H0 H1 locs1 → H1[q9]? = some ce → ce.vm = .none → s.vm.findClass E = some ce.cls → vx_W p l e R s m args below meth c H1 locs1 (cells + mc) (slots + ms) Q (F0 m pc ls rest) q9)
    (kk : ∀ (r : Int32) (u : S) (t : State) (H1 : Heap) (locs1 : List Loc), t.heap = H1 → s.vm.Alike t.vm → post r u → B u t → H.size ≤ H1.size → (∀ q : Nat, q < H.size → ¬ A1 q → H1[q]? = H[q]?) → va_S A0 H0 H1 locs1 → W p l e R s m args below meth c H1 locs1 (cells + mc) (slots + ms) Q (F0 m (pc + 3) ls (.int r :: rest))) : W p l e R s m args below meth c H locs cells slots Q (F0 m pc ls st0) := by
  intro T hT X
  rcases hr T hT X with ⟨v, st₀, t, T', L, h0, X', hL, e1, e2, ⟨⟨r, u, hv, hp, hb⟩, hF⟩, st⟩ | ⟨q, st₀, t, T', L, E, ce, h0, X', hL, e1, e2, ⟨u, hp, hb, hF⟩, hce, hcv, hcl, st⟩
  · cases hv
    obtain ⟨k1, k2, k3⟩ := vx_keep h0 e1 hS hA hf hL hF
    obtain ⟨t2, a1, b1⟩ := kk r u t T'.heap (locs ++ L) e1.symm (by rw [← e2]; exact X'.warmed.alike) hp hb k1 k2 k3 T' rfl X'
    exact ⟨t2, st t2 a1, b1⟩
  · obtain ⟨k1, k2, k3⟩ := vx_keep h0 e1 hS hAX hf hL hF
    obtain ⟨t2, a1, b1⟩ := kx E ce q u t T'.heap (locs ++ L) e1.symm (by rw [← e2]; exact X'.warmed.alike) hp hb k1 k2 k3 (by rw [e1]; exact hce) hcv hcl T' rfl X'
    exact ⟨t2, st.trans a1, b1⟩
theorem vx_calll {S SX : Type} {post : Int64 → S → Prop} {px : SX → Prop} {B : S → State → Prop} {BX : String → SX → State → Prop} {AX : Nat → Prop} (hr : vx_Run p l e R s m args below meth c H locs cells slots mc ms (F0 m pc ls st0) rest (va_Ql post B A1 a) (vx_X px BX AX) free) (hS : va_S A0 H0 H locs) (hA : ∀ q, q < H.size → A1 q → A0 q) (hf : ∀ q, free q → A0 q) (hAX : ∀ q, q < H.size → AX q → A0 q)
    (kx : ∀ (E : String) (ce : Cell) (q9 : Addr) (u : SX) (t : State) (H1 : Heap) (locs1 : List Loc), t.heap = H1 → s.vm.Alike t.vm → px u → BX E u t → H.size ≤ H1.size → (∀ q : Nat, q < H.size → ¬ AX q → H1[q]? = H[q]?) → va_S A0 H0 H1 locs1 → H1[q9]? = some ce → ce.vm = .none → s.vm.findClass E = some ce.cls → vx_W p l e R s m args below meth c H1 locs1 (cells + mc) (slots + ms) Q (F0 m pc ls rest) q9)
    (kk : ∀ (r : Int64) (u : S) (t : State) (H1 : Heap) (locs1 : List Loc), t.heap = H1 → s.vm.Alike t.vm → post r u → B u t → H.size ≤ H1.size → (∀ q : Nat, q < H.size → ¬ A1 q → H1[q]? = H[q]?) → va_S A0 H0 H1 locs1 → W p l e R s m args below meth c H1 locs1 (cells + mc) (slots + ms) Q (F0 m (pc + 3) ls (.long r :: rest))) : W p l e R s m args below meth c H locs cells slots Q (F0 m pc ls st0) := by
  intro T hT X
  rcases hr T hT X with ⟨v, st₀, t, T', L, h0, X', hL, e1, e2, ⟨⟨r, u, hv, hp, hb⟩, hF⟩, st⟩ | ⟨q, st₀, t, T', L, E, ce, h0, X', hL, e1, e2, ⟨u, hp, hb, hF⟩, hce, hcv, hcl, st⟩
  · cases hv
    obtain ⟨k1, k2, k3⟩ := vx_keep h0 e1 hS hA hf hL hF
    obtain ⟨t2, a1, b1⟩ := kk r u t T'.heap (locs ++ L) e1.symm (by rw [← e2]; exact X'.warmed.alike) hp hb k1 k2 k3 T' rfl X'
    exact ⟨t2, st t2 a1, b1⟩
  · obtain ⟨k1, k2, k3⟩ := vx_keep h0 e1 hS hAX hf hL hF
    obtain ⟨t2, a1, b1⟩ := kx E ce q u t T'.heap (locs ++ L) e1.symm (by rw [← e2]; exact X'.warmed.alike) hp hb k1 k2 k3 (by rw [e1]; exact hce) hcv hcl T' rfl X'
    exact ⟨t2, st.trans a1, b1⟩
theorem vx_callf {S SX : Type} {post : UInt32 → S → Prop} {px : SX → Prop} {B : S → State → Prop} {BX : String → SX → State → Prop} {AX : Nat → Prop} (hr : vx_Run p l e R s m args below meth c H locs cells slots mc ms (F0 m pc ls st0) rest (va_Qf post B A1 a) (vx_X px BX AX) free) (hS : va_S A0 H0 H locs) (hA : ∀ q, q < H.size → A1 q → A0 q) (hf : ∀ q, free q → A0 q) (hAX : ∀ q, q < H.size → AX q → A0 q)
    (kx : ∀ (E : String) (ce : Cell) (q9 : Addr) (u : SX) (t : State) (H1 : Heap) (locs1 : List Loc), t.heap = H1 → s.vm.Alike t.vm → px u → BX E u t → H.size ≤ H1.size → (∀ q : Nat, q < H.size → ¬ AX q → H1[q]? = H[q]?) → va_S A0 H0 H1 locs1 → H1[q9]? = some ce → ce.vm = .none → s.vm.findClass E = some ce.cls → vx_W p l e R s m args below meth c H1 locs1 (cells + mc) (slots + ms) Q (F0 m pc ls rest) q9)
    (kk : ∀ (r : UInt32) (u : S) (t : State) (H1 : Heap) (locs1 : List Loc), t.heap = H1 → s.vm.Alike t.vm → post r u → B u t → H.size ≤ H1.size → (∀ q : Nat, q < H.size → ¬ A1 q → H1[q]? = H[q]?) → va_S A0 H0 H1 locs1 → W p l e R s m args below meth c H1 locs1 (cells + mc) (slots + ms) Q (F0 m (pc + 3) ls (.float r :: rest))) : W p l e R s m args below meth c H locs cells slots Q (F0 m pc ls st0) := by
  intro T hT X
  rcases hr T hT X with ⟨v, st₀, t, T', L, h0, X', hL, e1, e2, ⟨⟨r, u, hv, hp, hb⟩, hF⟩, st⟩ | ⟨q, st₀, t, T', L, E, ce, h0, X', hL, e1, e2, ⟨u, hp, hb, hF⟩, hce, hcv, hcl, st⟩
  · cases hv
    obtain ⟨k1, k2, k3⟩ := vx_keep h0 e1 hS hA hf hL hF
    obtain ⟨t2, a1, b1⟩ := kk r u t T'.heap (locs ++ L) e1.symm (by rw [← e2]; exact X'.warmed.alike) hp hb k1 k2 k3 T' rfl X'
    exact ⟨t2, st t2 a1, b1⟩
  · obtain ⟨k1, k2, k3⟩ := vx_keep h0 e1 hS hAX hf hL hF
    obtain ⟨t2, a1, b1⟩ := kx E ce q u t T'.heap (locs ++ L) e1.symm (by rw [← e2]; exact X'.warmed.alike) hp hb k1 k2 k3 (by rw [e1]; exact hce) hcv hcl T' rfl X'
    exact ⟨t2, st.trans a1, b1⟩
theorem vx_calld {S SX : Type} {post : UInt64 → S → Prop} {px : SX → Prop} {B : S → State → Prop} {BX : String → SX → State → Prop} {AX : Nat → Prop} (hr : vx_Run p l e R s m args below meth c H locs cells slots mc ms (F0 m pc ls st0) rest (va_Qd post B A1 a) (vx_X px BX AX) free) (hS : va_S A0 H0 H locs) (hA : ∀ q, q < H.size → A1 q → A0 q) (hf : ∀ q, free q → A0 q) (hAX : ∀ q, q < H.size → AX q → A0 q)
    (kx : ∀ (E : String) (ce : Cell) (q9 : Addr) (u : SX) (t : State) (H1 : Heap) (locs1 : List Loc), t.heap = H1 → s.vm.Alike t.vm → px u → BX E u t → H.size ≤ H1.size → (∀ q : Nat, q < H.size → ¬ AX q → H1[q]? = H[q]?) → va_S A0 H0 H1 locs1 → H1[q9]? = some ce → ce.vm = .none → s.vm.findClass E = some ce.cls → vx_W p l e R s m args below meth c H1 locs1 (cells + mc) (slots + ms) Q (F0 m pc ls rest) q9)
    (kk : ∀ (r : UInt64) (u : S) (t : State) (H1 : Heap) (locs1 : List Loc), t.heap = H1 → s.vm.Alike t.vm → post r u → B u t → H.size ≤ H1.size → (∀ q : Nat, q < H.size → ¬ A1 q → H1[q]? = H[q]?) → va_S A0 H0 H1 locs1 → W p l e R s m args below meth c H1 locs1 (cells + mc) (slots + ms) Q (F0 m (pc + 3) ls (.double r :: rest))) : W p l e R s m args below meth c H locs cells slots Q (F0 m pc ls st0) := by
  intro T hT X
  rcases hr T hT X with ⟨v, st₀, t, T', L, h0, X', hL, e1, e2, ⟨⟨r, u, hv, hp, hb⟩, hF⟩, st⟩ | ⟨q, st₀, t, T', L, E, ce, h0, X', hL, e1, e2, ⟨u, hp, hb, hF⟩, hce, hcv, hcl, st⟩
  · cases hv
    obtain ⟨k1, k2, k3⟩ := vx_keep h0 e1 hS hA hf hL hF
    obtain ⟨t2, a1, b1⟩ := kk r u t T'.heap (locs ++ L) e1.symm (by rw [← e2]; exact X'.warmed.alike) hp hb k1 k2 k3 T' rfl X'
    exact ⟨t2, st t2 a1, b1⟩
  · obtain ⟨k1, k2, k3⟩ := vx_keep h0 e1 hS hAX hf hL hF
    obtain ⟨t2, a1, b1⟩ := kx E ce q u t T'.heap (locs ++ L) e1.symm (by rw [← e2]; exact X'.warmed.alike) hp hb k1 k2 k3 (by rw [e1]; exact hce) hcv hcl T' rfl X'
    exact ⟨t2, st.trans a1, b1⟩
theorem vx_callv {S SX : Type} {post : S → Prop} {px : SX → Prop} {B : S → State → Prop} {BX : String → SX → State → Prop} {AX : Nat → Prop} (hr : vx_Run p l e R s m args below meth c H locs cells slots mc ms (F0 m pc ls st0) rest (va_Qv post B A1 a) (vx_X px BX AX) free) (hS : va_S A0 H0 H locs) (hA : ∀ q, q < H.size → A1 q → A0 q) (hf : ∀ q, free q → A0 q) (hAX : ∀ q, q < H.size → AX q → A0 q)
    (kx : ∀ (E : String) (ce : Cell) (q9 : Addr) (u : SX) (t : State) (H1 : Heap) (locs1 : List Loc), t.heap = H1 → s.vm.Alike t.vm → px u → BX E u t → H.size ≤ H1.size → (∀ q : Nat, q < H.size → ¬ AX q → H1[q]? = H[q]?) → va_S A0 H0 H1 locs1 → H1[q9]? = some ce → ce.vm = .none → s.vm.findClass E = some ce.cls → vx_W p l e R s m args below meth c H1 locs1 (cells + mc) (slots + ms) Q (F0 m pc ls rest) q9)
    (kk : ∀ (u : S) (t : State) (H1 : Heap) (locs1 : List Loc), t.heap = H1 → s.vm.Alike t.vm → post u → B u t → H.size ≤ H1.size → (∀ q : Nat, q < H.size → ¬ A1 q → H1[q]? = H[q]?) → va_S A0 H0 H1 locs1 → W p l e R s m args below meth c H1 locs1 (cells + mc) (slots + ms) Q (F0 m (pc + 3) ls (rest))) : W p l e R s m args below meth c H locs cells slots Q (F0 m pc ls st0) := by
  intro T hT X
  rcases hr T hT X with ⟨v, st₀, t, T', L, h0, X', hL, e1, e2, ⟨⟨u, hv, hp, hb⟩, hF⟩, st⟩ | ⟨q, st₀, t, T', L, E, ce, h0, X', hL, e1, e2, ⟨u, hp, hb, hF⟩, hce, hcv, hcl, st⟩
  · cases hv
    obtain ⟨k1, k2, k3⟩ := vx_keep h0 e1 hS hA hf hL hF
    obtain ⟨t2, a1, b1⟩ := kk u t T'.heap (locs ++ L) e1.symm (by rw [← e2]; exact X'.warmed.alike) hp hb k1 k2 k3 T' rfl X'
    exact ⟨t2, st t2 a1, b1⟩
  · obtain ⟨k1, k2, k3⟩ := vx_keep h0 e1 hS hAX hf hL hF
    obtain ⟨t2, a1, b1⟩ := kx E ce q u t T'.heap (locs ++ L) e1.symm (by rw [← e2]; exact X'.warmed.alike) hp hb k1 k2 k3 (by rw [e1]; exact hce) hcv hcl T' rfl X'
    exact ⟨t2, st.trans a1, b1⟩
/-- caught by the row x of this method's table; the rows ahead don't take it -/
theorem vx_catch {own name : String} {E : String} {ce : Cell} {q : Addr} (hown : s.vm.findClass own = some m.cls) (pre : List ExceptionTableEntry) (x : ExceptionTableEntry) (suf : List ExceptionTableEntry) (hsplit : c.exceptionTable.toList = pre ++ x :: suf)
    (hpass : ∀ z ∈ pre, covers z pc = false ∨ (z.catchType ≠ 0 ∧ ∃ nm : String, (Cond.classLink own z.catchType nm).before args s = true ∧ va_Nc E nm s)) (hx : covers x pc = true) (h0 : x.catchType ≠ 0)
    (hlink : (Cond.classLink own x.catchType name).before args s = true) (hcast : (Cond.castable E name).before args s = true) (hcell : H[q]? = some ce) (hv : ce.vm = .none) (hcl : s.vm.findClass E = some ce.cls)
    (kk : W p l e R s m args below meth c H locs cells slots Q (F0 m x.handlerPc ls [.ref q])) : vx_W p l e R s m args below meth c H locs cells slots Q (F0 m pc ls rest) q := by
  intro T hT X
  have hpl : e.platform.magicAccessors = ({} : Platform).magicAccessors := by rw [X.admits.platform]
  obtain ⟨c3, c4, hc3, hc4, hasg⟩ := Cond.castable_spec hcast
  cases Option.some.inj (hc3.symm.trans hcl)
  obtain ⟨c5, hc5, hcl5⟩ := Cond.classLink_spec hown hlink e.platform hpl
  cases Option.some.inj (hc4.symm.trans hc5)
  obtain ⟨vm', X', st⟩ := X.thenCaughtThrough q (g := F0 m pc ls rest) rfl (Steps.refl _) (by rw [hT]; exact hcell) (by rw [hv]; rfl) (by obtain ⟨k9, h9, -⟩ := Vm.findClass_spec hcl; exact ⟨k9, h9⟩) pre x suf hsplit
    (fun z hz => by
      rcases hpass z hz with h | ⟨hz0, nm, hl1, hn1⟩
      · exact Or.inl h
      · obtain ⟨c6, hc6, hcl6⟩ := Cond.classLink_spec hown hl1 e.platform hpl
        obtain ⟨a8, b8, h1, h2, h3⟩ := hn1
        cases Option.some.inj (h1.symm.trans hcl)
        cases Option.some.inj (h2.symm.trans hc6)
        exact Or.inr ⟨hz0, _, hcl6, h3⟩) hx (Or.inr ⟨h0, c4, hcl5, hasg⟩)
  obtain ⟨t, a1, b1⟩ := kk (T.setVm vm') hT X'
  exact ⟨t, st.trans a1, b1⟩
end Rows
section Ends
variable {p : Program} {l : Launch} {e : Env} {R : Room} {s : State} {m : MethodId} {args : Array Value} {below : List Frame} {meth : Method} {c : Code} {H : Heap} {locs : List Loc} {cells slots : Nat} {Q : State → Prop}
variable {mc ms : Nat} {free : Addr → Prop} {A0 A1 : Nat → Prop} {H0 : Heap} {a : Array Value} {ls : Array Slot} {st0 rest : List Value}
variable {Qc : Array Value → State → Outcome → State → Prop} {XC : String → State → State → Prop}
/-- what a body that may throw owes at its end -/
def vx_MQ (below : List Frame) (Qc : Array Value → State → Outcome → State → Prop) (XC : String → State → State → Prop) (a : Array Value) (s : State) (mc ms : Nat) (free : Addr → Prop) : State → Prop := fun t =>
  ∃ o, t.status = .running ∧ Ended t below o ∧ vx_Q Qc XC mc ms free a s o t
theorem vx_ret {g : JFrame} {mc ms : Nat} (k : W p l e R s m args below meth c H locs cells slots (MQ below Qc args s mc ms free) g) : W p l e R s m args below meth c H locs cells slots (vx_MQ below Qc XC args s mc ms free) g := by
  intro T hT X
  obtain ⟨t, a1, o, b1, b2, b3, b4⟩ := k T hT X
  exact ⟨t, a1, o, b1, b2, Or.inl ⟨b3, b4⟩⟩
/-- not caught here: it goes on to the caller -/
theorem vx_widen {g : JFrame} {q : Addr} {k n : Nat} (h1 : cells ≤ k) (h2 : slots ≤ n) (kk : vx_W p l e R s m args below meth c H locs k n Q g q) : vx_W p l e R s m args below meth c H locs cells slots Q g q := fun T hT X => kk T hT (stand_widen X h1 h2)
theorem vx_out {pc : Nat} {E : String} {ce : Cell} {q : Addr} {mc ms : Nat} (hout : ∀ x ∈ c.exceptionTable.toList, covers x pc = false) (hlocks : meth.locks = false) (hcell : H[q]? = some ce) (hv : ce.vm = .none) (hcl : s.vm.findClass E = some ce.cls)
    (hx : ∀ t : State, t.heap = H → s.vm.Alike t.vm → XC E s t) (hf : ∀ z ∈ locs, free z.base) (hc : cells ≤ mc) (hs : slots ≤ ms) :
    vx_W p l e R s m args below meth c H locs cells slots (vx_MQ below Qc XC args s mc ms free) (F0 m pc ls rest) q := by
  intro T hT X
  obtain ⟨st1, hrun, hend, hW, hsm⟩ := X.leaveThrown q (g := F0 m pc ls rest) rfl rfl rfl hout hlocks
  have hcell9 : (T.setFrames (.throwing q :: below)).heap[q]? = some ce := by
    show T.heap[q]? = some ce
    rw [hT]; exact hcell
  exact ⟨_, st1, .threw q, hrun, hend, Or.inr ⟨q, rfl, E, ce, locs, hx _ hT hW.alike, hcell9, hv, hcl, hW, hsm.mono hc hs, hf⟩⟩
theorem vx_frame {U : State} {k n : Nat} (h : s.sameButNew ({ U with vm := s.vm } : State) locs k n) : s.heap.size ≤ U.heap.size ∧ ∀ q : Nat, q < s.heap.size → (∀ z ∈ locs, z.base ≠ q) → U.heap[q]? = s.heap[q]? := by
  obtain ⟨-, h2, -, -, -, h6⟩ := h
  refine ⟨h2, fun q hq hz => ?_⟩
  obtain ⟨c9, e1, e2, e3, e4⟩ := h6 q _ (Array.getElem?_eq_getElem hq)
  have hs : c9.slots = (s.heap[q]).slots := Array.ext_getElem? fun i => e4 i fun hm => hz _ hm rfl
  have h9 : c9 = s.heap[q] := by
    rw [hs] at e2
    exact e2
  have e5 : U.heap[q]? = some c9 := e1
  rw [e5, h9, Array.getElem?_eq_getElem hq]
/-- the words of a throw but the four that speak of the heap -/
def vx_no (w : Cond) : Bool := decide (w ≠ .isRef (.static Bundle.tN "UNASSIGNED_STACK" Bundle.steD)) && decide (w ≠ .isRef (.static Bundle.tN "SUPPRESSED_SENTINEL" Bundle.listD)) && decide (w ≠ .laysStatic Bundle.tN "UNASSIGNED_STACK" Bundle.steD) && decide (w ≠ .laysStatic Bundle.tN "SUPPRESSED_SENTINEL" Bundle.listD)
def vx_at0 (own : String) (ic : Nat) (X : String) (names : List String) : List Cond := (Bundle.ownAtoms0 own ic X names).filter vx_no
def vx_atS (own : String) (ic : Nat) (X : String) (names : List String) : List Cond := (Bundle.ownAtoms own ic X names).filter vx_no
/-- a word that the tables alone decide, or a good one -/
def vx_ot (w : Cond) : Bool := w.onTables || goodWord w
theorem vx_ot_at {args a' : Array Value} {s U : State} {w : Cond} (hW : s.WarmedH U.vm) (hvm : s.vm = U.vm) (hg : vx_ot w = true) (h : w.before args s = true) : w.before a' U = true := by
  simp only [vx_ot, Bool.or_eq_true] at hg
  rcases hg with hg | hg
  · exact va_tabs hg hvm h
  · exact word_at hW (good_of_word hg) h
/-- a list's words: the good ones out of the method's own list, the others by premises of their own -/
theorem vx_hat {args : Array Value} {s : State} {L B : List Cond} (h1 : ∀ w ∈ L.filter goodWord, w.before args s = true) (h2 : ∀ w ∈ L.filter (fun w => !goodWord w), w ∈ B) (h3 : ∀ w ∈ B, w.before args s = true) : ∀ w ∈ L, w.before args s = true := by
  intro w hw
  by_cases g : goodWord w = true
  · exact h1 w (List.mem_filter.mpr ⟨hw, g⟩)
  · refine h3 w (h2 w (List.mem_filter.mpr ⟨hw, ?_⟩))
    show (!goodWord w) = true
    cases hgw : goodWord w
    · rfl
    · exact absurd hgw g
theorem vx_c {args : Array Value} {s : State} {w : Cond} {B : List Cond} (h : w.before args s = true) (t : ∀ w ∈ B, w.before args s = true) : ∀ w' ∈ w :: B, w'.before args s = true := fun w' h' => (List.mem_cons.mp h').elim (fun e => by rw [e]; exact h) (t w')
theorem vx_n {args : Array Value} {s : State} : ∀ w ∈ ([] : List Cond), w.before args s = true := fun _ h => nomatch h
theorem vx_own {args : Array Value} {s : State} {L : List Cond} (h1 : ∀ w ∈ L.filter vx_no, w.before args s = true)
    (hU : (Cond.isRef (.static Bundle.tN "UNASSIGNED_STACK" Bundle.steD)).before args s = true) (hN : (Cond.isRef (.static Bundle.tN "SUPPRESSED_SENTINEL" Bundle.listD)).before args s = true)
    (lU : (Cond.laysStatic Bundle.tN "UNASSIGNED_STACK" Bundle.steD).before args s = true) (lN : (Cond.laysStatic Bundle.tN "SUPPRESSED_SENTINEL" Bundle.listD).before args s = true) : ∀ w ∈ L, w.before args s = true := by
  intro w hw
  by_cases e1 : w = .isRef (.static Bundle.tN "UNASSIGNED_STACK" Bundle.steD)
  · rw [e1]; exact hU
  · by_cases e2 : w = .isRef (.static Bundle.tN "SUPPRESSED_SENTINEL" Bundle.listD)
    · rw [e2]; exact hN
    · by_cases e3 : w = .laysStatic Bundle.tN "UNASSIGNED_STACK" Bundle.steD
      · rw [e3]; exact lU
      · by_cases e4 : w = .laysStatic Bundle.tN "SUPPRESSED_SENTINEL" Bundle.listD
        · rw [e4]; exact lN
        · exact h1 w (List.mem_filter.mpr ⟨hw, by unfold vx_no; rw [decide_eq_true e1, decide_eq_true e2, decide_eq_true e3, decide_eq_true e4]; rfl⟩)
/-- where a static field lies, its class's statics cell in H -/
def vx_L (C n d : String) (A : Nat → Prop) (U : State) (H : Heap) : Prop := ∃ (c : ClassId) (k : Class) (i : Nat) (f : Field) (a : Nat) (cell : Cell), U.vm.findClass C = some c ∧ U.fieldFound? C n d = some (c, k, i, f) ∧ f.isStatic = true ∧ k.statics = some a ∧ H[a]? = some cell ∧ cell.vm.isStatics = true ∧ cell.cls = c ∧ f.slot < cell.slots.size ∧ k.staticTypes[f.slot]? = some f.type ∧ ¬ A a
theorem vx_L.moved {C n d : String} {A : Nat → Prop} {u U : State} {H : Heap} (hvm : u.vm.Alike U.vm) (h : vx_L C n d A u H) : vx_L C n d A U H := by
  obtain ⟨c, k, i, f, a, cell, h1, h2, h3, h4, h5, h6, h7, h8, h9, h10⟩ := h
  obtain ⟨k', hi', he⟩ := State.fieldFound?_setVm hvm h2
  exact ⟨c, k', i, f, a, cell, by rw [hvm.findClass]; exact h1, hi', h3, by rw [he]; exact h4, h5, h6, h7, h8, by rw [he]; exact h9, h10⟩
theorem vx_L.kept {C n d : String} {A : Nat → Prop} {U : State} {H H1 : Heap} (h : vx_L C n d A U H) (hq : ∀ a : Nat, a < H.size → ¬ A a → H1[a]? = H[a]?) : vx_L C n d A U H1 := by
  obtain ⟨c, k, i, f, a, cell, h1, h2, h3, h4, h5, h6, h7, h8, h9, h10⟩ := h
  exact ⟨c, k, i, f, a, cell, h1, h2, h3, h4, by rw [hq a (Array.getElem?_eq_some_iff.mp h5).1 h10]; exact h5, h6, h7, h8, h9, h10⟩
theorem vx_L.narrow {C n d : String} {A B : Nat → Prop} {U : State} {H : Heap} (h : vx_L C n d A U H) (hAB : ∀ q, B q → A q) : vx_L C n d B U H := by
  obtain ⟨c, k, i, f, a, cell, h1, h2, h3, h4, h5, h6, h7, h8, h9, h10⟩ := h
  exact ⟨c, k, i, f, a, cell, h1, h2, h3, h4, h5, h6, h7, h8, h9, fun z => h10 (hAB _ z)⟩
theorem vx_L.word {C n d : String} {A : Nat → Prop} {s : State} {args : Array Value} (h : vx_L C n d A s s.heap) : (Cond.laysStatic C n d).before args s = true := by
  obtain ⟨c, k, i, f, a, cell, h1, h2, h3, h4, h5, h6, h7, h8, h9, -⟩ := h
  show (Cond.laysStatic C n d).holds args s none s [] = true
  exact Cond.laysStatic_of h1 h2 h3 h4 h5 h6 h7 h8 h9
/-- .. and what it holds: null or some reference -/
def vx_Zq (C n d : String) (A : Nat → Prop) (U : State) (H : Heap) : Prop := va_Zq C n d A U H ∧ vx_L C n d A U H
theorem vx_Zq.moved {C n d : String} {A : Nat → Prop} {u U : State} {H : Heap} (hvm : u.vm.Alike U.vm) (h : vx_Zq C n d A u H) : vx_Zq C n d A U H := ⟨va_Zq.moved hvm h.1, vx_L.moved hvm h.2⟩
theorem vx_Zq.kept {C n d : String} {A : Nat → Prop} {U : State} {H H1 : Heap} (h : vx_Zq C n d A U H) (hq : ∀ a : Nat, a < H.size → ¬ A a → H1[a]? = H[a]?) : vx_Zq C n d A U H1 := ⟨va_Zq.kept h.1 hq, vx_L.kept h.2 hq⟩
theorem vx_Zq.narrow {C n d : String} {A B : Nat → Prop} {U : State} {H : Heap} (h : vx_Zq C n d A U H) (hAB : ∀ q, B q → A q) : vx_Zq C n d B U H := ⟨va_Zq.narrow h.1 hAB, vx_L.narrow h.2 hAB⟩
theorem vx_Zqof {args : Array Value} {s : State} {C n d : String} {A : Nat → Prop} (hl : (Cond.laysStatic C n d).before args s = true) (hini : (Cond.initialized C).before args s = true) (h : (Cond.isRef (.static C n d)).before args s = true) (hA : ∀ a : Nat, a < s.heap.size → ¬ A a) : vx_Zq C n d A s s.heap := by
  refine ⟨va_Zqof hl hini h hA, ?_⟩
  obtain ⟨c, k, i, f, a, cell, h1, h2, h3, h4, h5, h6, h7, h8, h9⟩ := Cond.laysStatic_spec hl
  exact ⟨c, k, i, f, a, cell, h1, h2, h3, h4, h5, h6, h7, h8, h9, hA a (Array.getElem?_eq_some_iff.mp h5).1⟩
theorem vx_isRef {C n d : String} {v : Value} {A : Nat → Prop} {s : State} {args : Array Value} (h : va_Z C n d v A s s.heap) (hv : v.isRef = true) : (Cond.isRef (.static C n d)).before args s = true := by
  obtain ⟨cf, kf, fi, f, a, cell, h1, h2, h3, h4, h5, h6, h7, -⟩ := h
  have he : (Term.static C n d).eval args s none [] s = some v := by
    simp [Term.eval, State.fieldNamed?, h1, h2, h4, h5, h6, h7]
  simp only [Cond.before, Cond.holds, Cond.value, he]
  cases v <;> simp_all [Value.isRef]
theorem vx_isRefq {C n d : String} {A : Nat → Prop} {s : State} {args : Array Value} (h : va_Zq C n d A s s.heap) : (Cond.isRef (.static C n d)).before args s = true := by
  rcases h with h | ⟨t, h⟩
  · exact vx_isRef h rfl
  · exact vx_isRef h rfl
/-- the same frame, seen from here: as if the method were called anew in this heap -/
theorem vx_rebase {T : State} (X : Stand p l e R s m args below meth c T locs cells slots) {R' : Room} (hf : R'.frames ≤ R.frames) (hl : R'.locals ≤ R.locals) (hc : cells + R'.cells ≤ R.cells) (hs : slots + R'.slots ≤ R.slots) :
    Stand p l e R' ((T.setVm s.vm).setFrames (.invoking m args :: below)) m args below meth c T [] 0 0 := by
  have htop : (T.setVm s.vm).topJava?.isSome := X.here.top
  have hF : ((T.setVm s.vm).setFrames (.invoking m args :: below)).frames = .invoking m args :: below := State.frames_setFrames _ (State.cur_lt_of_top htop)
  obtain ⟨g₀, hg0⟩ := Option.isSome_iff_exists.mp htop
  obtain ⟨r, hr⟩ := State.topJava?_eq_some.mp hg0
  have hl9 : e.platform.stackLimits (T.setVm s.vm).me = e.platform.stackLimits s.me := X.limits
  have hb9 : (T.setVm s.vm).me.stackBytes = s.me.stackBytes := X.bytes
  refine ⟨X.admits, X.cas, X.clock, hF, ?_, X.hears, X.method, X.code, X.here, X.tail, X.warmed, ?_, ?_, ?_⟩
  · have h := X.room
    have hU : ((T.setVm s.vm).setFrames (.invoking m args :: below)).localsInUse = s.localsInUse := by
      rw [State.localsInUse_invoking hF (meth := meth) (c := c) X.method X.code, State.localsInUse_invoking X.frames X.method X.code]
    simp only [State.hasRoom, Bool.and_eq_true, decide_eq_true_eq] at h ⊢
    obtain ⟨⟨⟨⟨h1, h2, h3, h4, h5, h6⟩, h7⟩, h8⟩, h9⟩ := h
    rw [X.frames, List.length_cons] at h2 h3
    have q1 := X.heapSize
    have q2 := X.used
    simp only [hF, hU, List.length_cons, State.stackLimits_setFrames, State.stackBytes_setFrames, hl9, hb9]
    refine ⟨⟨⟨⟨by omega, by omega, by omega, by omega, by omega, h6⟩, ?_⟩, ?_⟩, X.book⟩
    · show T.heap.size + R'.cells ≤ e.platform.maxCells
      omega
    · show T.slotsUsed + R'.slots ≤ e.platform.maxSlots
      omega
  · rw [State.stackLimits_setFrames]; rfl
  · rw [State.stackBytes_setFrames]; rfl
  · refine ⟨?_, Nat.le_refl _, Nat.le_refl _, ?_, ?_, fun a c9 h9 => ⟨c9, h9, rfl, rfl, fun _ _ => rfl⟩⟩
    · obtain ⟨t, ht, -⟩ := State.frames_cons hr
      show T.setVm s.vm = { ((T.setVm s.vm).setFrames (.invoking m args :: below)).setFrames (T.setVm s.vm).frames with heap := T.heap, slotsUsed := T.slotsUsed }
      rw [State.setFrames_setFrames, State.setFrames_self ht]
      rfl
    · show T.slotsUsed = T.slotsUsed + ((T.heap.toList.drop T.heap.size).map (·.slots.size)).sum
      rw [List.drop_eq_nil_of_le (Nat.le_of_eq Array.length_toList)]
      rfl
    · show ((T.heap.toList.drop T.heap.size).map (·.slots.size)).sum ≤ 0
      rw [List.drop_eq_nil_of_le (Nat.le_of_eq Array.length_toList)]
      exact Nat.le_refl _
/-- 'throw new E()': new; dup; invokespecial; athrow -/
theorem vx_throw0 {cc : ByteArray} {pc : Nat} (hexec : p.tables.exec = Jvm.exec) (hb : c.code = cc) (hl : l.stackTraces = false) {own cls : String} {names : List String} {ik ic mc ms : Nat} {A : Nat → Prop}
    (hown : s.vm.findClass own = some m.cls) (hcls : Bundle.fit cls = true) (hnames : ∀ n ∈ names, Bundle.fit n = true)
    (hk : (Cond.classLink own ik cls).before args s = true) (hini : (Cond.initialized cls).before args s = true) (hat : ∀ w ∈ vx_at0 own ic cls names, w.before args s = true)
    (hgood : ∀ w ∈ Cond.classLink own ik cls :: Cond.initialized cls :: vx_at0 own ic cls names, vx_ot w = true)
    (hU : vx_Zq Bundle.tN "UNASSIGNED_STACK" Bundle.steD A s s.heap) (hN : vx_Zq Bundle.tN "SUPPRESSED_SENTINEL" Bundle.listD A s s.heap) (hS : va_S A s.heap H locs) (hsize : ls.size = c.maxLocals)
    (d0 : decode cc pc = .ok (.new ik, 3)) (d3 : decode cc (pc + 3) = .ok (.dup, 1)) (d4 : decode cc (pc + 4) = .ok (.invokespecial ic, 3)) (d7 : decode cc (pc + 7) = .ok (.athrow, 1))
    (hout : ∀ x ∈ c.exceptionTable.toList, covers x (pc + 7) = false)
    (hRframes : names.length + 3 < R.frames) (hRlocals : (rest.map fun v => v.category).sum + (13 * (names.length + 1) + 42) ≤ R.locals) (hRcells : cells + 1 ≤ R.cells) (hRslots : slots + 6 ≤ R.slots) (hlocks : meth.locks = false)
    (hx : ∀ t : State, s.vm.Alike t.vm → H.size ≤ t.heap.size → (∀ q : Nat, q < H.size → t.heap[q]? = H[q]?) → XC cls s t)
    (hf : ∀ z ∈ locs, free z.base) (hc : cells + 1 ≤ mc) (hs : slots + 6 ≤ ms) :
    W p l e R s m args below meth c H locs cells slots (vx_MQ below Qc XC args s mc ms free) (F0 m pc ls rest) := by
  intro T hT X
  have htr : e.platform.stackTraces = false := (show e.platform.stackTraces = l.stackTraces by rw [X.admits.platform]).trans hl
  have Y := vx_rebase X (R' := { frames := R.frames, locals := R.locals, cells := 1, slots := 6 }) (Nat.le_refl _) (Nat.le_refl _) hRcells hRslots
  obtain ⟨s', hA⟩ : ∃ z, z = (T.setVm s.vm).setFrames (.invoking m args :: below) := ⟨_, rfl⟩
  rw [← hA] at Y
  have hvm : s'.vm = s.vm := by rw [hA]; rfl
  have hhp : s'.heap = H := by rw [hA]; exact hT
  have hW0 : s.WarmedH s'.vm := by rw [hvm]; exact State.WarmedH.refl s
  have hat' : ∀ w ∈ vx_at0 own ic cls names, w.before args s' = true := fun w hw => vx_ot_at hW0 hvm.symm (hgood w (List.mem_cons_of_mem _ (List.mem_cons_of_mem _ hw))) (hat w hw)
  have hk' : (Cond.classLink own ik cls).before args s' = true := vx_ot_at hW0 hvm.symm (hgood _ List.mem_cons_self) hk
  have hini' : (Cond.initialized cls).before args s' = true := vx_ot_at hW0 hvm.symm (hgood _ (List.mem_cons_of_mem _ List.mem_cons_self)) hini
  have hU' : vx_Zq Bundle.tN "UNASSIGNED_STACK" Bundle.steD A s' s'.heap := by rw [hhp]; exact vx_Zq.moved hW0.alike (hU.kept hS.2.1)
  have hN' : vx_Zq Bundle.tN "SUPPRESSED_SENTINEL" Bundle.listD A s' s'.heap := by rw [hhp]; exact vx_Zq.moved hW0.alike (hN.kept hS.2.1)
  have h : ∀ w ∈ Bundle.ownAtoms0 own ic cls names, w.before args s' = true := vx_own hat' (vx_isRefq hU'.1) (vx_isRefq hN'.1) hU'.2.word hN'.2.word
  have hown' : s'.vm.findClass own = some m.cls := by rw [hvm]; exact hown
  have hins : (Cond.instantiable cls 6).before args s' = true := h _ (by simp [Bundle.ownAtoms0])
  obtain ⟨vm₁, cX, kX, hfX, hkX, -, -, X₁, st1⟩ := Y.newCold hexec (own := own) (C := cls) (index := ik) (n := 6) hown' hk' hins hini'
    (g := F0 m pc ls rest) rfl (by rw [hb]; exact d0) (Nat.le_refl _) (Nat.le_refl _)
  generalize hT1 : (T.setVm vm₁).pushCell { cls := cX, slots := kX.instanceTypes.map defaultValue, vm := .none } = T1 at X₁ st1
  have hcat : (Value.ref T.heap.size).category = 1 := rfl
  have hcellA : T1.heap[T.heap.size]? = some (freshCell cX kX) := by rw [← hT1]; exact State.heap_pushCell_size _ _
  have d3' : decode c.code (pc + 3) = .ok (.dup, 1) := by rw [hb]; exact d3
  obtain ⟨U, hsteps, hrun, hend, hW, hsame, ce, hce, hO⟩ := X₁.ctorThrow0 hexec htr (own := own) (cls := cls) (names := names) (ic := ic) hown' hcls hnames h (fun x hx => nomatch hx) hfX hkX hcellA (by rw [hhp, hT]; exact Nat.le_refl _)
    (g := { method := m, pc := pc + 4, locals := ls, stack := .ref T.heap.size :: .ref T.heap.size :: rest, locked := none }) rfl hsize rfl rfl (rest := rest) rfl
    (by rw [hb]; exact d4) (by rw [hb]; exact d7) hout hRframes (by simp only [List.map_cons, List.sum_cons, hcat]; omega) hlocks
  obtain ⟨f1, f2⟩ := vx_frame hsame
  rw [hhp] at f1 f2
  have hWs : s.WarmedH U.vm := State.WarmedH.trans hW0 hW
  have hcl : s.vm.findClass cls = some ce.cls := by
    have h9 := hO.cls
    rw [hvm] at h9
    exact h9
  have hall : s.sameButNew ({ U with vm := s.vm } : State) locs mc ms := by
    subst hA
    obtain ⟨e1, e2⟩ := hsame
    rw [State.setFrames_setFrames] at e1
    have h2 : (T.setVm s.vm).sameButNew ({ U with vm := s.vm } : State) [] (0 + 1) (0 + 6) := ⟨e1, e2⟩
    have h3 := X.same.trans h2
    rw [List.append_nil] at h3
    exact h3.mono hc hs
  refine ⟨U, ?_, .threw T.heap.size, hrun, hend, Or.inr ⟨T.heap.size, rfl, cls, ce, locs, hx U hWs.alike f1 (fun q hq => f2 q hq (fun z hz => nomatch hz)), hce, hO.vm, hcl, hWs, hall, hf⟩⟩
  refine st1 _ ?_
  show Steps p.tables e below (T1.setTop { method := m, pc := pc + 3, locals := ls, stack := .ref T.heap.size :: rest, locked := none }) _
  jvm_step X₁.here [X₁.here.top, hexec, d3', Value.category]
  exact hsteps
/-- 'throw new E("text")': new; dup; ldc; invokespecial; athrow -/
theorem vx_throwS {cc : ByteArray} {pc : Nat} (hexec : p.tables.exec = Jvm.exec) (hb : c.code = cc) (hl : l.stackTraces = false) {own cls text : String} {names : List String} {ik is ic mc ms sa : Nat} {A : Nat → Prop}
    (hown : s.vm.findClass own = some m.cls) (hcls : Bundle.fit cls = true) (hnames : ∀ n ∈ names, Bundle.fit n = true)
    (hk : (Cond.classLink own ik cls).before args s = true) (hini : (Cond.initialized cls).before args s = true) (hstr : vk_R own is text sa s) (hat : ∀ w ∈ vx_atS own ic cls names, w.before args s = true)
    (hgood : ∀ w ∈ Cond.classLink own ik cls :: Cond.initialized cls :: vx_atS own ic cls names, vx_ot w = true)
    (hU : vx_Zq Bundle.tN "UNASSIGNED_STACK" Bundle.steD A s s.heap) (hN : vx_Zq Bundle.tN "SUPPRESSED_SENTINEL" Bundle.listD A s s.heap) (hS : va_S A s.heap H locs) (hsize : ls.size = c.maxLocals)
    (d0 : decode cc pc = .ok (.new ik, 3)) (d3 : decode cc (pc + 3) = .ok (.dup, 1)) (d4 : decode cc (pc + 4) = .ok (.ldc is, 2)) (d6 : decode cc (pc + 6) = .ok (.invokespecial ic, 3)) (d9 : decode cc (pc + 9) = .ok (.athrow, 1))
    (hout : ∀ x ∈ c.exceptionTable.toList, covers x (pc + 9) = false)
    (hRframes : names.length + 3 < R.frames) (hRlocals : (rest.map fun v => v.category).sum + (13 * (names.length + 1) + 43) ≤ R.locals) (hRcells : cells + 1 ≤ R.cells) (hRslots : slots + 6 ≤ R.slots) (hlocks : meth.locks = false)
    (hx : ∀ t : State, s.vm.Alike t.vm → H.size ≤ t.heap.size → (∀ q : Nat, q < H.size → t.heap[q]? = H[q]?) → XC cls s t)
    (hf : ∀ z ∈ locs, free z.base) (hc : cells + 1 ≤ mc) (hs : slots + 6 ≤ ms) :
    W p l e R s m args below meth c H locs cells slots (vx_MQ below Qc XC args s mc ms free) (F0 m pc ls rest) := by
  intro T hT X
  have htr : e.platform.stackTraces = false := (show e.platform.stackTraces = l.stackTraces by rw [X.admits.platform]).trans hl
  have Y := vx_rebase X (R' := { frames := R.frames, locals := R.locals, cells := 1, slots := 6 }) (Nat.le_refl _) (Nat.le_refl _) hRcells hRslots
  obtain ⟨s', hA⟩ : ∃ z, z = (T.setVm s.vm).setFrames (.invoking m args :: below) := ⟨_, rfl⟩
  rw [← hA] at Y
  have hvm : s'.vm = s.vm := by rw [hA]; rfl
  have hhp : s'.heap = H := by rw [hA]; exact hT
  have hW0 : s.WarmedH s'.vm := by rw [hvm]; exact State.WarmedH.refl s
  have hat' : ∀ w ∈ vx_atS own ic cls names, w.before args s' = true := fun w hw => vx_ot_at hW0 hvm.symm (hgood w (List.mem_cons_of_mem _ (List.mem_cons_of_mem _ hw))) (hat w hw)
  have hk' : (Cond.classLink own ik cls).before args s' = true := vx_ot_at hW0 hvm.symm (hgood _ List.mem_cons_self) hk
  have hini' : (Cond.initialized cls).before args s' = true := vx_ot_at hW0 hvm.symm (hgood _ (List.mem_cons_of_mem _ List.mem_cons_self)) hini
  have hU' : vx_Zq Bundle.tN "UNASSIGNED_STACK" Bundle.steD A s' s'.heap := by rw [hhp]; exact vx_Zq.moved hW0.alike (hU.kept hS.2.1)
  have hN' : vx_Zq Bundle.tN "SUPPRESSED_SENTINEL" Bundle.listD A s' s'.heap := by rw [hhp]; exact vx_Zq.moved hW0.alike (hN.kept hS.2.1)
  have h : ∀ w ∈ Bundle.ownAtoms own ic cls names, w.before args s' = true := vx_own hat' (vx_isRefq hU'.1) (vx_isRefq hN'.1) hU'.2.word hN'.2.word
  have hown' : s'.vm.findClass own = some m.cls := by rw [hvm]; exact hown
  have hins : (Cond.instantiable cls 6).before args s' = true := h _ (by simp [Bundle.ownAtoms])
  obtain ⟨vm₁, cX, kX, hfX, hkX, -, -, X₁, st1⟩ := Y.newCold hexec (own := own) (C := cls) (index := ik) (n := 6) hown' hk' hins hini'
    (g := F0 m pc ls rest) rfl (by rw [hb]; exact d0) (Nat.le_refl _) (Nat.le_refl _)
  generalize hT1 : (T.setVm vm₁).pushCell { cls := cX, slots := kX.instanceTypes.map defaultValue, vm := .none } = T1 at X₁ st1
  have hcat : (Value.ref T.heap.size).category = 1 := rfl
  have hcellA : T1.heap[T.heap.size]? = some (freshCell cX kX) := by rw [← hT1]; exact State.heap_pushCell_size _ _
  have d3' : decode c.code (pc + 3) = .ok (.dup, 1) := by rw [hb]; exact d3
  have d4' : decode c.code (pc + 4) = .ok (.ldc is, 2) := by rw [hb]; exact d4
  have hstr' : vk_R own is text sa s' := vk_R.warm hW0 hstr
  obtain ⟨U, hsteps, hrun, hend, hW, hsame, ce, hce, hO⟩ := X₁.ctorThrowS hexec htr (own := own) (cls := cls) (names := names) (ic := ic) hown' hcls hnames h (fun x hx => nomatch hx) hfX hkX hcellA (by rw [hhp, hT]; exact Nat.le_refl _) (msg := .ref sa) rfl
    (g := { method := m, pc := pc + 6, locals := ls, stack := .ref sa :: .ref T.heap.size :: .ref T.heap.size :: rest, locked := none }) rfl hsize rfl rfl (rest := rest) rfl
    (by rw [hb]; exact d6) (by rw [hb]; exact d9) hout hRframes (by simp only [List.map_cons, List.sum_cons, hcat]; omega) hlocks
  obtain ⟨f1, f2⟩ := vx_frame hsame
  rw [hhp] at f1 f2
  have hWs : s.WarmedH U.vm := State.WarmedH.trans hW0 hW
  have hcl : s.vm.findClass cls = some ce.cls := by
    have h9 := hO.cls
    rw [hvm] at h9
    exact h9
  have hall : s.sameButNew ({ U with vm := s.vm } : State) locs mc ms := by
    subst hA
    obtain ⟨e1, e2⟩ := hsame
    rw [State.setFrames_setFrames] at e1
    have h2 : (T.setVm s.vm).sameButNew ({ U with vm := s.vm } : State) [] (0 + 1) (0 + 6) := ⟨e1, e2⟩
    have h3 := X.same.trans h2
    rw [List.append_nil] at h3
    exact h3.mono hc hs
  refine ⟨U, ?_, .threw T.heap.size, hrun, hend, Or.inr ⟨T.heap.size, rfl, cls, ce, locs, hx U hWs.alike f1 (fun q hq => f2 q hq (fun z hz => nomatch hz)), hce, hO.vm, hcl, hWs, hall, hf⟩⟩
  refine st1 _ ?_
  show Steps p.tables e below (T1.setTop { method := m, pc := pc + 3, locals := ls, stack := .ref T.heap.size :: rest, locked := none }) _
  jvm_step X₁.here [X₁.here.top, hexec, d3', Value.category]
  exact X₁.ldcString hexec (own := own) (text := text) (index := is) (a := sa) hown' hstr'.1 hstr'.2
    (g := { method := m, pc := pc + 4, locals := ls, stack := .ref T.heap.size :: .ref T.heap.size :: rest, locked := none }) rfl d4' _ hsteps
/-- 'throw new E("text")', the text by a wide index -/
theorem vx_throwSW {cc : ByteArray} {pc : Nat} (hexec : p.tables.exec = Jvm.exec) (hb : c.code = cc) (hl : l.stackTraces = false) {own cls text : String} {names : List String} {ik is ic mc ms sa : Nat} {A : Nat → Prop}
    (hown : s.vm.findClass own = some m.cls) (hcls : Bundle.fit cls = true) (hnames : ∀ n ∈ names, Bundle.fit n = true)
    (hk : (Cond.classLink own ik cls).before args s = true) (hini : (Cond.initialized cls).before args s = true) (hstr : vk_R own is text sa s) (hat : ∀ w ∈ vx_atS own ic cls names, w.before args s = true)
    (hgood : ∀ w ∈ Cond.classLink own ik cls :: Cond.initialized cls :: vx_atS own ic cls names, vx_ot w = true)
    (hU : vx_Zq Bundle.tN "UNASSIGNED_STACK" Bundle.steD A s s.heap) (hN : vx_Zq Bundle.tN "SUPPRESSED_SENTINEL" Bundle.listD A s s.heap) (hS : va_S A s.heap H locs) (hsize : ls.size = c.maxLocals)
    (d0 : decode cc pc = .ok (.new ik, 3)) (d3 : decode cc (pc + 3) = .ok (.dup, 1)) (d4 : decode cc (pc + 4) = .ok (.ldc_w is, 3)) (d7 : decode cc (pc + 7) = .ok (.invokespecial ic, 3)) (d10 : decode cc (pc + 10) = .ok (.athrow, 1))
    (hout : ∀ x ∈ c.exceptionTable.toList, covers x (pc + 10) = false)
    (hRframes : names.length + 3 < R.frames) (hRlocals : (rest.map fun v => v.category).sum + (13 * (names.length + 1) + 43) ≤ R.locals) (hRcells : cells + 1 ≤ R.cells) (hRslots : slots + 6 ≤ R.slots) (hlocks : meth.locks = false)
    (hx : ∀ t : State, s.vm.Alike t.vm → H.size ≤ t.heap.size → (∀ q : Nat, q < H.size → t.heap[q]? = H[q]?) → XC cls s t)
    (hf : ∀ z ∈ locs, free z.base) (hc : cells + 1 ≤ mc) (hs : slots + 6 ≤ ms) :
    W p l e R s m args below meth c H locs cells slots (vx_MQ below Qc XC args s mc ms free) (F0 m pc ls rest) := by
  intro T hT X
  have htr : e.platform.stackTraces = false := (show e.platform.stackTraces = l.stackTraces by rw [X.admits.platform]).trans hl
  have Y := vx_rebase X (R' := { frames := R.frames, locals := R.locals, cells := 1, slots := 6 }) (Nat.le_refl _) (Nat.le_refl _) hRcells hRslots
  obtain ⟨s', hA⟩ : ∃ z, z = (T.setVm s.vm).setFrames (.invoking m args :: below) := ⟨_, rfl⟩
  rw [← hA] at Y
  have hvm : s'.vm = s.vm := by rw [hA]; rfl
  have hhp : s'.heap = H := by rw [hA]; exact hT
  have hW0 : s.WarmedH s'.vm := by rw [hvm]; exact State.WarmedH.refl s
  have hat' : ∀ w ∈ vx_atS own ic cls names, w.before args s' = true := fun w hw => vx_ot_at hW0 hvm.symm (hgood w (List.mem_cons_of_mem _ (List.mem_cons_of_mem _ hw))) (hat w hw)
  have hk' : (Cond.classLink own ik cls).before args s' = true := vx_ot_at hW0 hvm.symm (hgood _ List.mem_cons_self) hk
  have hini' : (Cond.initialized cls).before args s' = true := vx_ot_at hW0 hvm.symm (hgood _ (List.mem_cons_of_mem _ List.mem_cons_self)) hini
  have hU' : vx_Zq Bundle.tN "UNASSIGNED_STACK" Bundle.steD A s' s'.heap := by rw [hhp]; exact vx_Zq.moved hW0.alike (hU.kept hS.2.1)
  have hN' : vx_Zq Bundle.tN "SUPPRESSED_SENTINEL" Bundle.listD A s' s'.heap := by rw [hhp]; exact vx_Zq.moved hW0.alike (hN.kept hS.2.1)
  have h : ∀ w ∈ Bundle.ownAtoms own ic cls names, w.before args s' = true := vx_own hat' (vx_isRefq hU'.1) (vx_isRefq hN'.1) hU'.2.word hN'.2.word
  have hown' : s'.vm.findClass own = some m.cls := by rw [hvm]; exact hown
  have hins : (Cond.instantiable cls 6).before args s' = true := h _ (by simp [Bundle.ownAtoms])
  obtain ⟨vm₁, cX, kX, hfX, hkX, -, -, X₁, st1⟩ := Y.newCold hexec (own := own) (C := cls) (index := ik) (n := 6) hown' hk' hins hini'
    (g := F0 m pc ls rest) rfl (by rw [hb]; exact d0) (Nat.le_refl _) (Nat.le_refl _)
  generalize hT1 : (T.setVm vm₁).pushCell { cls := cX, slots := kX.instanceTypes.map defaultValue, vm := .none } = T1 at X₁ st1
  have hcat : (Value.ref T.heap.size).category = 1 := rfl
  have hcellA : T1.heap[T.heap.size]? = some (freshCell cX kX) := by rw [← hT1]; exact State.heap_pushCell_size _ _
  have d3' : decode c.code (pc + 3) = .ok (.dup, 1) := by rw [hb]; exact d3
  have d4' : decode c.code (pc + 4) = .ok (.ldc_w is, 3) := by rw [hb]; exact d4
  have hstr' : vk_R own is text sa s' := vk_R.warm hW0 hstr
  obtain ⟨U, hsteps, hrun, hend, hW, hsame, ce, hce, hO⟩ := X₁.ctorThrowS hexec htr (own := own) (cls := cls) (names := names) (ic := ic) hown' hcls hnames h (fun x hx => nomatch hx) hfX hkX hcellA (by rw [hhp, hT]; exact Nat.le_refl _) (msg := .ref sa) rfl
    (g := { method := m, pc := pc + 7, locals := ls, stack := .ref sa :: .ref T.heap.size :: .ref T.heap.size :: rest, locked := none }) rfl hsize rfl rfl (rest := rest) rfl
    (by rw [hb]; exact d7) (by rw [hb]; exact d10) hout hRframes (by simp only [List.map_cons, List.sum_cons, hcat]; omega) hlocks
  obtain ⟨f1, f2⟩ := vx_frame hsame
  rw [hhp] at f1 f2
  have hWs : s.WarmedH U.vm := State.WarmedH.trans hW0 hW
  have hcl : s.vm.findClass cls = some ce.cls := by
    have h9 := hO.cls
    rw [hvm] at h9
    exact h9
  have hall : s.sameButNew ({ U with vm := s.vm } : State) locs mc ms := by
    subst hA
    obtain ⟨e1, e2⟩ := hsame
    rw [State.setFrames_setFrames] at e1
    have h2 : (T.setVm s.vm).sameButNew ({ U with vm := s.vm } : State) [] (0 + 1) (0 + 6) := ⟨e1, e2⟩
    have h3 := X.same.trans h2
    rw [List.append_nil] at h3
    exact h3.mono hc hs
  refine ⟨U, ?_, .threw T.heap.size, hrun, hend, Or.inr ⟨T.heap.size, rfl, cls, ce, locs, hx U hWs.alike f1 (fun q hq => f2 q hq (fun z hz => nomatch hz)), hce, hO.vm, hcl, hWs, hall, hf⟩⟩
  refine st1 _ ?_
  show Steps p.tables e below (T1.setTop { method := m, pc := pc + 3, locals := ls, stack := .ref T.heap.size :: rest, locked := none }) _
  jvm_step X₁.here [X₁.here.top, hexec, d3', Value.category]
  exact X₁.ldcStringW hexec (own := own) (text := text) (index := is) (a := sa) hown' hstr'.1 hstr'.2
    (g := { method := m, pc := pc + 4, locals := ls, stack := .ref T.heap.size :: .ref T.heap.size :: rest, locked := none }) rfl d4' _ hsteps
end Ends
section Bodies
variable {l : Launch}
theorem vx_ofW {y : MethodName} {ws ws' : List Cond} {rm : Room} {Pc : Array Value → State → Prop} {Qc : Array Value → State → Outcome → State → Prop} {XC : String → State → State → Prop} {mc ms : Nat} {free : Addr → Prop} {cc : ByteArray} {maxL : Nat} {ret : Option FieldType}
    (hy : plainName y.cls = true) (hw : ws = Cond.code y cc maxL ret :: ws')
    (body : ∀ p e s m args below meth c s₁, BodyLoose p l y (headSpec ws rm) cc maxL ret e s m args below meth c s₁ → c.maxLocals = maxL → (∀ x ∈ c.exceptionTable.toList, False) → Pc args s →
      W p l e (headSpec ws rm).room s m args below meth c s.heap [] 0 0 (vx_MQ below Qc XC args s mc ms free) (entryFrame m args maxL)) : vx_Met l y ws rm Pc Qc XC mc ms free := by
  refine MetFree.of_bodyS (code := cc) (maxLocals := maxL) (ret := ret) hy ?_ ?_
  · intro args s m h hn
    obtain ⟨meth, c, h1, h2, h3, h4, h5, h6, -, -⟩ := Cond.code_spec hn (atoms_spec (ws := ws) h _ (by rw [hw]; exact List.mem_cons_self))
    exact ⟨meth, c, h1, h2, h3, h4, h5, h6⟩
  · intro p e s m args below meth c s₁ B hml hP _
    have hh0 : s₁.heap = s.heap := by rw [B.state]; rfl
    have ht : ∀ x ∈ c.exceptionTable.toList, False := by
      obtain ⟨meth9, c9, h1, h2, -, -, -, -, h7, -⟩ := Cond.code_spec B.named (atoms_spec (ws := ws) B.pre _ (by rw [hw]; exact List.mem_cons_self))
      cases Option.some.inj (h1.symm.trans B.method)
      cases Option.some.inj (h2.symm.trans (Stand.of_body B).code)
      intro x hx
      rw [Array.isEmpty_iff.mp h7] at hx
      cases hx
    obtain ⟨t, a1, o, b1, b2, b3⟩ := body p e s m args below meth c s₁ B hml ht hP s₁ hh0 (Stand.of_body B)
    exact ⟨t, o, a1, b1, b2, b3⟩
/-- the table of a body with handlers -/
theorem vx_table {p : Program} {x y : MethodName} {S : Spec} {cc bytes : ByteArray} {maxL maxL' : Nat} {ret ret' : Option FieldType} {e : Env} {s s₁ : State} {m : MethodId} {args : Array Value} {below : List Frame} {meth : Method} {c : Code} {hh : List (Nat × Nat × Nat × Nat)}
    (B : BodyLoose p l y S cc maxL ret e s m args below meth c s₁) (h : (Cond.codeWith y bytes maxL' ret' hh).before args s = true) : c.exceptionTable.toList = tableOf hh := by
  obtain ⟨m9, meth9, c9, hn9, h1, h2, -, -, h6, -⟩ := Cond.codeWith_spec h
  cases Option.some.inj (hn9.symm.trans B.named)
  cases Option.some.inj (h1.symm.trans B.method)
  cases Option.some.inj (h2.symm.trans (Stand.of_body B).code)
  rw [← h6, table_eq]
end Bodies
end VXA
/-! ===== END ===== -/
/-! ===== BEGIN a static call of a method with an exception table ===== -/
section VXS
variable {p : Program} {l : Launch} {e : Env} {R : Room} {s : State} {m : MethodId} {args : Array Value} {below : List Frame} {meth : Method} {c : Code} {T : State} {H : Heap} {locs : List Loc} {cells slots : Nat}
abbrev vx_CSW (R : Room) (s : State) (args : Array Value) (own : String) (index : Nat) (y : MethodName) (bytes : ByteArray) (maxL : Nat) (ret : Option FieldType) (hh : List (Nat × Nat × Nat × Nat)) (ws : List Cond) (rm : Room) (mc ms n : Nat) : Prop :=
  (rm.cells = mc ∧ rm.slots = ms ∧ rm.frames + 1 ≤ R.frames ∧ 8 + (maxL + 11) + rm.locals ≤ R.locals ∧ (∀ w ∈ ws, ∀ (a' : Array Value) (U : State), s.WarmedH U.vm → w.before a' U = true) ∧ Cond.codeWith y bytes maxL ret hh ∈ ws) ∧
  (Cond.codeWith y bytes maxL ret hh).before args s = true ∧ (Cond.initialized y.cls).before args s = true ∧ (y.cls ≠ "java/lang/invoke/MethodHandle" ∧ y.cls ≠ "java/lang/invoke/VarHandle") ∧
  (∀ sig, parseMethodDescriptor y.desc = some sig → n = sig.parameters.length) ∧ (Cond.methodLink own index y).before args s = true ∧ (Cond.static y).before args s = true
theorem vx_cwSW {own : String} {index maxL mc ms : Nat} {y : MethodName} {bytes : ByteArray} {ret : Option FieldType} {hh : List (Nat × Nat × Nat × Nat)} {Ts ws ws' : List Cond} {rm : Room} (n : Nat) (ht : ∀ w ∈ Ts, w.before args s = true) (hT : GoodIn Ts (va_wsS own index y ws)) (hw : ws = Cond.codeWith y bytes maxL ret hh :: ws') (hrc : rm.cells = mc) (hrs : rm.slots = ms)
    (hd : y.cls ≠ "java/lang/invoke/MethodHandle" ∧ y.cls ≠ "java/lang/invoke/VarHandle" ∧ (parseMethodDescriptor y.desc).map (fun d => d.parameters.length) = some n) (hR : rm.frames + 1 ≤ R.frames ∧ 8 + (maxL + 11) + rm.locals ≤ R.locals) :
    vx_CSW R s args own index y bytes maxL ret hh ws rm mc ms n := by
  have ok : ∀ w ∈ va_wsS own index y ws, w.before args s = true := fun w h => ht w (hT w h).1
  have hG : GoodIn Ts ws := fun w h => hT w (by unfold va_wsS; exact List.mem_append_right _ h)
  have hc : Cond.codeWith y bytes maxL ret hh ∈ ws := by rw [hw]; exact List.mem_cons_self
  refine ⟨⟨hrc, hrs, hR.1, hR.2, pay_in ht hG, hc⟩, ht _ (hG _ hc).1, ok _ (by simp [va_wsS]), ⟨hd.1, hd.2.1⟩, fun sig h => ?_, ok _ (by simp [va_wsS]), ok _ (by simp [va_wsS])⟩
  have h2 := hd.2.2
  rw [h] at h2
  exact (Option.some.inj h2).symm
theorem vx_callSW (X : Stand p l e R s m args below meth c T locs cells slots) (hexec : p.tables.exec = Jvm.exec) {own : String} {index : Nat} {y : MethodName} {bytes : ByteArray} {maxL : Nat} {ret : Option FieldType} {hh : List (Nat × Nat × Nat × Nat)}
    (hown : s.vm.findClass own = some m.cls) (hlink : (Cond.methodLink own index y).before args s = true) (hstat : (Cond.static y).before args s = true) (hinit : (Cond.initialized y.cls).before args s = true)
    (hcode : (Cond.codeWith y bytes maxL ret hh).before args s = true) (hy : y.cls ≠ "java/lang/invoke/MethodHandle" ∧ y.cls ≠ "java/lang/invoke/VarHandle")
    {W9 : Nat} {Pre : Pt → Array Value → Prop} {Post : Pt → Array Value → Option Value → Pt → Prop} (hK : Back l R p e below s args y 3 W9 Pre Post)
    {g : JFrame} (hg : g.method = m) (hsize : g.locals.size = c.maxLocals) {argsL rest : List Value} (hlen : ∀ sig, parseMethodDescriptor y.desc = some sig → argsL.length = sig.parameters.length)
    (hstack : g.stack = argsL.reverse ++ rest) (hW : 2 * g.monitorRoom + (rest.map fun v => v.category).sum ≤ W9) (hdg : decode c.code g.pc = .ok (.invokestatic index, 3))
    (hpre : ∀ vm₁, s.WarmedH vm₁ → Pre ⟨T.setVm vm₁, locs, cells, slots⟩ argsL.toArray) :
    ∃ (v : Option Value) (vm₁ : Vm) (B : Pt), s.WarmedH vm₁ ∧ Stand p l e R s m args below meth c B.U B.locs B.cells B.slots ∧ Post ⟨T.setVm vm₁, locs, cells, slots⟩ argsL.toArray v B ∧
      ∀ target, Steps p.tables e below (B.U.setTop { g with pc := g.pc + 3, stack := v.toList ++ rest }) target → Steps p.tables e below (T.setTop g) target := by
  obtain ⟨mk, methM, cM, hnamed, hmethM, -, -, -, -, -, -, hsigM⟩ := Cond.codeWith_spec hcode
  have hstatic : methM.isStatic = true := Cond.static_spec hnamed hmethM hstat
  obtain ⟨kP, hkP, -⟩ := className_of_methodNamed hnamed
  have hinitP : kP.init = .initialized := Cond.initialized_spec (findClass_of_methodNamed hnamed) hkP hinit
  obtain ⟨vm₁, X₁, hstep₁⟩ := X.invokestatic hexec hown hlink hnamed hmethM hstatic hkP hinitP hy (g := g) hg (argsL := argsL) (rest := rest) (hlen _ hsigM) hstack hdg
  obtain ⟨v, B, X', hpost, hsteps⟩ := hK m meth c ⟨T.setVm vm₁, locs, cells, slots⟩ { g with stack := rest } (.invokestatic index) mk argsL.toArray X₁ hg hsize hdg hW (X₁.named hnamed) (hpre vm₁ X₁.warmed)
  exact ⟨v, vm₁, B, X₁.warmed, X', hpost, fun target h => hstep₁ _ fun acts => by rw [doInvoke_state]; exact hsteps.trans h⟩
theorem vx_runSW {y : MethodName} {bytes cc : ByteArray} {maxL nL mc ms n index : Nat} {ret : Option FieldType} {hh : List (Nat × Nat × Nat × Nat)} {ws : List Cond} {rm : Room} {Pc : Array Value → State → Prop} {Qc : Array Value → State → Outcome → State → Prop} {free : Addr → Prop} {Ts : List Cond} {own : String} {As rest : List Value} {g : JFrame}
    (S : CallFix p m c cc nL s args Ts own) (hM : Met l y ws rm Pc Qc mc ms free) (cw : vx_CSW R s args own index y bytes maxL ret hh ws rm mc ms n) (hp : PreS s H Pc As)
    (hg : g.method = m) (hn : As.length = n) (hsize : g.locals.size = nL) (hstack : g.stack = As.reverse ++ rest) (hW : 2 * g.monitorRoom + (rest.map fun v => v.category).sum ≤ 8) (hdg : decode cc g.pc = .ok (.invokestatic index, 3)) (hf : cells + mc ≤ R.cells ∧ slots + ms ≤ R.slots) :
    va_Run p l e R s m args below meth c H locs cells slots mc ms g rest (Qc As.toArray) (free) := by
  obtain ⟨⟨hrc, hrs, hfr, hlo, hws, hcw⟩, hcode, hini, hy, hlen, hl, hstt⟩ := cw
  have hK : Back l R p e below s args y 3 8 (PreOf R mc ms Pc) (PostOf Qc mc ms free) := va_backW (hh := hh) (bytes := bytes) (maxL := maxL) (ret := ret) hM hp.1 hrc hrs hfr hlo hws hcw (fun a' U hW => word_at hW (Or.inl (by first | rfl | simp [Cond.onTables, Cond.keeps, Cond.steady])) hini)
  obtain ⟨hx, hb, hml, ho, -⟩ := S
  intro T hT X
  obtain ⟨v, vm₁, ⟨U', l2, c2, s2⟩, hW₁, X', ⟨g', mk, t, L, e1, e2, hq, h1, hL, h2, h3⟩, st⟩ := vx_callSW X hx (hh := hh) (bytes := bytes) (maxL := maxL) (ret := ret) ho hl hstt hini hcode hy hK hg (hsize.trans hml.symm) (argsL := As) (rest := rest) (fun sig h => hn.trans (hlen sig h)) hstack hW (by rw [hb]; exact hdg)
    (fun vm₁ hW₁ => ⟨hf.1, hf.2, hp.2 (T.setVm vm₁) hT hW₁⟩)
  dsimp only [Pt.U, Pt.locs, Pt.cells, Pt.slots] at X' e1 e2 h1 h2 h3 st
  subst h1; subst h2; subst h3
  exact ⟨v, (T.setVm vm₁).calling g' mk As.toArray, t, U', L, hT, X', hL, e1, e2, hq, st⟩
/-- not caught here, past rows that name other classes: it goes on to the caller -/
theorem vx_outP {p : Program} {l : Launch} {e : Env} {R : Room} {s : State} {m : MethodId} {args : Array Value} {below : List Frame} {meth : Method} {c : Code} {H : Heap} {locs : List Loc} {cells slots : Nat} {free : Addr → Prop} {ls : Array Slot} {rest : List Value} {Qc : Array Value → State → Outcome → State → Prop} {XC : String → State → State → Prop}
    {pc : Nat} {own E : String} {ce : Cell} {q : Addr} {mc ms : Nat} (hown : s.vm.findClass own = some m.cls) (hlocks : meth.locks = false)
    (hpass : ∀ z ∈ c.exceptionTable.toList, covers z pc = false ∨ (z.catchType ≠ 0 ∧ ∃ nm : String, (Cond.classLink own z.catchType nm).before args s = true ∧ va_Nc E nm s)) (hcell : H[q]? = some ce) (hv : ce.vm = .none) (hcl : s.vm.findClass E = some ce.cls)
    (hx : ∀ t : State, t.heap = H → s.vm.Alike t.vm → XC E s t) (hf : ∀ z ∈ locs, free z.base) (hc : cells ≤ mc) (hs : slots ≤ ms) :
    vx_W p l e R s m args below meth c H locs cells slots (vx_MQ below Qc XC args s mc ms free) (F0 m pc ls rest) q := by
  intro T hT X
  have hpl : e.platform.magicAccessors = ({} : Platform).magicAccessors := by rw [X.admits.platform]
  obtain ⟨vm', hW', X', st⟩ := X.outThrough hlocks q (g := F0 m pc ls rest) rfl rfl rfl (cell := ce) (by rw [hT]; exact hcell) (by rw [hv]; rfl)
    (by obtain ⟨k9, h9, -⟩ := Vm.findClass_spec hcl; exact ⟨k9, h9⟩) (fun z hz => by
      rcases hpass z hz with h | ⟨hz0, nm, hl1, hn1⟩
      · exact Or.inl h
      · obtain ⟨c6, hc6, hcl6⟩ := Cond.classLink_spec hown hl1 e.platform hpl
        obtain ⟨a8, b8, h1, h2, h3⟩ := hn1
        cases Option.some.inj (h1.symm.trans hcl)
        cases Option.some.inj (h2.symm.trans hc6)
        exact Or.inr ⟨hz0, _, hcl6, h3⟩)
  obtain ⟨g₀, hfr⟩ := X'.frames_eq
  have hcell9 : ((T.setVm vm').setFrames (.throwing q :: below)).heap[q]? = some ce := by
    show T.heap[q]? = some ce
    rw [hT]; exact hcell
  have hend : Ended ((T.setVm vm').setFrames (.throwing q :: below)) below (.threw q) := State.frames_setFrames _ (State.cur_lt_of_frames hfr)
  refine ⟨(T.setVm vm').setFrames (.throwing q :: below), ?_, .threw q, X'.here.running, hend, Or.inr ⟨q, rfl, E, ce, locs, hx _ hT (X'.ends _).1.alike, hcell9, hv, hcl, (X'.ends _).1, (X'.ends _).2.mono hc hs, hf⟩⟩
  rw [X.pushThrowing_eq]
  exact st
/-- a thing of a world lies in the heap -/
theorem vx_lt {D : va_G} {cl : List vw_C} {ws : va_W} {H1 : Heap} (h : va_P D cl ws H1) {k : Nat} {q : Nat × va_E} (hk : ws[k]? = some q) : q.1 < H1.size := (h k q hk).lt
end VXS
/-! ===== END ===== -/
/-! ===== BEGIN methods with a table of their own: called by a name, returning or throwing ===== -/
section VXH
/-! vx_backW, vx_callVX, vx_callSX, vx_callVW, vx_runVW, vx_runVX, vx_runSX, vx_ofWH follow the same proofs as their sisters above (Free/Laws.lean, Shelf42/LK1.lean); vx_outP calls Shelf42/NT130.lean (outThrough). -/
section
variable {l : Launch} {R : Room} {p : Program} {e : Env} {below : List Frame} {s : State} {sargs : Array Value} {y : MethodName} {len W9 : Nat}
theorem vx_backW {ws : List Cond} {rm : Room} {Pc : Array Value → State → Prop} {Qc : Array Value → State → Outcome → State → Prop} {XC : String → State → State → Prop} {mc ms : Nat} {free : Addr → Prop} {bytes : ByteArray} {maxL : Nat} {ret : Option FieldType} {hh : List (Nat × Nat × Nat × Nat)}
    (hM : vx_Met l y ws rm Pc Qc XC mc ms free) (hblind : FrameBlind Pc) (hrc : rm.cells = mc) (hrs : rm.slots = ms)
    (hframes : rm.frames + 1 ≤ R.frames) (hlocals : W9 + (maxL + 11) + rm.locals ≤ R.locals)
    (hws : ∀ w ∈ ws, ∀ a' U, s.WarmedH U.vm → w.before a' U = true) (hcode : Cond.codeWith y bytes maxL ret hh ∈ ws) (hinit : ∀ a' U, s.WarmedH U.vm → (Cond.initialized y.cls).before a' U = true) :
    vx_Back l R p e below s sargs y len W9 (PreOf R mc ms Pc) (PostOf Qc mc ms free) (vx_Post XC mc ms free) := by
  intro m meth c A g ig mk a X hg hsize hdg hW hn hp
  have h1 : (headSpec ws rm).pre.before a A.U = true := atoms_intro fun w hw => hws w hw _ _ X.warmed
  have h2 : (Cond.codeWith y bytes maxL ret hh).before a A.U = true := hws _ hcode _ _ X.warmed
  have h3 : (Cond.initialized y.cls).before a A.U = true := hinit _ _ X.warmed
  have h4 : A.cells + (headSpec ws rm).room.cells ≤ R.cells := by rw [show (headSpec ws rm).room.cells = mc from hrc]; exact hp.1
  have h5 : A.slots + (headSpec ws rm).room.slots ≤ R.slots := by rw [show (headSpec ws rm).room.slots = ms from hrs]; exact hp.2.1
  have hPc : Pc a (A.U.calling g mk a) := hblind _ _ _ _ hp.2.2
  obtain ⟨U, Ls, c0, s0⟩ := A
  dsimp only [Pt.U, Pt.locs, Pt.cells, Pt.slots] at h1 h2 h3 h4 h5 X hn hPc ⊢
  obtain ⟨m9, methY, cY, hn9, hmY, hcY, -, hlY, -⟩ := Cond.codeWith_spec h2
  cases Option.some.inj (hn9.symm.trans hn)
  obtain ⟨kY, hkY, -⟩ := className_of_methodNamed hn
  have hinitY : kY.init = .initialized := Cond.initialized_spec (findClass_of_methodNamed hn) hkY h3
  have h : At U g.method c below := by rw [hg]; exact X.here
  have hlocals9 : W9 + (maxL + 11) + (headSpec ws rm).room.locals ≤ R.locals := hlocals
  have happ : (headSpec ws rm).appliesLoose y e.platform (U.calling g mk a) = true :=
    Spec.appliesLoose_calling (g := g) h hdg hn hkY hinitY
      (X.room_calling (g := g) (R' := (headSpec ws rm).room) hsize hmY hcY hframes (by rw [hlY]; omega) h4 h5) h1
  obtain ⟨mid, hmid⟩ := h.above
  have hfr : (U.setTop g).frames = (.java g :: mid) ++ below := by rw [State.frames_setTop' g h.top, hmid]; rfl
  obtain ⟨o, s₂, hsteps, -, hend, hq⟩ := Steps.callFree hM p X.admits X.cas X.clock (acts := []) hfr happ hPc trivial
  have hq' : vx_Q Qc XC mc ms free a (U.calling g mk a) o s₂ := hq
  rw [State.frames_setTop' g h.top] at hend
  obtain ⟨g₀, hg0⟩ := Option.isSome_iff_exists.mp h.top
  obtain ⟨r, hr⟩ := State.topJava?_eq_some.mp hg0
  have hr' : (({ U with heap := s₂.heap, slotsUsed := s₂.slotsUsed } : State).setVm s₂.vm).frames = .java g₀ :: r := hr
  rcases hq' with ⟨hqc, L, hfe, hL⟩ | ⟨q, rfl, E, ce, L, hx, hce, hcv, hcl, hW₂, hsm, hL⟩
  · obtain ⟨⟨v, rfl⟩, hW₂, e2, q2, q3, q4, q5, q6⟩ := id hfe
    have e3 : s₂ = ({ (U.calling g mk a).setFrames s₂.frames with heap := s₂.heap, slotsUsed := s₂.slotsUsed } : State).setVm s₂.vm := by
      have : s₂ = ({ s₂ with vm := (U.calling g mk a).vm } : State).setVm s₂.vm := rfl
      rw [e2] at this
      exact this
    obtain ⟨c₂, i₂, len₂, hc₂, hd₂, hf₂⟩ := hend
    have hW' : U.WarmedH s₂.vm := hW₂
    have hcc : c₂ = c := by
      have h1 : s₂.code? g.method = U.code? g.method := by
        rw [State.code?_eq, State.code?_eq, hW'.alike.method?]
      exact Option.some.inj (hc₂.symm.trans (h1.trans h.code))
    subst hcc
    have hlen : len₂ = len := by rw [hdg] at hd₂; cases hd₂; rfl
    subst hlen
    have hs₂ : s₂ = (({ U with heap := s₂.heap, slotsUsed := s₂.slotsUsed } : State).setVm s₂.vm).setTop { g with pc := g.pc + len₂, stack := v.toList ++ g.stack } := by
      refine e3.trans ?_
      rw [hf₂, State.calling_eq h.top, State.setFrames_setFrames, State.setTop_of_frames _ hr', hr]
      rfl
    have hsame : U.sameButNew ({ U with heap := s₂.heap, slotsUsed := s₂.slotsUsed } : State) L mc ms := by
      refine ⟨?_, q2, q3, q4, q5, q6⟩
      obtain ⟨t, ht, -⟩ := State.frames_cons hr
      show ({ U with heap := s₂.heap, slotsUsed := s₂.slotsUsed } : State) = { U.setFrames U.frames with heap := s₂.heap, slotsUsed := s₂.slotsUsed }
      rw [State.setFrames_self ht]
    subst hg
    refine Or.inl ⟨v, ⟨(({ U with heap := s₂.heap, slotsUsed := s₂.slotsUsed } : State).setVm s₂.vm), Ls ++ L, c0 + mc, s0 + ms⟩,
      ⟨X.admits, X.cas, X.clock, X.frames, X.room, X.hears, X.method, X.code, (X.here.setHeapUsed s₂.heap s₂.slotsUsed).setVm hW'.alike, X.tail, State.WarmedH.trans X.warmed hW', X.limits, X.bytes, X.same.trans (hsame.setVm s.vm)⟩,
      ⟨g, mk, s₂, L, rfl, rfl, hqc, rfl, hL, rfl, rfl⟩, ?_⟩
    show Steps p.tables e below _ ((({ U with heap := s₂.heap, slotsUsed := s₂.slotsUsed } : State).setVm s₂.vm).setTop { g with pc := g.pc + len₂, stack := v.toList ++ g.stack })
    rw [← hs₂]
    exact hsteps
  · obtain ⟨e2, q2, q3, q4, q5, q6⟩ := id hsm
    have e3 : s₂ = ({ (U.calling g mk a).setFrames s₂.frames with heap := s₂.heap, slotsUsed := s₂.slotsUsed } : State).setVm s₂.vm := by
      have : s₂ = ({ s₂ with vm := (U.calling g mk a).vm } : State).setVm s₂.vm := rfl
      rw [e2] at this
      exact this
    have hf₂ : s₂.frames = .throwing q :: .java g :: U.frames.tail := hend
    have hW' : U.WarmedH s₂.vm := hW₂
    have hs₂ : s₂ = ((({ U with heap := s₂.heap, slotsUsed := s₂.slotsUsed } : State).setVm s₂.vm).setTop g).pushFrame (.throwing q) := by
      refine e3.trans ?_
      rw [hf₂, State.calling_eq h.top, State.setFrames_setFrames, State.pushFrame, State.frames_setTop _ hr', State.setTop_of_frames _ hr', State.setFrames_setFrames, hr]
      rfl
    have hsame : U.sameButNew ({ U with heap := s₂.heap, slotsUsed := s₂.slotsUsed } : State) L mc ms := by
      refine ⟨?_, q2, q3, q4, q5, q6⟩
      obtain ⟨t, ht, -⟩ := State.frames_cons hr
      show ({ U with heap := s₂.heap, slotsUsed := s₂.slotsUsed } : State) = { U.setFrames U.frames with heap := s₂.heap, slotsUsed := s₂.slotsUsed }
      rw [State.setFrames_self ht]
    subst hg
    refine Or.inr ⟨q, ⟨(({ U with heap := s₂.heap, slotsUsed := s₂.slotsUsed } : State).setVm s₂.vm), Ls ++ L, c0 + mc, s0 + ms⟩,
      ⟨X.admits, X.cas, X.clock, X.frames, X.room, X.hears, X.method, X.code, (X.here.setHeapUsed s₂.heap s₂.slotsUsed).setVm hW'.alike, X.tail, State.WarmedH.trans X.warmed hW', X.limits, X.bytes, X.same.trans (hsame.setVm s.vm)⟩,
      ⟨g, mk, s₂, L, E, ce, rfl, rfl, hx, hce, hcv, hcl, rfl, hL, rfl, rfl⟩, ?_⟩
    show Steps p.tables e below _ (((({ U with heap := s₂.heap, slotsUsed := s₂.slotsUsed } : State).setVm s₂.vm).setTop g).pushFrame (.throwing q))
    rw [← hs₂]
    exact hsteps
end
variable {p : Program} {l : Launch} {e : Env} {R : Room} {s : State} {m : MethodId} {args : Array Value} {below : List Frame} {meth : Method} {c : Code} {T : State} {H : Heap} {locs : List Loc} {cells slots : Nat}
theorem vx_callVX (X : Stand p l e R s m args below meth c T locs cells slots) (hexec : p.tables.exec = Jvm.exec) {own C : String} {index : Nat} {y : MethodName} {bytes : ByteArray} {maxL : Nat} {ret : Option FieldType} {hh : List (Nat × Nat × Nat × Nat)}
    (hown : s.vm.findClass own = some m.cls) (hlink : (Cond.methodLink own index y).before args s = true) (hinst : (Cond.instanceMethod y).before args s = true) (hsel : (Cond.selects C y y).before args s = true)
    (hcode : (Cond.codeWith y bytes maxL ret hh).before args s = true) (hy : y.cls ≠ "java/lang/invoke/MethodHandle" ∧ y.cls ≠ "java/lang/invoke/VarHandle")
    {W9 : Nat} {Pre : Pt → Array Value → Prop} {Post : Pt → Array Value → Option Value → Pt → Prop} {PostX : Pt → Array Value → Addr → Pt → Prop} (hK : vx_Back l R p e below s args y 3 W9 Pre Post PostX)
    {b : Addr} {cellB : Cell} (hcell : T.heap[b]? = some cellB) (hobj : cellB.vm.isStatics = false) (hcls : s.vm.findClass C = some cellB.cls)
    {g : JFrame} (hg : g.method = m) (hsize : g.locals.size = c.maxLocals) {argsL rest : List Value} (hlen : ∀ sig, parseMethodDescriptor y.desc = some sig → argsL.length = sig.parameters.length)
    (hstack : g.stack = argsL.reverse ++ .ref b :: rest) (hW : 2 * g.monitorRoom + (rest.map fun v => v.category).sum ≤ W9) (hdg : decode c.code g.pc = .ok (.invokevirtual index, 3))
    (hpre : ∀ vm₁, s.WarmedH vm₁ → Pre ⟨T.setVm vm₁, locs, cells, slots⟩ (Value.ref b :: argsL).toArray) :
    (∃ (v : Option Value) (vm₁ : Vm) (B : Pt), s.WarmedH vm₁ ∧ Stand p l e R s m args below meth c B.U B.locs B.cells B.slots ∧ Post ⟨T.setVm vm₁, locs, cells, slots⟩ (Value.ref b :: argsL).toArray v B ∧
      ∀ target, Steps p.tables e below (B.U.setTop { g with pc := g.pc + 3, stack := v.toList ++ rest }) target → Steps p.tables e below (T.setTop g) target) ∨
    (∃ (q : Addr) (vm₁ : Vm) (B : Pt), s.WarmedH vm₁ ∧ Stand p l e R s m args below meth c B.U B.locs B.cells B.slots ∧ PostX ⟨T.setVm vm₁, locs, cells, slots⟩ (Value.ref b :: argsL).toArray q B ∧
      Steps p.tables e below (T.setTop g) ((B.U.setTop { g with stack := rest }).pushFrame (.throwing q))) := by
  obtain ⟨mk, methM, hnamed, hmethM, hstM, habM⟩ := Cond.instanceMethod_spec hinst
  obtain ⟨m8, methM', cM, hn8, hmethM', -, -, -, -, -, -, hsigM⟩ := Cond.codeWith_spec hcode
  cases Option.some.inj (hn8.symm.trans hnamed)
  cases hmethM.symm.trans hmethM'
  obtain ⟨c2, r2, m2, q1, q2, q3, q4, kP, hkP, hkPi⟩ := Cond.selects_spec hsel
  cases hcls.symm.trans q1
  cases (State.methodFound?_of_named hnamed hy).symm.trans q2
  cases hnamed.symm.trans q3
  have hselP : selectMethod e.platform s.vm cellB.cls mk = .method mk := by rw [Launch.admits_selectMethod X.admits]; exact q4
  obtain ⟨vm₁, X₁, hstep₁⟩ := X.invokevirtual hexec hown hlink hnamed hmethM hstM hkP hkPi hy (a := b) (cell := cellB) hcell
    (fun z h => by rw [h] at hobj; cases hobj) hselP hmethM habM hkP hkPi (g := g) hg (argsL := argsL) (rest := rest) (hlen _ hsigM) hstack hdg
  rcases hK m meth c ⟨T.setVm vm₁, locs, cells, slots⟩ { g with stack := rest } (.invokevirtual index) mk (Value.ref b :: argsL).toArray X₁ hg hsize hdg hW (X₁.named hnamed) (hpre vm₁ X₁.warmed) with ⟨v, B, X', hpost, hsteps⟩ | ⟨q, B, X', hpost, hsteps⟩
  · exact Or.inl ⟨v, vm₁, B, X₁.warmed, X', hpost, fun target h => hstep₁ _ fun acts => by rw [doInvoke_state]; exact hsteps.trans h⟩
  · exact Or.inr ⟨q, vm₁, B, X₁.warmed, X', hpost, hstep₁ _ fun acts => by rw [doInvoke_state]; exact hsteps⟩
theorem vx_callSX (X : Stand p l e R s m args below meth c T locs cells slots) (hexec : p.tables.exec = Jvm.exec) {own : String} {index : Nat} {y : MethodName} {bytes : ByteArray} {maxL : Nat} {ret : Option FieldType} {hh : List (Nat × Nat × Nat × Nat)}
    (hown : s.vm.findClass own = some m.cls) (hlink : (Cond.methodLink own index y).before args s = true) (hstat : (Cond.static y).before args s = true) (hinit : (Cond.initialized y.cls).before args s = true)
    (hcode : (Cond.codeWith y bytes maxL ret hh).before args s = true) (hy : y.cls ≠ "java/lang/invoke/MethodHandle" ∧ y.cls ≠ "java/lang/invoke/VarHandle")
    {W9 : Nat} {Pre : Pt → Array Value → Prop} {Post : Pt → Array Value → Option Value → Pt → Prop} {PostX : Pt → Array Value → Addr → Pt → Prop} (hK : vx_Back l R p e below s args y 3 W9 Pre Post PostX)
    {g : JFrame} (hg : g.method = m) (hsize : g.locals.size = c.maxLocals) {argsL rest : List Value} (hlen : ∀ sig, parseMethodDescriptor y.desc = some sig → argsL.length = sig.parameters.length)
    (hstack : g.stack = argsL.reverse ++ rest) (hW : 2 * g.monitorRoom + (rest.map fun v => v.category).sum ≤ W9) (hdg : decode c.code g.pc = .ok (.invokestatic index, 3))
    (hpre : ∀ vm₁, s.WarmedH vm₁ → Pre ⟨T.setVm vm₁, locs, cells, slots⟩ argsL.toArray) :
    (∃ (v : Option Value) (vm₁ : Vm) (B : Pt), s.WarmedH vm₁ ∧ Stand p l e R s m args below meth c B.U B.locs B.cells B.slots ∧ Post ⟨T.setVm vm₁, locs, cells, slots⟩ argsL.toArray v B ∧
      ∀ target, Steps p.tables e below (B.U.setTop { g with pc := g.pc + 3, stack := v.toList ++ rest }) target → Steps p.tables e below (T.setTop g) target) ∨
    (∃ (q : Addr) (vm₁ : Vm) (B : Pt), s.WarmedH vm₁ ∧ Stand p l e R s m args below meth c B.U B.locs B.cells B.slots ∧ PostX ⟨T.setVm vm₁, locs, cells, slots⟩ argsL.toArray q B ∧
      Steps p.tables e below (T.setTop g) ((B.U.setTop { g with stack := rest }).pushFrame (.throwing q))) := by
  obtain ⟨mk, methM, cM, hnamed, hmethM, -, -, -, -, -, -, hsigM⟩ := Cond.codeWith_spec hcode
  have hstatic : methM.isStatic = true := Cond.static_spec hnamed hmethM hstat
  obtain ⟨kP, hkP, -⟩ := className_of_methodNamed hnamed
  have hinitP : kP.init = .initialized := Cond.initialized_spec (findClass_of_methodNamed hnamed) hkP hinit
  obtain ⟨vm₁, X₁, hstep₁⟩ := X.invokestatic hexec hown hlink hnamed hmethM hstatic hkP hinitP hy (g := g) hg (argsL := argsL) (rest := rest) (hlen _ hsigM) hstack hdg
  rcases hK m meth c ⟨T.setVm vm₁, locs, cells, slots⟩ { g with stack := rest } (.invokestatic index) mk argsL.toArray X₁ hg hsize hdg hW (X₁.named hnamed) (hpre vm₁ X₁.warmed) with ⟨v, B, X', hpost, hsteps⟩ | ⟨q, B, X', hpost, hsteps⟩
  · exact Or.inl ⟨v, vm₁, B, X₁.warmed, X', hpost, fun target h => hstep₁ _ fun acts => by rw [doInvoke_state]; exact hsteps.trans h⟩
  · exact Or.inr ⟨q, vm₁, B, X₁.warmed, X', hpost, hstep₁ _ fun acts => by rw [doInvoke_state]; exact hsteps⟩
theorem vx_callVW (X : Stand p l e R s m args below meth c T locs cells slots) (hexec : p.tables.exec = Jvm.exec) {own C : String} {index : Nat} {y : MethodName} {bytes : ByteArray} {maxL : Nat} {ret : Option FieldType} {hh : List (Nat × Nat × Nat × Nat)}
    (hown : s.vm.findClass own = some m.cls) (hlink : (Cond.methodLink own index y).before args s = true) (hinst : (Cond.instanceMethod y).before args s = true) (hsel : (Cond.selects C y y).before args s = true)
    (hcode : (Cond.codeWith y bytes maxL ret hh).before args s = true) (hy : y.cls ≠ "java/lang/invoke/MethodHandle" ∧ y.cls ≠ "java/lang/invoke/VarHandle")
    {W9 : Nat} {Pre : Pt → Array Value → Prop} {Post : Pt → Array Value → Option Value → Pt → Prop} (hK : Back l R p e below s args y 3 W9 Pre Post)
    {b : Addr} {cellB : Cell} (hcell : T.heap[b]? = some cellB) (hobj : cellB.vm.isStatics = false) (hcls : s.vm.findClass C = some cellB.cls)
    {g : JFrame} (hg : g.method = m) (hsize : g.locals.size = c.maxLocals) {argsL rest : List Value} (hlen : ∀ sig, parseMethodDescriptor y.desc = some sig → argsL.length = sig.parameters.length)
    (hstack : g.stack = argsL.reverse ++ .ref b :: rest) (hW : 2 * g.monitorRoom + (rest.map fun v => v.category).sum ≤ W9) (hdg : decode c.code g.pc = .ok (.invokevirtual index, 3))
    (hpre : ∀ vm₁, s.WarmedH vm₁ → Pre ⟨T.setVm vm₁, locs, cells, slots⟩ (Value.ref b :: argsL).toArray) :
    ∃ (v : Option Value) (vm₁ : Vm) (B : Pt), s.WarmedH vm₁ ∧ Stand p l e R s m args below meth c B.U B.locs B.cells B.slots ∧ Post ⟨T.setVm vm₁, locs, cells, slots⟩ (Value.ref b :: argsL).toArray v B ∧
      ∀ target, Steps p.tables e below (B.U.setTop { g with pc := g.pc + 3, stack := v.toList ++ rest }) target → Steps p.tables e below (T.setTop g) target := by
  obtain ⟨mk, methM, hnamed, hmethM, hstM, habM⟩ := Cond.instanceMethod_spec hinst
  obtain ⟨m8, methM', cM, hn8, hmethM', -, -, -, -, -, -, hsigM⟩ := Cond.codeWith_spec hcode
  cases Option.some.inj (hn8.symm.trans hnamed)
  cases hmethM.symm.trans hmethM'
  obtain ⟨c2, r2, m2, q1, q2, q3, q4, kP, hkP, hkPi⟩ := Cond.selects_spec hsel
  cases hcls.symm.trans q1
  cases (State.methodFound?_of_named hnamed hy).symm.trans q2
  cases hnamed.symm.trans q3
  have hselP : selectMethod e.platform s.vm cellB.cls mk = .method mk := by rw [Launch.admits_selectMethod X.admits]; exact q4
  obtain ⟨vm₁, X₁, hstep₁⟩ := X.invokevirtual hexec hown hlink hnamed hmethM hstM hkP hkPi hy (a := b) (cell := cellB) hcell
    (fun z h => by rw [h] at hobj; cases hobj) hselP hmethM habM hkP hkPi (g := g) hg (argsL := argsL) (rest := rest) (hlen _ hsigM) hstack hdg
  obtain ⟨v, B, X', hpost, hsteps⟩ := hK m meth c ⟨T.setVm vm₁, locs, cells, slots⟩ { g with stack := rest } (.invokevirtual index) mk (Value.ref b :: argsL).toArray X₁ hg hsize hdg hW (X₁.named hnamed) (hpre vm₁ X₁.warmed)
  exact ⟨v, vm₁, B, X₁.warmed, X', hpost, fun target h => hstep₁ _ fun acts => by rw [doInvoke_state]; exact hsteps.trans h⟩
abbrev vx_CVW (R : Room) (s : State) (args : Array Value) (own C : String) (index : Nat) (y : MethodName) (bytes : ByteArray) (maxL : Nat) (ret : Option FieldType) (hh : List (Nat × Nat × Nat × Nat)) (ws : List Cond) (rm : Room) (mc ms n : Nat) : Prop :=
  (rm.cells = mc ∧ rm.slots = ms ∧ rm.frames + 1 ≤ R.frames ∧ 8 + (maxL + 11) + rm.locals ≤ R.locals ∧ (∀ w ∈ ws, ∀ (a' : Array Value) (U : State), s.WarmedH U.vm → w.before a' U = true) ∧ Cond.codeWith y bytes maxL ret hh ∈ ws) ∧
  (Cond.codeWith y bytes maxL ret hh).before args s = true ∧ (Cond.initialized y.cls).before args s = true ∧ (y.cls ≠ "java/lang/invoke/MethodHandle" ∧ y.cls ≠ "java/lang/invoke/VarHandle") ∧
  (∀ sig, parseMethodDescriptor y.desc = some sig → n = sig.parameters.length) ∧ (Cond.methodLink own index y).before args s = true ∧ (Cond.instanceMethod y).before args s = true ∧ (Cond.selects C y y).before args s = true
theorem vx_cwVW {own C : String} {index maxL mc ms : Nat} {y : MethodName} {bytes : ByteArray} {ret : Option FieldType} {hh : List (Nat × Nat × Nat × Nat)} {Ts ws ws' : List Cond} {rm : Room} (n : Nat) (ht : ∀ w ∈ Ts, w.before args s = true) (hT : GoodIn Ts (wsV own index C y ws)) (hw : ws = Cond.codeWith y bytes maxL ret hh :: ws') (hrc : rm.cells = mc) (hrs : rm.slots = ms)
    (hd : y.cls = C ∧ y.cls ≠ "java/lang/invoke/MethodHandle" ∧ y.cls ≠ "java/lang/invoke/VarHandle" ∧ (parseMethodDescriptor y.desc).map (fun d => d.parameters.length) = some n) (hR : rm.frames + 1 ≤ R.frames ∧ 8 + (maxL + 11) + rm.locals ≤ R.locals) :
    vx_CVW R s args own C index y bytes maxL ret hh ws rm mc ms n := by
  obtain ⟨hC, hd⟩ := hd
  subst hC
  have ok : ∀ w ∈ wsV own index y.cls y ws, w.before args s = true := fun w h => ht w (hT w h).1
  have hG : GoodIn Ts ws := fun w h => hT w (by unfold wsV; exact List.mem_append_right _ h)
  have hc : Cond.codeWith y bytes maxL ret hh ∈ ws := by rw [hw]; exact List.mem_cons_self
  refine ⟨⟨hrc, hrs, hR.1, hR.2, pay_in ht hG, hc⟩, ht _ (hG _ hc).1, ok _ (by simp [wsV]), ⟨hd.1, hd.2.1⟩, fun sig h => ?_, ok _ (by simp [wsV]), ok _ (by simp [wsV]), ok _ (by simp [wsV])⟩
  have h2 := hd.2.2
  rw [h] at h2
  exact (Option.some.inj h2).symm
theorem vx_runVW {y : MethodName} {bytes cc : ByteArray} {maxL nL mc ms n index : Nat} {ret : Option FieldType} {hh : List (Nat × Nat × Nat × Nat)} {ws : List Cond} {rm : Room} {Pc : Array Value → State → Prop} {Qc : Array Value → State → Outcome → State → Prop} {free : Addr → Prop} {Ts : List Cond} {own C : String} {b : Addr} {As rest : List Value} {g : JFrame}
    (S : CallFix p m c cc nL s args Ts own) (hM : Met l y ws rm Pc Qc mc ms free) (cw : vx_CVW R s args own C index y bytes maxL ret hh ws rm mc ms n) (hp : PreV s H C b Pc As)
    (hg : g.method = m) (hn : As.length = n) (hsize : g.locals.size = nL) (hstack : g.stack = As.reverse ++ .ref b :: rest) (hW : 2 * g.monitorRoom + (rest.map fun v => v.category).sum ≤ 8) (hdg : decode cc g.pc = .ok (.invokevirtual index, 3)) (hf : cells + mc ≤ R.cells ∧ slots + ms ≤ R.slots) :
    va_Run p l e R s m args below meth c H locs cells slots mc ms g rest (Qc (Value.ref b :: As).toArray) free := by
  obtain ⟨⟨hrc, hrs, hfr, hlo, hws, hcw⟩, hcode, hini, hy, hlen, hl, hin, hse⟩ := cw
  have hK : Back l R p e below s args y 3 8 (PreOf R mc ms Pc) (PostOf Qc mc ms free) := va_backW (hh := hh) (bytes := bytes) (maxL := maxL) (ret := ret) hM hp.1 hrc hrs hfr hlo hws hcw (fun a' U hW => word_at hW (Or.inl (by first | rfl | simp [Cond.onTables, Cond.keeps, Cond.steady])) hini)
  obtain ⟨hx, hb, hml, ho, -⟩ := S
  obtain ⟨-, ⟨cellB, hcB, hoB, hclB⟩, hPc⟩ := hp
  intro T hT X
  obtain ⟨v, vm₁, ⟨U', l2, c2, s2⟩, hW₁, X', ⟨g', mk, t, L, e1, e2, hq, h1, hL, h2, h3⟩, st⟩ := vx_callVW X hx (C := C) (hh := hh) (bytes := bytes) (maxL := maxL) (ret := ret) ho hl hin hse hcode hy hK (by rw [hT]; exact hcB) hoB hclB hg (hsize.trans hml.symm) (argsL := As) (rest := rest) (fun sig h => hn.trans (hlen sig h)) hstack hW (by rw [hb]; exact hdg)
    (fun vm₁ hW₁ => ⟨hf.1, hf.2, hPc (T.setVm vm₁) hT hW₁⟩)
  dsimp only [Pt.U, Pt.locs, Pt.cells, Pt.slots] at X' e1 e2 h1 h2 h3 st
  subst h1; subst h2; subst h3
  exact ⟨v, (T.setVm vm₁).calling g' mk (Value.ref b :: As).toArray, t, U', L, hT, X', hL, e1, e2, hq, st⟩
section
variable {y : MethodName} {bytes cc : ByteArray} {maxL nL mc ms n index : Nat} {ret : Option FieldType} {ws : List Cond} {rm : Room} {Pc : Array Value → State → Prop} {Qc : Array Value → State → Outcome → State → Prop} {XC : String → State → State → Prop} {free : Addr → Prop} {Ts : List Cond} {own C : String} {b : Addr} {As rest : List Value} {g : JFrame}
theorem vx_runVX {hh : List (Nat × Nat × Nat × Nat)} (S : CallFix p m c cc nL s args Ts own) (hM : vx_Met l y ws rm Pc Qc XC mc ms free) (cw : vx_CVW R s args own C index y bytes maxL ret hh ws rm mc ms n) (hp : PreV s H C b Pc As)
    (hg : g.method = m) (hn : As.length = n) (hsize : g.locals.size = nL) (hstack : g.stack = As.reverse ++ .ref b :: rest) (hW : 2 * g.monitorRoom + (rest.map fun v => v.category).sum ≤ 8) (hdg : decode cc g.pc = .ok (.invokevirtual index, 3)) (hf : cells + mc ≤ R.cells ∧ slots + ms ≤ R.slots) :
    vx_Run p l e R s m args below meth c H locs cells slots mc ms g rest (Qc (Value.ref b :: As).toArray) XC free := by
  obtain ⟨⟨hrc, hrs, hfr, hlo, hws, hcw⟩, hcode, hini, hy, hlen, hl, hin, hse⟩ := cw
  have hK : vx_Back l R p e below s args y 3 8 (PreOf R mc ms Pc) (PostOf Qc mc ms free) (vx_Post XC mc ms free) := vx_backW (hh := hh) (bytes := bytes) (maxL := maxL) (ret := ret) hM hp.1 hrc hrs hfr hlo hws hcw (fun a' U hW => word_at hW (Or.inl (by first | rfl | simp [Cond.onTables, Cond.keeps, Cond.steady])) hini)
  obtain ⟨hx, hb, hml, ho, -⟩ := S
  obtain ⟨-, ⟨cellB, hcB, hoB, hclB⟩, hPc⟩ := hp
  intro T hT X
  rcases vx_callVX X hx (C := C) (hh := hh) (bytes := bytes) (maxL := maxL) (ret := ret) ho hl hin hse hcode hy hK (by rw [hT]; exact hcB) hoB hclB hg (hsize.trans hml.symm) (argsL := As) (rest := rest) (fun sig h => hn.trans (hlen sig h)) hstack hW (by rw [hb]; exact hdg)
    (fun vm₁ hW₁ => ⟨hf.1, hf.2, hPc (T.setVm vm₁) hT hW₁⟩) with ⟨v, vm₁, ⟨U', l2, c2, s2⟩, hW₁, X', ⟨g', mk, t, L, e1, e2, hq, h1, hL, h2, h3⟩, st⟩ | ⟨q, vm₁, ⟨U', l2, c2, s2⟩, hW₁, X', ⟨g', mk, t, L, E, ce, e1, e2, hq, hce, hcv, hcl, h1, hL, h2, h3⟩, st⟩
  · dsimp only [Pt.U, Pt.locs, Pt.cells, Pt.slots] at X' e1 e2 h1 h2 h3 st
    subst h1; subst h2; subst h3
    exact Or.inl ⟨v, (T.setVm vm₁).calling g' mk (Value.ref b :: As).toArray, t, U', L, hT, X', hL, e1, e2, hq, st⟩
  · dsimp only [Pt.U, Pt.locs, Pt.cells, Pt.slots] at X' e1 e2 h1 h2 h3 st hcl
    subst h1; subst h2; subst h3
    exact Or.inr ⟨q, (T.setVm vm₁).calling g' mk (Value.ref b :: As).toArray, t, U', L, E, ce, hT, X', hL, e1, e2, hq, hce, hcv, vx_cls hW₁ hcl, st⟩
theorem vx_runSX {hh : List (Nat × Nat × Nat × Nat)} (S : CallFix p m c cc nL s args Ts own) (hM : vx_Met l y ws rm Pc Qc XC mc ms free) (cw : vx_CSW R s args own index y bytes maxL ret hh ws rm mc ms n) (hp : PreS s H Pc As)
    (hg : g.method = m) (hn : As.length = n) (hsize : g.locals.size = nL) (hstack : g.stack = As.reverse ++ rest) (hW : 2 * g.monitorRoom + (rest.map fun v => v.category).sum ≤ 8) (hdg : decode cc g.pc = .ok (.invokestatic index, 3)) (hf : cells + mc ≤ R.cells ∧ slots + ms ≤ R.slots) :
    vx_Run p l e R s m args below meth c H locs cells slots mc ms g rest (Qc As.toArray) XC free := by
  obtain ⟨⟨hrc, hrs, hfr, hlo, hws, hcw⟩, hcode, hini, hy, hlen, hl, hstt⟩ := cw
  have hK : vx_Back l R p e below s args y 3 8 (PreOf R mc ms Pc) (PostOf Qc mc ms free) (vx_Post XC mc ms free) := vx_backW (hh := hh) (bytes := bytes) (maxL := maxL) (ret := ret) hM hp.1 hrc hrs hfr hlo hws hcw (fun a' U hW => word_at hW (Or.inl (by first | rfl | simp [Cond.onTables, Cond.keeps, Cond.steady])) hini)
  obtain ⟨hx, hb, hml, ho, -⟩ := S
  intro T hT X
  rcases vx_callSX X hx (hh := hh) (bytes := bytes) (maxL := maxL) (ret := ret) ho hl hstt hini hcode hy hK hg (hsize.trans hml.symm) (argsL := As) (rest := rest) (fun sig h => hn.trans (hlen sig h)) hstack hW (by rw [hb]; exact hdg)
    (fun vm₁ hW₁ => ⟨hf.1, hf.2, hp.2 (T.setVm vm₁) hT hW₁⟩) with ⟨v, vm₁, ⟨U', l2, c2, s2⟩, hW₁, X', ⟨g', mk, t, L, e1, e2, hq, h1, hL, h2, h3⟩, st⟩ | ⟨q, vm₁, ⟨U', l2, c2, s2⟩, hW₁, X', ⟨g', mk, t, L, E, ce, e1, e2, hq, hce, hcv, hcl, h1, hL, h2, h3⟩, st⟩
  · dsimp only [Pt.U, Pt.locs, Pt.cells, Pt.slots] at X' e1 e2 h1 h2 h3 st
    subst h1; subst h2; subst h3
    exact Or.inl ⟨v, (T.setVm vm₁).calling g' mk As.toArray, t, U', L, hT, X', hL, e1, e2, hq, st⟩
  · dsimp only [Pt.U, Pt.locs, Pt.cells, Pt.slots] at X' e1 e2 h1 h2 h3 st hcl
    subst h1; subst h2; subst h3
    exact Or.inr ⟨q, (T.setVm vm₁).calling g' mk As.toArray, t, U', L, E, ce, hT, X', hL, e1, e2, hq, hce, hcv, vx_cls hW₁ hcl, st⟩
end
end VXH
theorem vx_ofWH {l : Launch} {y : MethodName} {ws ws' : List Cond} {rm : Room} {Pc : Array Value → State → Prop} {Qc : Array Value → State → Outcome → State → Prop} {XC : String → State → State → Prop} {mc ms : Nat} {free : Addr → Prop} {cc : ByteArray} {maxL : Nat} {ret : Option FieldType} {hh : List (Nat × Nat × Nat × Nat)}
    (hy : plainName y.cls = true) (hw : ws = Cond.codeWith y cc maxL ret hh :: ws')
    (body : ∀ p e s m args below meth c s₁, BodyLoose p l y (headSpec ws rm) cc maxL ret e s m args below meth c s₁ → c.maxLocals = maxL → Pc args s →
      W p l e (headSpec ws rm).room s m args below meth c s.heap [] 0 0 (vx_MQ below Qc XC args s mc ms free) (entryFrame m args maxL)) : vx_Met l y ws rm Pc Qc XC mc ms free := by
  refine MetFree.of_bodyS (code := cc) (maxLocals := maxL) (ret := ret) hy ?_ ?_
  · intro args s m h hn
    obtain ⟨m9, meth, c, hn9, h1, h2, h3, h4, -, h5, h6, -⟩ := Cond.codeWith_spec (atoms_spec (ws := ws) h _ (by rw [hw]; exact List.mem_cons_self))
    cases hn.symm.trans hn9
    exact ⟨meth, c, h1, h2, h3, h4, h5, h6⟩
  · intro p e s m args below meth c s₁ B hml hP _
    have hh0 : s₁.heap = s.heap := by rw [B.state]; rfl
    obtain ⟨t, a1, o, b1, b2, b3⟩ := body p e s m args below meth c s₁ B hml hP s₁ hh0 (Stand.of_body B)
    exact ⟨t, o, a1, b1, b2, b3⟩
/-! ===== END ===== -/

def RX0 : String := "SkipRows$Buffer"
def TX0 : u_T := fun k => match k with
  | 0 => ("SkipRows$Buffer", "codes", "[I", true)
  | 1 => ("SkipRows$Buffer", "length", "I", false)
  | 2 => ("SkipRows$Buffer", "keys", "[I", true)
  | 3 => ("SkipRows$Buffer", "urgencies", "[I", true)
  | 4 => ("SkipRows$Buffer", "times", "[I", true)
  | 5 => ("SkipRows$Buffer", "parts", "I", false)
  | _ => ("SkipRows$Buffer", "place", "I", false)
def tyX0 : Nat → FieldType := fun k => match k with
  | 0 => .array .int
  | 1 => .int
  | 2 => .array .int
  | 3 => .array .int
  | 4 => .array .int
  | 5 => .int
  | _ => .int
abbrev wsX00 : List Cond := u_ws RX0 TX0 7
theorem nmX0 : ∀ a, a < 7 → ∀ b, b < 7 → a ≠ b → (TX0 a).2.1 ≠ (TX0 b).2.1 := by decide +kernel
theorem tyX0_ok : ∀ k, k < 7 → parseFieldDescriptor (TX0 k).2.2.1 = some (tyX0 k) := by decide +kernel
abbrev cX0_init : ByteArray := prog_2_method_1_code
def yX0_init : MethodName := ⟨RX0, "<init>", "()V"⟩
def RX1 : String := "SkipRows$History"
def TX1 : u_T := fun k => match k with
  | 0 => ("SkipRows$History", "saved", "[LSkipRows$Table;", true)
  | 1 => ("SkipRows$History", "oldest", "I", false)
  | _ => ("SkipRows$History", "size", "I", false)
def tyX1 : Nat → FieldType := fun k => match k with
  | 0 => .array (.object "SkipRows$Table")
  | 1 => .int
  | _ => .int
abbrev wsX10 : List Cond := u_ws RX1 TX1 3
theorem nmX1 : ∀ a, a < 3 → ∀ b, b < 3 → a ≠ b → (TX1 a).2.1 ≠ (TX1 b).2.1 := by decide +kernel
theorem tyX1_ok : ∀ k, k < 3 → parseFieldDescriptor (TX1 k).2.2.1 = some (tyX1 k) := by decide +kernel
abbrev cX1_init : ByteArray := prog_3_method_1_code
def yX1_init : MethodName := ⟨RX1, "<init>", "()V"⟩
abbrev cX1_keep : ByteArray := prog_3_method_2_code
def yX1_keep : MethodName := ⟨RX1, "keep", "(LSkipRows$Table;)V"⟩
def RX2 : String := "SkipRows$Look"
def TX2 : u_T := fun k => match k with
  | 0 => ("SkipRows$Look", "taken", "I", false)
  | 1 => ("SkipRows$Look", "takenRows", "I", false)
  | 2 => ("SkipRows$Look", "skipped", "I", false)
  | 3 => ("SkipRows$Look", "skippedRows", "I", false)
  | _ => ("SkipRows$Look", "first", "I", false)
def tyX2 : Nat → FieldType := fun k => match k with
  | 0 => .int
  | 1 => .int
  | 2 => .int
  | 3 => .int
  | _ => .int
abbrev wsX20 : List Cond := u_ws RX2 TX2 5
theorem nmX2 : ∀ a, a < 5 → ∀ b, b < 5 → a ≠ b → (TX2 a).2.1 ≠ (TX2 b).2.1 := by decide +kernel
theorem tyX2_ok : ∀ k, k < 5 → parseFieldDescriptor (TX2 k).2.2.1 = some (tyX2 k) := by decide +kernel
abbrev cX2_init : ByteArray := prog_4_method_1_code
def yX2_init : MethodName := ⟨RX2, "<init>", "()V"⟩
abbrev cX2_along : ByteArray := prog_4_method_2_code
def yX2_along : MethodName := ⟨RX2, "along", "(LSkipRows$Table;II)V"⟩
abbrev cX2_forget : ByteArray := prog_4_method_3_code
def yX2_forget : MethodName := ⟨RX2, "forget", "()V"⟩
abbrev cX2_meet : ByteArray := prog_4_method_4_code
def yX2_meet : MethodName := ⟨RX2, "meet", "(IZ)V"⟩
abbrev cX2_hasTaken : ByteArray := prog_4_method_5_code
def yX2_hasTaken : MethodName := ⟨RX2, "hasTaken", "(I)Z"⟩
abbrev cX2_hasSkipped : ByteArray := prog_4_method_6_code
def yX2_hasSkipped : MethodName := ⟨RX2, "hasSkipped", "(I)Z"⟩
def RX3 : String := "SkipRows$Reader"
def TX3 : u_T := fun k => match k with
  | 0 => ("SkipRows$Reader", "keys", "I", false)
  | 1 => ("SkipRows$Reader", "dones", "I", false)
  | 2 => ("SkipRows$Reader", "givenBack", "I", false)
  | _ => ("SkipRows$Reader", "lapsed", "I", false)
def tyX3 : Nat → FieldType := fun k => match k with
  | 0 => .int
  | 1 => .int
  | 2 => .int
  | _ => .int
abbrev wsX30 : List Cond := u_ws RX3 TX3 4
theorem nmX3 : ∀ a, a < 4 → ∀ b, b < 4 → a ≠ b → (TX3 a).2.1 ≠ (TX3 b).2.1 := by decide +kernel
theorem tyX3_ok : ∀ k, k < 4 → parseFieldDescriptor (TX3 k).2.2.1 = some (tyX3 k) := by decide +kernel
abbrev cX3_init : ByteArray := prog_5_method_1_code
def yX3_init : MethodName := ⟨RX3, "<init>", "()V"⟩
abbrev cX3_copyFrom : ByteArray := prog_5_method_2_code
def yX3_copyFrom : MethodName := ⟨RX3, "copyFrom", "(LSkipRows$Reader;)V"⟩
abbrev cX3_wants : ByteArray := prog_5_method_3_code
def yX3_wants : MethodName := ⟨RX3, "wants", "(I)Z"⟩
def RX4 : String := "SkipRows$Row"
def TX4 : u_T := fun k => match k with
  | 0 => ("SkipRows$Row", "key", "I", false)
  | 1 => ("SkipRows$Row", "urgency", "I", false)
  | 2 => ("SkipRows$Row", "mark", "I", false)
  | 3 => ("SkipRows$Row", "putAt", "I", false)
  | 4 => ("SkipRows$Row", "state", "I", false)
  | 5 => ("SkipRows$Row", "holder", "I", false)
  | 6 => ("SkipRows$Row", "lapsesAt", "I", false)
  | 7 => ("SkipRows$Row", "tries", "I", false)
  | _ => ("SkipRows$Row", "skips", "I", false)
def tyX4 : Nat → FieldType := fun k => match k with
  | 0 => .int
  | 1 => .int
  | 2 => .int
  | 3 => .int
  | 4 => .int
  | 5 => .int
  | 6 => .int
  | 7 => .int
  | _ => .int
abbrev wsX40 : List Cond := u_ws RX4 TX4 9
theorem nmX4 : ∀ a, a < 9 → ∀ b, b < 9 → a ≠ b → (TX4 a).2.1 ≠ (TX4 b).2.1 := by decide +kernel
theorem tyX4_ok : ∀ k, k < 9 → parseFieldDescriptor (TX4 k).2.2.1 = some (tyX4 k) := by decide +kernel
abbrev cX4_init : ByteArray := prog_6_method_1_code
def yX4_init : MethodName := ⟨RX4, "<init>", "()V"⟩
abbrev cX4_copyFrom : ByteArray := prog_6_method_2_code
def yX4_copyFrom : MethodName := ⟨RX4, "copyFrom", "(LSkipRows$Row;)V"⟩
abbrev cX4_begin : ByteArray := prog_6_method_3_code
def yX4_begin : MethodName := ⟨RX4, "begin", "(IIII)V"⟩
abbrev cX4_isOpen : ByteArray := prog_6_method_4_code
def yX4_isOpen : MethodName := ⟨RX4, "isOpen", "()Z"⟩
abbrev cX4_isHeldBy : ByteArray := prog_6_method_5_code
def yX4_isHeldBy : MethodName := ⟨RX4, "isHeldBy", "(I)Z"⟩
abbrev cX4_lapsesBy : ByteArray := prog_6_method_6_code
def yX4_lapsesBy : MethodName := ⟨RX4, "lapsesBy", "(I)Z"⟩
abbrev cX4_startHold : ByteArray := prog_6_method_7_code
def yX4_startHold : MethodName := ⟨RX4, "startHold", "(II)V"⟩
abbrev cX4_endHold : ByteArray := prog_6_method_8_code
def yX4_endHold : MethodName := ⟨RX4, "endHold", "(I)V"⟩
def RX5 : String := "SkipRows$Table"
def TX5 : u_T := fun k => match k with
  | 0 => ("SkipRows$Table", "rows", "[LSkipRows$Row;", true)
  | 1 => ("SkipRows$Table", "readers", "[LSkipRows$Reader;", true)
  | 2 => ("SkipRows$Table", "settings", "[I", true)
  | 3 => ("SkipRows$Table", "size", "I", false)
  | 4 => ("SkipRows$Table", "time", "I", false)
  | 5 => ("SkipRows$Table", "puts", "I", false)
  | 6 => ("SkipRows$Table", "dones", "I", false)
  | _ => ("SkipRows$Table", "skips", "I", false)
def tyX5 : Nat → FieldType := fun k => match k with
  | 0 => .array (.object "SkipRows$Row")
  | 1 => .array (.object "SkipRows$Reader")
  | 2 => .array .int
  | 3 => .int
  | 4 => .int
  | 5 => .int
  | 6 => .int
  | _ => .int
abbrev wsX50 : List Cond := u_ws RX5 TX5 8
theorem nmX5 : ∀ a, a < 8 → ∀ b, b < 8 → a ≠ b → (TX5 a).2.1 ≠ (TX5 b).2.1 := by decide +kernel
theorem tyX5_ok : ∀ k, k < 8 → parseFieldDescriptor (TX5 k).2.2.1 = some (tyX5 k) := by decide +kernel
abbrev cX5_init : ByteArray := prog_7_method_1_code
def yX5_init : MethodName := ⟨RX5, "<init>", "()V"⟩
abbrev cX5_copyFrom : ByteArray := prog_7_method_2_code
def yX5_copyFrom : MethodName := ⟨RX5, "copyFrom", "(LSkipRows$Table;)V"⟩
abbrev cX5_addRow : ByteArray := prog_7_method_3_code
def yX5_addRow : MethodName := ⟨RX5, "addRow", "(II)V"⟩
abbrev cX5_dropDoneRows : ByteArray := prog_7_method_4_code
def yX5_dropDoneRows : MethodName := ⟨RX5, "dropDoneRows", "()I"⟩
abbrev cX5_isBlocked : ByteArray := prog_7_method_5_code
def yX5_isBlocked : MethodName := ⟨RX5, "isBlocked", "(I)Z"⟩
abbrev cX5_canTake : ByteArray := prog_7_method_6_code
def yX5_canTake : MethodName := ⟨RX5, "canTake", "(II)Z"⟩
abbrev cX5_holdAndSkip : ByteArray := prog_7_method_7_code
def yX5_holdAndSkip : MethodName := ⟨RX5, "holdAndSkip", "(ILSkipRows$Look;)V"⟩
abbrev cX5_holdsOf : ByteArray := prog_7_method_8_code
def yX5_holdsOf : MethodName := ⟨RX5, "holdsOf", "(I)I"⟩
abbrev cX5_prolongHolds : ByteArray := prog_7_method_9_code
def yX5_prolongHolds : MethodName := ⟨RX5, "prolongHolds", "(I)V"⟩
abbrev cX5_firstLapseOf : ByteArray := prog_7_method_10_code
def yX5_firstLapseOf : MethodName := ⟨RX5, "firstLapseOf", "(I)I"⟩
abbrev cX5_moveTime : ByteArray := prog_7_method_11_code
def yX5_moveTime : MethodName := ⟨RX5, "moveTime", "(I)I"⟩
abbrev cX5_lapse : ByteArray := prog_7_method_12_code
def yX5_lapse : MethodName := ⟨RX5, "lapse", "(LSkipRows$Row;)V"⟩
abbrev cX5_holdsEndedBy : ByteArray := prog_7_method_13_code
def yX5_holdsEndedBy : MethodName := ⟨RX5, "holdsEndedBy", "(I)I"⟩
abbrev cX5_deadBy : ByteArray := prog_7_method_14_code
def yX5_deadBy : MethodName := ⟨RX5, "deadBy", "(I)I"⟩
abbrev cX5_placeOf : ByteArray := prog_7_method_15_code
def yX5_placeOf : MethodName := ⟨RX5, "placeOf", "(I)I"⟩
abbrev cX5_isAhead : ByteArray := prog_7_method_16_code
def yX5_isAhead : MethodName := ⟨RX5, "isAhead", "(II)Z"⟩
abbrev cX5_rowsIn : ByteArray := prog_7_method_17_code
def yX5_rowsIn : MethodName := ⟨RX5, "rowsIn", "(I)I"⟩
abbrev cX5_blockedWaiting : ByteArray := prog_7_method_19_code
def yX5_blockedWaiting : MethodName := ⟨RX5, "blockedWaiting", "()I"⟩
abbrev cX5_firstWaiting : ByteArray := prog_7_method_20_code
def yX5_firstWaiting : MethodName := ⟨RX5, "firstWaiting", "()I"⟩
abbrev cX5_unlikePairs : ByteArray := prog_7_method_21_code
def yX5_unlikePairs : MethodName := ⟨RX5, "unlikePairs", "()I"⟩
abbrev cX5_hasEarlierPair : ByteArray := prog_7_method_22_code
def yX5_hasEarlierPair : MethodName := ⟨RX5, "hasEarlierPair", "(I)Z"⟩
abbrev cX5_greatestSkipsWaiting : ByteArray := prog_7_method_23_code
def yX5_greatestSkipsWaiting : MethodName := ⟨RX5, "greatestSkipsWaiting", "()I"⟩
def RX6 : String := "SkipRows"
def TX6 : u_T := fun k => match k with
  | 0 => ("SkipRows", "table", "LSkipRows$Table;", true)
  | 1 => ("SkipRows", "history", "LSkipRows$History;", true)
  | 2 => ("SkipRows", "buffer", "LSkipRows$Buffer;", true)
  | _ => ("SkipRows", "look", "LSkipRows$Look;", true)
def tyX6 : Nat → FieldType := fun k => match k with
  | 0 => .object "SkipRows$Table"
  | 1 => .object "SkipRows$History"
  | 2 => .object "SkipRows$Buffer"
  | _ => .object "SkipRows$Look"
abbrev wsX60 : List Cond := u_ws RX6 TX6 4
theorem nmX6 : ∀ a, a < 4 → ∀ b, b < 4 → a ≠ b → (TX6 a).2.1 ≠ (TX6 b).2.1 := by decide +kernel
theorem tyX6_ok : ∀ k, k < 4 → parseFieldDescriptor (TX6 k).2.2.1 = some (tyX6 k) := by decide +kernel
abbrev cX6_init : ByteArray := prog_1_method_1_code
def yX6_init : MethodName := ⟨RX6, "<init>", "()V"⟩
abbrev cX6_put : ByteArray := prog_1_method_2_code
def yX6_put : MethodName := ⟨RX6, "put", "(II)I"⟩
abbrev cX6_urge : ByteArray := prog_1_method_3_code
def yX6_urge : MethodName := ⟨RX6, "urge", "(II)I"⟩
abbrev cX6_revive : ByteArray := prog_1_method_4_code
def yX6_revive : MethodName := ⟨RX6, "revive", "(I)I"⟩
abbrev cX6_sweep : ByteArray := prog_1_method_5_code
def yX6_sweep : MethodName := ⟨RX6, "sweep", "()I"⟩
abbrev cX6_set : ByteArray := prog_1_method_6_code
def yX6_set : MethodName := ⟨RX6, "set", "(II)I"⟩
abbrev cX6_takes : ByteArray := prog_1_method_7_code
def yX6_takes : MethodName := ⟨RX6, "takes", "(II)I"⟩
abbrev cX6_take : ByteArray := prog_1_method_8_code
def yX6_take : MethodName := ⟨RX6, "take", "(II)I"⟩
abbrev cX6_done : ByteArray := prog_1_method_9_code
def yX6_done : MethodName := ⟨RX6, "done", "(II)I"⟩
abbrev cX6_giveBack : ByteArray := prog_1_method_10_code
def yX6_giveBack : MethodName := ⟨RX6, "giveBack", "(II)I"⟩
abbrev cX6_renew : ByteArray := prog_1_method_11_code
def yX6_renew : MethodName := ⟨RX6, "renew", "(I)I"⟩
abbrev cX6_pass : ByteArray := prog_1_method_12_code
def yX6_pass : MethodName := ⟨RX6, "pass", "(I)I"⟩
abbrev cX6_row : ByteArray := prog_1_method_18_code
def yX6_row : MethodName := ⟨RX6, "row", "(II)I"⟩
abbrev cX6_reader : ByteArray := prog_1_method_19_code
def yX6_reader : MethodName := ⟨RX6, "reader", "(II)I"⟩
abbrev cX6_count : ByteArray := prog_1_method_21_code
def yX6_count : MethodName := ⟨RX6, "count", "(I)I"⟩
abbrev cX6_setting : ByteArray := prog_1_method_22_code
def yX6_setting : MethodName := ⟨RX6, "setting", "(I)I"⟩
abbrev cX6_ifTaken : ByteArray := prog_1_method_23_code
def yX6_ifTaken : MethodName := ⟨RX6, "ifTaken", "(III)I"⟩
abbrev cX6_ifPassed : ByteArray := prog_1_method_24_code
def yX6_ifPassed : MethodName := ⟨RX6, "ifPassed", "(II)I"⟩
abbrev cX6_freest : ByteArray := prog_1_method_25_code
def yX6_freest : MethodName := ⟨RX6, "freest", "()I"⟩
abbrev cX6_fairness : ByteArray := prog_1_method_26_code
def yX6_fairness : MethodName := ⟨RX6, "fairness", "()D"⟩
abbrev cX6_requireWithin : ByteArray := prog_1_method_34_code
def yX6_requireWithin : MethodName := ⟨RX6, "requireWithin", "(III)V"⟩
abbrev cX6_requireReader : ByteArray := prog_1_method_35_code
def yX6_requireReader : MethodName := ⟨RX6, "requireReader", "(I)V"⟩
abbrev cX6_requireSetting : ByteArray := prog_1_method_36_code
def yX6_requireSetting : MethodName := ⟨RX6, "requireSetting", "(I)V"⟩
abbrev cX6_requireRow : ByteArray := prog_1_method_37_code
def yX6_requireRow : MethodName := ⟨RX6, "requireRow", "(I)V"⟩
abbrev cX6_requireHold : ByteArray := prog_1_method_38_code
def yX6_requireHold : MethodName := ⟨RX6, "requireHold", "(II)V"⟩
abbrev cX6_requireRoomFor : ByteArray := prog_1_method_39_code
def yX6_requireRoomFor : MethodName := ⟨RX6, "requireRoomFor", "(I)V"⟩
def RX7 : String := "SkipRowsModel"
def TX7 : u_T := fun k => match k with
  | _ => ("", "", "", false)
def tyX7 : Nat → FieldType := fun k => match k with
  | _ => .int
abbrev wsX70 : List Cond := u_ws RX7 TX7 0
theorem nmX7 : ∀ a, a < 0 → ∀ b, b < 0 → a ≠ b → (TX7 a).2.1 ≠ (TX7 b).2.1 := by decide +kernel
theorem tyX7_ok : ∀ k, k < 0 → parseFieldDescriptor (TX7 k).2.2.1 = some (tyX7 k) := by decide +kernel
def RJ9 : String := "java/lang/Math"
def TJ9 : u_T := fun k => match k with
  | _ => ("", "", "", false)
def tyJ9 : Nat → FieldType := fun k => match k with
  | _ => .int
abbrev wsJ90 : List Cond := u_ws RJ9 TJ9 0
theorem nmJ9 : ∀ a, a < 0 → ∀ b, b < 0 → a ≠ b → (TJ9 a).2.1 ≠ (TJ9 b).2.1 := by decide +kernel
theorem tyJ9_ok : ∀ k, k < 0 → parseFieldDescriptor (TJ9 k).2.2.1 = some (tyJ9 k) := by decide +kernel
abbrev cJ9_max_7cf53 : ByteArray := prog_14_method_65_code
def yJ9_max_7cf53 : MethodName := ⟨RJ9, "max", "(II)I"⟩
abbrev cJ9_min_7cf53 : ByteArray := prog_14_method_69_code
def yJ9_min_7cf53 : MethodName := ⟨RJ9, "min", "(II)I"⟩
def RJ0 : String := "java/lang/String"
def TJ0 : u_T := fun k => match k with
  | _ => ("", "", "", false)
def tyJ0 : Nat → FieldType := fun k => match k with
  | _ => .int
abbrev wsJ00 : List Cond := u_ws RJ0 TJ0 0
theorem nmJ0 : ∀ a, a < 0 → ∀ b, b < 0 → a ≠ b → (TJ0 a).2.1 ≠ (TJ0 b).2.1 := by decide +kernel
theorem tyJ0_ok : ∀ k, k < 0 → parseFieldDescriptor (TJ0 k).2.2.1 = some (tyJ0 k) := by decide +kernel
def RL : String := "SkipRowsLaw"
abbrev cL_cell : ByteArray := method_2_code
def yL_cell : MethodName := ⟨RL, "cell", "([II)I"⟩
abbrev cL_low : ByteArray := method_3_code
def yL_low : MethodName := ⟨RL, "low", "(II)I"⟩
abbrev cL_put : ByteArray := method_4_code
def yL_put : MethodName := ⟨RL, "put", "(LSkipRows;II)I"⟩
abbrev cL_done : ByteArray := method_5_code
def yL_done : MethodName := ⟨RL, "done", "(LSkipRows;II)I"⟩
abbrev cL_giveBack : ByteArray := method_6_code
def yL_giveBack : MethodName := ⟨RL, "giveBack", "(LSkipRows;II)I"⟩
abbrev cL_revive : ByteArray := method_7_code
def yL_revive : MethodName := ⟨RL, "revive", "(LSkipRows;I)I"⟩
abbrev cL_urge : ByteArray := method_8_code
def yL_urge : MethodName := ⟨RL, "urge", "(LSkipRows;II)I"⟩
abbrev cL_blocked : ByteArray := method_9_code
def yL_blocked : MethodName := ⟨RL, "blocked", "(I[I[I)Z"⟩
abbrev cL_next : ByteArray := method_10_code
def yL_next : MethodName := ⟨RL, "next", "(I[I[I)I"⟩
abbrev cL_rank : ByteArray := method_11_code
def yL_rank : MethodName := ⟨RL, "rank", "(I[I)I"⟩
abbrev cL_held : ByteArray := method_12_code
def yL_held : MethodName := ⟨RL, "held", "(I[I[I)I"⟩
abbrev cL_take : ByteArray := method_13_code
def yL_take : MethodName := ⟨RL, "take", "(II[I[I[I)V"⟩
abbrev cL_pass : ByteArray := method_14_code
def yL_pass : MethodName := ⟨RL, "pass", "(I[I[I)I"⟩
abbrev cL_copy : ByteArray := method_15_code
def yL_copy : MethodName := ⟨RL, "copy", "([I[I[I[I)V"⟩
abbrev cL_same : ByteArray := method_16_code
def yL_same : MethodName := ⟨RL, "same", "(LSkipRows;[I[I[I[I[I)Z"⟩
abbrev cL_law : ByteArray := code
def yL_law : MethodName := ⟨RL, "law", "([I)Z"⟩
abbrev vwCl : List vw_C := [(RX0, TX0, 7), (RX1, TX1, 3), (RX2, TX2, 5), (RX3, TX3, 4), (RX4, TX4, 9), (RX5, TX5, 8), (RX6, TX6, 4)]
end
section
/-! A small machine over the world of the run: its state, its steps, and what it is to run a method's bytes in it. -/
/-- ints, references, longs, by address and place; how far the world's addresses go; the heap's size; the slots made so far -/
abbrev jgS : Type := (Nat → Nat → Int32) × (Nat → Nat → Option Nat) × (Nat → Nat → Int64) × Nat × Nat × Nat
/-- how a method ends: with an answer or none, or with an exception of a named kind; and the state behind it -/
abbrev jgR : Type := (Option Value ⊕ String) × jgS
abbrev jgSpec : Type := List Value → jgS → jgR → Prop
/-- from where on the addresses are the world's; the two static rows; the kind and length of each address; int rows outside -/
abbrev jgG : Type := Nat × Nat × Nat × (Nat → Nat × Nat) × (Nat → Option (Nat × (Nat → Int32)))
/-- a method that is called: how; its receiver's kind; name, bytes, locals, answer, arguments; frames and words of room; its handlers -/
abbrev jgI : Type := Nat × Nat × MethodName × ByteArray × Nat × Option FieldType × Nat × Nat × Nat × List (Nat × Nat × Nat × Nat)
abbrev jgPool : Type := (Nat × Nat) ⊕ (jgI × jgSpec) ⊕ Value ⊕ Nat ⊕ Nat ⊕ Nat ⊕ Unit
abbrev jpF (ci k : Nat) : jgPool := .inl (ci, k)
abbrev jpC (i : jgI) (S : jgSpec) : jgPool := .inr (.inl (i, S))
abbrev jpK (v : Value) : jgPool := .inr (.inr (.inl v))
abbrev jpN (ci : Nat) : jgPool := .inr (.inr (.inr (.inl ci)))
abbrev jpA (j : Nat) : jgPool := .inr (.inr (.inr (.inr (.inl j))))
abbrev jpS (w : Nat) : jgPool := .inr (.inr (.inr (.inr (.inr (.inl w)))))
abbrev jpO : jgPool := .inr (.inr (.inr (.inr (.inr (.inr ())))))
/-- a method: its bytes, its pool's entries, the places at which it makes and throws, its handlers, its answer, whether it is a constructor -/
abbrev jgM : Type := ByteArray × List (Nat × jgPool) × List (Nat × String) × List (Nat × Nat × Nat × Nat × String) × Option FieldType × Bool
def jgfind : List (Nat × jgPool) → Nat → Option jgPool
  | [], _ => none
  | q :: l, i => if q.1 = i then some q.2 else jgfind l i
def jgx : List (Nat × String) → Nat → Option String
  | [], _ => none
  | q :: l, i => if q.1 = i then some q.2 else jgx l i
def jghd : List (Nat × Nat × Nat × Nat × String) → Nat → String → Option Nat
  | [], _, _ => none
  | q :: l, pc, E => if q.1 ≤ pc ∧ pc < q.2.1 ∧ q.2.2.2.2 = E then some q.2.2.1 else jghd l pc E
def jgl : List (Option Value) → Nat → Option Value
  | [], _ => none
  | v :: _, 0 => v
  | _ :: l, n + 1 => jgl l n
def jgc2 (v : Option Value) : Bool := match v with
  | some (.long _) => false
  | some (.double _) => false
  | _ => true
/-- the slot ahead holds no long or double -/
def jgok (ls : List (Option Value)) : Nat → Bool
  | 0 => true
  | n + 1 => jgc2 (jgl ls n)
def jwt (σ : jgS) : Nat := σ.2.2.2.1
def jhs (σ : jgS) : Nat := σ.2.2.2.2.1
def jsl (σ : jgS) : Nat := σ.2.2.2.2.2
def jwI (σ : jgS) (a k : Nat) (x : Int32) : jgS := (fun a' k' => if a' = a ∧ k' = k then x else σ.1 a' k', σ.2)
def jwR (σ : jgS) (a k : Nat) (q : Option Nat) : jgS := (σ.1, fun a' k' => if a' = a ∧ k' = k then q else σ.2.1 a' k', σ.2.2)
def jwY (σ : jgS) (a k : Nat) (x : Int64) : jgS := (σ.1, σ.2.1, fun a' k' => if a' = a ∧ k' = k then x else σ.2.2.1 a' k', σ.2.2.2)
/-- a cell outside the world was made -/
def jwh (σ : jgS) (n : Nat) : jgS := (σ.1, σ.2.1, σ.2.2.1, σ.2.2.2.1, σ.2.2.2.2.1 + 1, σ.2.2.2.2.2 + n)
/-- a cell of the world was made, n slots, at its end -/
def jwn (σ : jgS) (n : Nat) : jgS := (fun a k => if a = σ.2.2.2.1 then 0 else σ.1 a k, fun a k => if a = σ.2.2.2.1 then none else σ.2.1 a k, fun a k => if a = σ.2.2.2.1 then 0 else σ.2.2.1 a k, σ.2.2.2.1 + 1, σ.2.2.2.2.1 + 1, σ.2.2.2.2.2 + n)
def jin (G : jgG) (σ : jgS) (a : Nat) : Prop := G.1 ≤ a ∧ a < jwt σ
/-- is the field an int -/
def jty : Nat → Nat → Bool
  | 0, 0 => false
  | 0, 2 => false
  | 0, 3 => false
  | 0, 4 => false
  | 1, 0 => false
  | 5, 0 => false
  | 5, 1 => false
  | 5, 2 => false
  | 6, _ => false
  | 7, 1 => false
  | 7, 2 => false
  | 7, 3 => false
  | 7, 5 => false
  | 7, 7 => false
  | _, _ => true
def jN : Nat → Nat
  | 0 => 7
  | 1 => 3
  | 2 => 5
  | 3 => 4
  | 4 => 9
  | 5 => 8
  | 6 => 4
  | _ => 11
def jfv (ci : Nat) (σ : jgS) (a k : Nat) : Value := if jty ci k = true then .int (σ.1 a k) else va_rf (σ.2.1 a k)
/-- an int row: of the world, or outside -/
def jga (G : jgG) (σ : jgS) (a : Nat) : Option (Nat × (Nat → Int32)) := if G.1 ≤ a then (if a < jwt σ ∧ (G.2.2.2.1 a).1 = 8 then some ((G.2.2.2.1 a).2, σ.1 a) else none) else G.2.2.2.2 a
def jcmp (c : Jvm.ClassFile.Cond) (x y : Int32) : Prop := match c with
  | .eq => x = y
  | .ne => ¬ x = y
  | .lt => x < y
  | .ge => y ≤ x
  | .gt => y < x
  | .le => x ≤ y
def jtgt (pc : Nat) (off : Int) (k : Nat → Prop) : Prop := ∃ t : Nat, (pc : Int) + off = (t : Int) ∧ k t
/-- what a method's call is handed: the top n of the stack, the first one deepest -/
def jargs (st : List Value) (n : Nat) : List Value := (st.take n).reverse
def jcat (st : List Value) : Nat := (st.map fun v => v.category).sum
def jcall (M : jgM) (pc : Nat) (ls : List (Option Value)) (rest : List Value) (k : Nat → List (Option Value) → List Value → jgS → Prop) (Φ : jgR → Prop) (r : jgR) : Prop := match r.1 with
  | .inl v => k (pc + 3) ls (v.toList ++ rest) r.2
  | .inr E => match jghd M.2.2.2.1 pc E with
    | some t => ∀ q : Nat, k t ls [.ref q] r.2
    | none => Φ (.inr E, r.2)
def jgOp (G : jgG) (M : jgM) (pc : Nat) (ins : Instr) (len : Nat) (ls : List (Option Value)) (st : List Value) (σ : jgS) (k : Nat → List (Option Value) → List Value → jgS → Prop) (Φ : jgR → Prop) : Prop := match ins with
  | .aload_n i => len = 1 ∧ ∃ a, jgl ls i = some (.ref a) ∧ k (pc + 1) ls (.ref a :: st) σ
  | .aload i => len = 2 ∧ ∃ a, jgl ls i = some (.ref a) ∧ k (pc + 2) ls (.ref a :: st) σ
  | .iload_n i => len = 1 ∧ ∃ x, jgl ls i = some (.int x) ∧ k (pc + 1) ls (.int x :: st) σ
  | .iload i => len = 2 ∧ ∃ x, jgl ls i = some (.int x) ∧ k (pc + 2) ls (.int x :: st) σ
  | .lload_n i => len = 1 ∧ ∃ x, jgl ls i = some (.long x) ∧ k (pc + 1) ls (.long x :: st) σ
  | .lload i => len = 2 ∧ ∃ x, jgl ls i = some (.long x) ∧ k (pc + 2) ls (.long x :: st) σ
  | .dload_n i => len = 1 ∧ ∃ x, jgl ls i = some (.double x) ∧ k (pc + 1) ls (.double x :: st) σ
  | .dload i => len = 2 ∧ ∃ x, jgl ls i = some (.double x) ∧ k (pc + 2) ls (.double x :: st) σ
  | .iconst n => len = 1 ∧ k (pc + 1) ls (.int (Int32.ofInt n) :: st) σ
  | .bipush n => len = 2 ∧ k (pc + 2) ls (.int (Int8.ofInt n).toInt32 :: st) σ
  | .sipush n => len = 3 ∧ k (pc + 3) ls (.int (Int16.ofInt n).toInt32 :: st) σ
  | .lconst n => len = 1 ∧ k (pc + 1) ls (.long (Int64.ofNat n) :: st) σ
  | .dconst n => len = 1 ∧ k (pc + 1) ls (.double (if n = 0 then FP.dconst0 else FP.dconst1) :: st) σ
  | .ldc i => len = 2 ∧ ∃ x, jgfind M.2.1 i = some (jpK (.int x)) ∧ k (pc + 2) ls (.int x :: st) σ
  | .istore_n i => len = 1 ∧ ∃ x rest, st = .int x :: rest ∧ (i : Nat) < ls.length ∧ jgok ls i = true ∧ k (pc + 1) (ls.set i (some (.int x))) rest σ
  | .istore i => len = 2 ∧ ∃ x rest, st = .int x :: rest ∧ i < ls.length ∧ jgok ls i = true ∧ k (pc + 2) (ls.set i (some (.int x))) rest σ
  | .astore_n i => len = 1 ∧ ∃ x rest, st = .ref x :: rest ∧ (i : Nat) < ls.length ∧ jgok ls i = true ∧ k (pc + 1) (ls.set i (some (.ref x))) rest σ
  | .astore i => len = 2 ∧ ∃ x rest, st = .ref x :: rest ∧ i < ls.length ∧ jgok ls i = true ∧ k (pc + 2) (ls.set i (some (.ref x))) rest σ
  | .lstore_n i => len = 1 ∧ ∃ x rest, st = .long x :: rest ∧ (i : Nat) + 1 < ls.length ∧ jgok ls i = true ∧ k (pc + 1) ((ls.set i (some (.long x))).set (i + 1) none) rest σ
  | .lstore i => len = 2 ∧ ∃ x rest, st = .long x :: rest ∧ i + 1 < ls.length ∧ jgok ls i = true ∧ k (pc + 2) ((ls.set i (some (.long x))).set (i + 1) none) rest σ
  | .dstore_n i => len = 1 ∧ ∃ x rest, st = .double x :: rest ∧ (i : Nat) + 1 < ls.length ∧ jgok ls i = true ∧ k (pc + 1) ((ls.set i (some (.double x))).set (i + 1) none) rest σ
  | .dstore i => len = 2 ∧ ∃ x rest, st = .double x :: rest ∧ i + 1 < ls.length ∧ jgok ls i = true ∧ k (pc + 2) ((ls.set i (some (.double x))).set (i + 1) none) rest σ
  | .iinc i n => len = 3 ∧ ∃ x, jgl ls i = some (.int x) ∧ i < ls.length ∧ jgok ls i = true ∧ k (pc + 3) (ls.set i (some (.int (x + Int32.ofInt n)))) st σ
  | .iadd => len = 1 ∧ ∃ x y rest, st = .int y :: .int x :: rest ∧ k (pc + 1) ls (.int (x + y) :: rest) σ
  | .isub => len = 1 ∧ ∃ x y rest, st = .int y :: .int x :: rest ∧ k (pc + 1) ls (.int (x - y) :: rest) σ
  | .imul => len = 1 ∧ ∃ x y rest, st = .int y :: .int x :: rest ∧ k (pc + 1) ls (.int (x * y) :: rest) σ
  | .irem => len = 1 ∧ ∃ x y rest, st = .int y :: .int x :: rest ∧ ¬ y = 0 ∧ k (pc + 1) ls (.int (x - x / y * y) :: rest) σ
  | .iand => len = 1 ∧ ∃ x y rest, st = .int y :: .int x :: rest ∧ k (pc + 1) ls (.int (x &&& y) :: rest) σ
  | .ior => len = 1 ∧ ∃ x y rest, st = .int y :: .int x :: rest ∧ k (pc + 1) ls (.int (x ||| y) :: rest) σ
  | .ishl => len = 1 ∧ ∃ x y rest, st = .int y :: .int x :: rest ∧ k (pc + 1) ls (.int (x <<< (y &&& 31)) :: rest) σ
  | .ishr => len = 1 ∧ ∃ x y rest, st = .int y :: .int x :: rest ∧ k (pc + 1) ls (.int (x >>> (y &&& 31)) :: rest) σ
  | .ladd => len = 1 ∧ ∃ x y rest, st = .long y :: .long x :: rest ∧ k (pc + 1) ls (.long (x + y) :: rest) σ
  | .lsub => len = 1 ∧ ∃ x y rest, st = .long y :: .long x :: rest ∧ k (pc + 1) ls (.long (x - y) :: rest) σ
  | .lmul => len = 1 ∧ ∃ x y rest, st = .long y :: .long x :: rest ∧ k (pc + 1) ls (.long (x * y) :: rest) σ
  | .lrem => len = 1 ∧ ∃ x y rest, st = .long y :: .long x :: rest ∧ ¬ y = 0 ∧ k (pc + 1) ls (.long (x - x / y * y) :: rest) σ
  | .lshl => len = 1 ∧ ∃ x y rest, st = .int y :: .long x :: rest ∧ k (pc + 1) ls (.long (x <<< (y.toInt64 &&& 63)) :: rest) σ
  | .i2l => len = 1 ∧ ∃ x rest, st = .int x :: rest ∧ k (pc + 1) ls (.long x.toInt64 :: rest) σ
  | .i2d => len = 1 ∧ ∃ x rest, st = .int x :: rest ∧ k (pc + 1) ls (.double (FP.i2d x) :: rest) σ
  | .d2l => len = 1 ∧ ∃ x rest, st = .double x :: rest ∧ k (pc + 1) ls (.long (FP.d2l x) :: rest) σ
  | .lcmp => len = 1 ∧ ∃ x y rest, st = .long y :: .long x :: rest ∧ k (pc + 1) ls (.int (lg_cmp x y) :: rest) σ
  | .dcmp op => len = 1 ∧ ∃ x y rest, st = .double y :: .double x :: rest ∧ k (pc + 1) ls (.int (Op.cmpValue (FP.dcmp x y) op) :: rest) σ
  | .dadd => len = 1 ∧ ∃ x y rest, st = .double y :: .double x :: rest ∧ vf_n64 (FP.dadd x y) ∧ k (pc + 1) ls (.double (FP.dadd x y) :: rest) σ
  | .dsub => len = 1 ∧ ∃ x y rest, st = .double y :: .double x :: rest ∧ vf_n64 (FP.dsub x y) ∧ k (pc + 1) ls (.double (FP.dsub x y) :: rest) σ
  | .dmul => len = 1 ∧ ∃ x y rest, st = .double y :: .double x :: rest ∧ vf_n64 (FP.dmul x y) ∧ k (pc + 1) ls (.double (FP.dmul x y) :: rest) σ
  | .ddiv => len = 1 ∧ ∃ x y rest, st = .double y :: .double x :: rest ∧ vf_n64 (FP.ddiv x y) ∧ k (pc + 1) ls (.double (FP.ddiv x y) :: rest) σ
  | .if_icmp c off => len = 3 ∧ ∃ x y rest, st = .int y :: .int x :: rest ∧ jtgt pc off fun t => (jcmp c x y → k t ls rest σ) ∧ (¬ jcmp c x y → k (pc + 3) ls rest σ)
  | .ifCond c off => len = 3 ∧ ∃ x rest, st = .int x :: rest ∧ jtgt pc off fun t => (jcmp c x 0 → k t ls rest σ) ∧ (¬ jcmp c x 0 → k (pc + 3) ls rest σ)
  | .goto off => len = 3 ∧ jtgt pc off fun t => k t ls st σ
  | .tableswitch d lo hi offs => ∃ x rest, st = .int x :: rest ∧ ((x.toInt < lo ∨ hi < x.toInt) → jtgt pc d fun t => k t ls rest σ) ∧ (¬ (x.toInt < lo ∨ hi < x.toInt) → ∃ off, offs[(x.toInt - lo).toNat]? = some off ∧ jtgt pc off fun t => k t ls rest σ)
  | .lookupswitch d ps => (ps.toList.zip (ps.toList.drop 1)).all (fun (a, next) => a.1 < next.1) = true ∧ ∃ x rest, st = .int x :: rest ∧ jtgt pc (Op.lookupswitch.offset ps.toList d x.toInt) fun t => k t ls rest σ
  | .getfield i => len = 3 ∧ ∃ a rest ci j, st = .ref a :: rest ∧ jgfind M.2.1 i = some (jpF ci j) ∧ jin G σ a ∧ (G.2.2.2.1 a).1 = ci ∧ k (pc + 3) ls (jfv ci σ a j :: rest) σ
  | .putfield i => len = 3 ∧ ∃ v a rest ci j, st = v :: .ref a :: rest ∧ jgfind M.2.1 i = some (jpF ci j) ∧ jin G σ a ∧ (G.2.2.2.1 a).1 = ci ∧ ((jty ci j = true ∧ ∃ x, v = .int x ∧ k (pc + 3) ls rest (jwI σ a j x)) ∨ (jty ci j = false ∧ ∃ q, v = .ref q ∧ M.2.2.2.2.2 = true ∧ k (pc + 3) ls rest (jwR σ a j (some q))))
  | .iaload => len = 1 ∧ ∃ i a rest n f, st = .int i :: .ref a :: rest ∧ jga G σ a = some (n, f) ∧ vp_in i n ∧ k (pc + 1) ls (.int (f i.toNatClampNeg) :: rest) σ
  | .iastore => len = 1 ∧ ∃ x i a rest n, st = .int x :: .int i :: .ref a :: rest ∧ jin G σ a ∧ G.2.2.2.1 a = (8, n) ∧ vp_in i n ∧ k (pc + 1) ls rest (jwI σ a i.toNatClampNeg x)
  | .dup_x2 => len = 1 ∧ ∃ v w u rest, st = v :: w :: u :: rest ∧ v.category = 1 ∧ w.category = 1 ∧ u.category = 1 ∧ k (pc + 1) ls (v :: w :: u :: v :: rest) σ
  | .lastore => False
  | .aaload => len = 1 ∧ ∃ i a rest j n, st = .int i :: .ref a :: rest ∧ jin G σ a ∧ j < 3 ∧ G.2.2.2.1 a = (10 + j, n) ∧ vp_in i n ∧ k (pc + 1) ls (va_rf (σ.2.1 a i.toNatClampNeg) :: rest) σ
  | .aastore => len = 1 ∧ ∃ q i a rest j n, st = .ref q :: .int i :: .ref a :: rest ∧ jin G σ a ∧ j < 3 ∧ G.2.2.2.1 a = (10 + j, n) ∧ vp_in i n ∧ jin G σ q ∧ (G.2.2.2.1 q).1 = (if j = 0 then 4 else if j = 1 then 3 else 5) ∧ k (pc + 1) ls rest (jwR σ a i.toNatClampNeg (some q))
  | .newarray ty => len = 2 ∧ ∃ n rest, st = .int n :: rest ∧ ¬ n < 0 ∧ n.toNatClampNeg ≤ 60000000 ∧ jwt σ = jhs σ ∧ (ty = .int ∧ G.2.2.2.1 (jwt σ) = (8, n.toNatClampNeg)) ∧ k (pc + 2) ls (.ref (jwt σ) :: rest) (jwn σ n.toNatClampNeg)
  | .anewarray i => len = 3 ∧ ∃ n rest j, st = .int n :: rest ∧ jgfind M.2.1 (i + 1000) = some (jpA j) ∧ ¬ n < 0 ∧ n.toNatClampNeg ≤ 60000000 ∧ jwt σ = jhs σ ∧ G.2.2.2.1 (jwt σ) = (10 + j, n.toNatClampNeg) ∧ k (pc + 3) ls (.ref (jwt σ) :: rest) (jwn σ n.toNatClampNeg)
  | .new i => len = 3 ∧ match jgx M.2.2.1 pc with
    | some E => Φ (.inr E, jwh σ 6) ∧ jcat st ≤ 8
    | none => ∃ ci, jgfind M.2.1 i = some (jpN ci) ∧ jwt σ = jhs σ ∧ (G.2.2.2.1 (jwt σ)).1 = ci ∧ k (pc + 3) ls (.ref (jwt σ) :: st) (jwn σ (jN ci))
  | .arraylength => len = 1 ∧ ∃ a rest n f, st = .ref a :: rest ∧ jga G σ a = some (n, f) ∧ k (pc + 1) ls (.int (Int32.ofNat n) :: rest) σ
  | .dup => len = 1 ∧ ∃ v rest, st = v :: rest ∧ v.category = 1 ∧ k (pc + 1) ls (v :: v :: rest) σ
  | .dup2 => len = 1 ∧ ∃ v w rest, st = v :: w :: rest ∧ v.category = 1 ∧ w.category = 1 ∧ k (pc + 1) ls (v :: w :: v :: w :: rest) σ
  | .pop => len = 1 ∧ ∃ v rest, st = v :: rest ∧ v.category = 1 ∧ k (pc + 1) ls rest σ
  | .invokevirtual i => len = 3 ∧ ∃ I S b As, jgfind M.2.1 i = some (jpC I S) ∧ I.1 = 0 ∧ I.2.2.2.2.2.2.1 + 1 ≤ st.length ∧ jargs st (I.2.2.2.2.2.2.1 + 1) = .ref b :: As ∧ jin G σ b ∧ (G.2.2.2.1 b).1 = I.2.1 ∧ jcat (st.drop (I.2.2.2.2.2.2.1 + 1)) ≤ 8 ∧ ∃ r, S (.ref b :: As) σ r ∧ jcall M pc ls (st.drop (I.2.2.2.2.2.2.1 + 1)) k Φ r
  | .invokespecial i => len = 3 ∧ ((jgfind M.2.1 i = some jpO ∧ ∃ a rest, st = .ref a :: rest ∧ jcat rest ≤ 8 ∧ k (pc + 3) ls rest σ) ∨ ∃ I S b As, jgfind M.2.1 i = some (jpC I S) ∧ (I.1 = 2 ∨ I.1 = 3) ∧ I.2.2.2.2.2.2.1 + 1 ≤ st.length ∧ jargs st (I.2.2.2.2.2.2.1 + 1) = .ref b :: As ∧ jcat (st.drop (I.2.2.2.2.2.2.1 + 1)) ≤ 8 ∧ ∃ σ', S (.ref b :: As) σ (.inl none, σ') ∧ k (pc + 3) ls (st.drop (I.2.2.2.2.2.2.1 + 1)) σ')
  | .invokestatic i => len = 3 ∧ ∃ I S, jgfind M.2.1 i = some (jpC I S) ∧ (I.1 = 1 ∨ I.1 = 4) ∧ I.2.2.2.2.2.2.1 ≤ st.length ∧ jcat (st.drop I.2.2.2.2.2.2.1) ≤ 8 ∧ ∃ r, S (jargs st I.2.2.2.2.2.2.1) σ r ∧ jcall M pc ls (st.drop I.2.2.2.2.2.2.1) k Φ r
  | .getstatic i => len = 3 ∧ ∃ w, jgfind M.2.1 i = some (jpS w) ∧ k (pc + 3) ls (.ref (if w = 0 then G.2.1 else G.2.2.1) :: st) σ
  | .ireturn => len = 1 ∧ ∃ x ty, st = [.int x] ∧ M.2.2.2.2.1 = some ty ∧ narrow ty (.int x) = .int x ∧ Φ (.inl (some (.int x)), σ)
  | .lreturn => len = 1 ∧ ∃ x, st = [.long x] ∧ M.2.2.2.2.1 = some .long ∧ Φ (.inl (some (.long x)), σ)
  | .dreturn => len = 1 ∧ ∃ x, st = [.double x] ∧ M.2.2.2.2.1 = some .double ∧ Φ (.inl (some (.double x)), σ)
  | .return_ => len = 1 ∧ st = [] ∧ M.2.2.2.2.1 = none ∧ Φ (.inl none, σ)
  | _ => False
/-- from here the method comes to an end that Φ allows: the least set of places that is closed under steps -/
def Jr (G : jgG) (M : jgM) (pc : Nat) (ls : List (Option Value)) (st : List Value) (σ : jgS) (Φ : jgR → Prop) : Prop :=
  ∀ P : Nat → List (Option Value) → List Value → jgS → Prop, (∀ pc ls st σ ins len, decode M.1 pc = .ok (ins, len) → jgOp G M pc ins len ls st σ P Φ → P pc ls st σ) → P pc ls st σ
theorem jcall_mono {M : jgM} {pc : Nat} {ls : List (Option Value)} {rest : List Value} {k k' : Nat → List (Option Value) → List Value → jgS → Prop} {Φ Φ' : jgR → Prop} (hk : ∀ a b c d, k a b c d → k' a b c d) (hΦ : ∀ r, Φ r → Φ' r) (r : jgR) : jcall M pc ls rest k Φ r → jcall M pc ls rest k' Φ' r := by
  unfold jcall
  split
  · exact hk _ _ _ _
  · split
    · exact fun h q => hk _ _ _ _ (h q)
    · exact hΦ _
theorem jtgt_mono {pc : Nat} {off : Int} {k k' : Nat → Prop} (hk : ∀ a, k a → k' a) : jtgt pc off k → jtgt pc off k' := Exists.imp fun a => And.imp id (hk a)
set_option maxHeartbeats 4000000 in
theorem jgOp_mono {G : jgG} {M : jgM} {pc : Nat} {ins : Instr} {len : Nat} {ls : List (Option Value)} {st : List Value} {σ : jgS} {k k' : Nat → List (Option Value) → List Value → jgS → Prop} {Φ Φ' : jgR → Prop} (hk : ∀ a b c d, k a b c d → k' a b c d) (hΦ : ∀ r, Φ r → Φ' r) : jgOp G M pc ins len ls st σ k Φ → jgOp G M pc ins len ls st σ k' Φ' := by
  unfold jgOp
  split
  all_goals
    first
    | exact id
    | (refine And.imp id ?_
       split
       · exact And.imp (hΦ _) id
       · exact Exists.imp fun _ => And.imp id (And.imp id (And.imp id (hk _ _ _ _))))
    | (repeat' first
        | exact id
        | exact hk _ _ _ _
        | exact hΦ _
        | exact jcall_mono hk hΦ _
        | refine And.imp ?_ ?_
        | refine Or.imp ?_ ?_
        | refine Exists.imp fun _ => ?_
        | refine jtgt_mono fun _ => ?_
        | refine fun h hc => (?_ : _ → _) (h hc))
theorem jr_of {G : jgG} {M : jgM} {pc : Nat} {ls : List (Option Value)} {st : List Value} {σ : jgS} {Φ : jgR → Prop} {ins : Instr} {len : Nat} (hd : decode M.1 pc = .ok (ins, len)) (h : jgOp G M pc ins len ls st σ (fun a b c d => Jr G M a b c d Φ) Φ) : Jr G M pc ls st σ Φ :=
  fun P hP => hP _ _ _ _ _ _ hd (jgOp_mono (fun _ _ _ _ h => h P hP) (fun _ h => h) h)
theorem jr_step {G : jgG} {M : jgM} {pc : Nat} {ls : List (Option Value)} {st : List Value} {σ : jgS} {Φ : jgR → Prop} {ins : Instr} {len : Nat} (hd : decode M.1 pc = .ok (ins, len)) : Jr G M pc ls st σ Φ ↔ jgOp G M pc ins len ls st σ (fun a b c d => Jr G M a b c d Φ) Φ := by
  refine ⟨fun h => ?_, jr_of hd⟩
  have h2 := h (fun pc ls st σ => ∃ ins len, decode M.1 pc = .ok (ins, len) ∧ jgOp G M pc ins len ls st σ (fun a b c d => Jr G M a b c d Φ) Φ) (fun pc ls st σ ins len hd h => ⟨ins, len, hd, jgOp_mono (fun a b c d h => by obtain ⟨ins, len, hd, h⟩ := h; exact jr_of hd h) (fun _ h => h) h⟩)
  obtain ⟨ins', len', hd', h2⟩ := h2
  cases hd.symm.trans hd'
  exact h2
/-- weaker ends -/
theorem jr_weaken {G : jgG} {M : jgM} {pc : Nat} {ls : List (Option Value)} {st : List Value} {σ : jgS} {Φ Ψ : jgR → Prop} (h : ∀ r, Φ r → Ψ r) (hr : Jr G M pc ls st σ Φ) : Jr G M pc ls st σ Ψ :=
  hr (fun a b c d => Jr G M a b c d Ψ) (fun _ _ _ _ _ _ hd ho => jr_of hd (jgOp_mono (fun _ _ _ _ h => h) h ho))
end
section
/-! The world of a state in the machine's heap, and what the frame of a method knows of it. -/
def jF (cy : Nat → ClassId) (G : jgG) (σ : jgS) (a : Nat) : va_E :=
  if (G.2.2.2.1 a).1 < 8 then .inr ((G.2.2.2.1 a).1, (List.range (jN (G.2.2.2.1 a).1)).map (jfv (G.2.2.2.1 a).1 σ a))
  else if (G.2.2.2.1 a).1 = 8 then .inl (cy 0, (G.2.2.2.1 a).2, .inl (σ.1 a))
  else .inl (cy ((G.2.2.2.1 a).1 - 9), (G.2.2.2.1 a).2, .inr (.inr (.inr (.inr (σ.2.1 a)))))
/-- the addresses of the world: those of kind 13 and above are nobody's -/
def jad (G : jgG) (w : Nat) : List Nat := (List.range' G.1 (w - G.1)).filter (fun a => decide ((G.2.2.2.1 a).1 < 13))
def jW (cy : Nat → ClassId) (G : jgG) (σ : jgS) : va_W := va_pl (jad G (jwt σ)) (jF cy G σ)
abbrev jA (G : jgG) : Nat → Prop := fun q => G.1 ≤ q
def jtys (cy : Nat → ClassId) : List (ClassId × FieldType) := [(cy 0, .int), (cy 1, .object RX4), (cy 2, .object RX3), (cy 3, .object RX5)]
theorem jad_mem {G : jgG} {w a : Nat} : a ∈ jad G w ↔ (G.1 ≤ a ∧ a < w) ∧ (G.2.2.2.1 a).1 < 13 := by
  unfold jad
  rw [List.mem_filter, List.mem_range'_1, decide_eq_true_iff]
  constructor
  · exact fun h => ⟨⟨h.1.1, by omega⟩, h.2⟩
  · exact fun h => ⟨⟨h.1.1, by omega⟩, h.2⟩
theorem jad_nd {G : jgG} {w : Nat} : (jad G w).Nodup := List.Pairwise.filter _ (List.nodup_range' ..)
theorem jW_at (cy : Nat → ClassId) (G : jgG) (σ : jgS) (k : Nat) : (jW cy G σ)[k]? = ((jad G (jwt σ))[k]?).map fun a => (a, jF cy G σ a) := by
  unfold jW va_pl
  rw [List.getElem?_map]
theorem jW_get {cy : Nat → ClassId} {G : jgG} {σ : jgS} {a : Nat} (h : jin G σ a) (hk : (G.2.2.2.1 a).1 < 13) : ∃ k : Nat, (jW cy G σ)[k]? = some (a, jF cy G σ a) := by
  obtain ⟨k, hk⟩ := List.getElem?_of_mem (jad_mem.mpr ⟨h, hk⟩)
  exact ⟨k, by rw [jW_at, hk]; rfl⟩
theorem jad_inj {G : jgG} {w i j a : Nat} (hi : (jad G w)[i]? = some a) (hj : (jad G w)[j]? = some a) : i = j := by
  obtain ⟨h1, e1⟩ := List.getElem?_eq_some_iff.mp hi
  obtain ⟨h2, e2⟩ := List.getElem?_eq_some_iff.mp hj
  exact (List.getElem_inj jad_nd).mp (e1.trans e2.symm)
theorem jW_ad {cy : Nat → ClassId} {G : jgG} {σ : jgS} {k : Nat} {q : Nat × va_E} (h : (jW cy G σ)[k]? = some q) : (jad G (jwt σ))[k]? = some q.1 ∧ q.2 = jF cy G σ q.1 := by
  rw [jW_at] at h
  cases hh : (jad G (jwt σ))[k]? with
  | none => rw [hh] at h; cases h
  | some a => rw [hh] at h; cases h; exact ⟨rfl, rfl⟩
theorem jW_D {cy : Nat → ClassId} {G : jgG} {σ : jgS} : va_D (jA G) (jW cy G σ) := by
  refine ⟨fun i j p q hi hj hpq => ?_, fun k q hk => ?_⟩
  · have h1 := (jW_ad hi).1
    have h2 := (jW_ad hj).1
    rw [hpq] at h1
    exact jad_inj h1 h2
  · have h1 := (jW_ad hk).1
    exact (jad_mem.mp (List.mem_of_getElem? h1)).1.1
theorem jW_set {cy : Nat → ClassId} {G : jgG} {σ σ' : jgS} {a i : Nat} {e e0 : va_E} (h : (jW cy G σ)[i]? = some (a, e0)) (hw : jwt σ' = jwt σ) (he : jF cy G σ' a = e) (ho : ∀ b, b ≠ a → jF cy G σ' b = jF cy G σ b) : (jW cy G σ).set i (a, e) = jW cy G σ' := by
  have h1 := (jW_ad h).1
  refine List.ext_getElem? fun k => ?_
  by_cases hk : k = i
  · subst hk
    rw [List.getElem?_set_self (List.getElem?_eq_some_iff.mp h).1, jW_at, hw, h1]
    show _ = some (a, jF cy G σ' a)
    rw [he]
  · rw [List.getElem?_set_ne (Ne.symm hk), jW_at, jW_at, hw]
    cases hb : (jad G (jwt σ))[k]? with
    | none => rfl
    | some b =>
      have hne : b ≠ a := fun z => hk (by subst z; exact jad_inj hb h1)
      show some (b, jF cy G σ b) = some (b, jF cy G σ' b)
      rw [ho b hne]
theorem jad_push {G : jgG} {w : Nat} (hlo : G.1 ≤ w) (hk : (G.2.2.2.1 w).1 < 13) : jad G (w + 1) = jad G w ++ [w] := by
  unfold jad
  rw [show w + 1 - G.1 = (w - G.1) + 1 by omega, List.range'_1_concat, List.filter_append, show G.1 + (w - G.1) = w by omega]
  simp [hk]
theorem jW_push {cy : Nat → ClassId} {G : jgG} {σ σ' : jgS} {e : va_E} (hlo : G.1 ≤ jwt σ) (hk : (G.2.2.2.1 (jwt σ)).1 < 13) (hw : jwt σ' = jwt σ + 1) (he : jF cy G σ' (jwt σ) = e) (ho : ∀ b, b < jwt σ → jF cy G σ' b = jF cy G σ b) : jW cy G σ ++ [(jwt σ, e)] = jW cy G σ' := by
  unfold jW va_pl
  rw [hw, jad_push hlo hk, List.map_append]
  have e1 : List.map (fun a => (a, jF cy G σ a)) (jad G (jwt σ)) = List.map (fun a => (a, jF cy G σ' a)) (jad G (jwt σ)) := List.map_congr_left fun a ha => by rw [ho a (jad_mem.mp ha).1.2]
  rw [e1, ← he]
  rfl
theorem jF_obj {cy : Nat → ClassId} {G : jgG} {σ : jgS} {a ci : Nat} (h : (G.2.2.2.1 a).1 = ci) (hc : ci < 8) : jF cy G σ a = .inr (ci, (List.range (jN ci)).map (jfv ci σ a)) := by
  subst h
  unfold jF
  rw [if_pos hc]
theorem jF_int {cy : Nat → ClassId} {G : jgG} {σ : jgS} {a n : Nat} (h : G.2.2.2.1 a = (8, n)) : jF cy G σ a = .inl (cy 0, n, .inl (σ.1 a)) := by
  unfold jF
  have e : ((8, n) : Nat × Nat).1 = 8 := rfl
  rw [h, e, if_neg (by decide), if_pos rfl]
theorem jF_ref {cy : Nat → ClassId} {G : jgG} {σ : jgS} {a j n : Nat} (h : G.2.2.2.1 a = (10 + j, n)) : jF cy G σ a = .inl (cy (1 + j), n, .inr (.inr (.inr (.inr (σ.2.1 a))))) := by
  unfold jF
  have e : ((10 + j, n) : Nat × Nat).1 = 10 + j := rfl
  rw [h, e, if_neg (by omega), if_neg (by omega), show 10 + j - 9 = 1 + j by omega]
/-- a cell whose rows are the same in two states is the same -/
theorem jF_same {cy : Nat → ClassId} {G : jgG} {σ σ' : jgS} {b : Nat} (h1 : σ'.1 b = σ.1 b) (h2 : σ'.2.1 b = σ.2.1 b) (h3 : σ'.2.2.1 b = σ.2.2.1 b) : jF cy G σ' b = jF cy G σ b := by
  unfold jF
  have hf : ∀ ci, jfv ci σ' b = jfv ci σ b := fun ci => by funext k; unfold jfv; rw [h1, h2]
  rw [h1, h2, hf]
theorem jwt_I (σ : jgS) (a k : Nat) (x : Int32) : jwt (jwI σ a k x) = jwt σ := rfl
theorem jwt_R (σ : jgS) (a k : Nat) (q : Option Nat) : jwt (jwR σ a k q) = jwt σ := rfl
theorem jwt_Y (σ : jgS) (a k : Nat) (x : Int64) : jwt (jwY σ a k x) = jwt σ := rfl
theorem jFo_I {cy : Nat → ClassId} {G : jgG} {σ : jgS} {a k : Nat} {x : Int32} (b : Nat) (hb : b ≠ a) : jF cy G (jwI σ a k x) b = jF cy G σ b := jF_same (by funext k'; simp [jwI, hb]) rfl rfl
theorem jFo_R {cy : Nat → ClassId} {G : jgG} {σ : jgS} {a k : Nat} {x : Option Nat} (b : Nat) (hb : b ≠ a) : jF cy G (jwR σ a k x) b = jF cy G σ b := jF_same rfl (by funext k'; simp [jwR, hb]) rfl
theorem jFo_Y {cy : Nat → ClassId} {G : jgG} {σ : jgS} {a k : Nat} {x : Int64} (b : Nat) (hb : b ≠ a) : jF cy G (jwY σ a k x) b = jF cy G σ b := jF_same rfl rfl (by funext k'; simp [jwY, hb])
/-- the object's row behind a store -/
theorem jobj_I {ci : Nat} {σ : jgS} {a k : Nat} {x : Int32} (hk : k < jN ci) (ht : jty ci k = true) : ((List.range (jN ci)).map (jfv ci σ a)).set k (.int x) = (List.range (jN ci)).map (jfv ci (jwI σ a k x) a) := by
  refine List.ext_getElem? fun j => ?_
  by_cases hj : j = k
  · subst hj
    rw [List.getElem?_set_self (by simpa using hk)]
    simp [hk, jfv, ht, jwI]
  · rw [List.getElem?_set_ne (Ne.symm hj), List.getElem?_map, List.getElem?_map]
    have : jfv ci (jwI σ a k x) a j = jfv ci σ a j := by simp [jfv, jwI, hj]
    cases h : (List.range (jN ci))[j]? with
    | none => rfl
    | some i =>
      have : i = j := by
        have := (List.getElem?_eq_some_iff.mp h)
        obtain ⟨h1, h2⟩ := this
        simpa using h2.symm
      subst this
      simp [jfv, jwI, hj]
theorem jobj_R {ci : Nat} {σ : jgS} {a k : Nat} {q : Nat} (hk : k < jN ci) (ht : jty ci k = false) : ((List.range (jN ci)).map (jfv ci σ a)).set k (.ref q) = (List.range (jN ci)).map (jfv ci (jwR σ a k (some q)) a) := by
  refine List.ext_getElem? fun j => ?_
  by_cases hj : j = k
  · subst hj
    rw [List.getElem?_set_self (by simpa using hk)]
    simp [hk, jfv, ht, jwR, va_rf]
  · rw [List.getElem?_set_ne (Ne.symm hj), List.getElem?_map, List.getElem?_map]
    cases h : (List.range (jN ci))[j]? with
    | none => rfl
    | some i =>
      have : i = j := by
        obtain ⟨h1, h2⟩ := (List.getElem?_eq_some_iff.mp h)
        simpa using h2.symm
      subst this
      simp [jfv, jwR, hj]
theorem jobj_get {ci : Nat} {σ : jgS} {a k : Nat} (hk : k < jN ci) : ((List.range (jN ci)).map (jfv ci σ a))[k]? = some (jfv ci σ a k) := by
  simp [hk]
/-! the locals -/
def jpairs : Nat → List (Option Value) → List (Nat × Value)
  | _, [] => []
  | n, none :: l => jpairs (n + 1) l
  | n, some v :: l => (n, v) :: jpairs (n + 1) l
theorem jpairs_mem : ∀ (l : List (Option Value)) (n : Nat) (q : Nat × Value), q ∈ jpairs n l ↔ ∃ j, q.1 = n + j ∧ jgl l j = some q.2
  | [], n, q => by simp [jpairs, jgl]
  | none :: l, n, q => by
    rw [jpairs, jpairs_mem l (n + 1) q]
    constructor
    · rintro ⟨j, h1, h2⟩
      exact ⟨j + 1, by omega, h2⟩
    · rintro ⟨j, h1, h2⟩
      cases j with
      | zero => simp [jgl] at h2
      | succ j => exact ⟨j, by omega, h2⟩
  | some v :: l, n, q => by
    rw [jpairs, List.mem_cons, jpairs_mem l (n + 1) q]
    constructor
    · rintro (h | ⟨j, h1, h2⟩)
      · subst h
        exact ⟨0, rfl, rfl⟩
      · exact ⟨j + 1, by omega, h2⟩
    · rintro ⟨j, h1, h2⟩
      cases j with
      | zero =>
        left
        have h2 : v = q.2 := Option.some.inj h2
        rw [h2]
        exact Prod.ext h1 rfl
      | succ j => exact Or.inr ⟨j, by omega, h2⟩
def jlv (lsA : Array Slot) (nL : Nat) (ls : List (Option Value)) : Prop := ls.length = nL ∧ lv_has lsA nL (jpairs 0 ls)
theorem jlv_at {lsA : Array Slot} {nL : Nat} {ls : List (Option Value)} (h : jlv lsA nL ls) {i : Nat} {v : Value} (hi : jgl ls i = some v) : lsA[i]? = some (.val v) :=
  h.2.2.2 (i, v) ((jpairs_mem ls 0 (i, v)).mpr ⟨i, by omega, hi⟩)
theorem jgl_lt : ∀ {ls : List (Option Value)} {i : Nat} {v : Value}, jgl ls i = some v → i < ls.length
  | _ :: _, 0, _, _ => Nat.succ_pos _
  | _ :: l, i + 1, v, h => Nat.succ_lt_succ (jgl_lt (ls := l) h)
theorem jgl_set : ∀ (ls : List (Option Value)) (i j : Nat) (x : Option Value), jgl (ls.set i x) j = if j = i ∧ i < ls.length then x else jgl ls j
  | [], i, j, x => by simp [jgl]
  | v :: l, 0, 0, x => by simp [jgl]
  | v :: l, 0, j + 1, x => by simp [jgl]
  | v :: l, i + 1, 0, x => by simp [jgl]
  | v :: l, i + 1, j + 1, x => by
    show jgl (l.set i x) j = _
    rw [jgl_set l i j x]
    simp [jgl]
theorem jlv_set1 {lsA lsB : Array Slot} {nL i : Nat} {ls : List (Option Value)} {v : Value} (h : jlv lsA nL ls) (hi : i < ls.length) (hok : jgok ls i = true) (hB : lv_has lsB nL ((i, v) :: (jpairs 0 ls).filter (fun q => !(q.1 == i) && !(q.1 + 1 == i && q.2.category == 2)))) : jlv lsB nL (ls.set i (some v)) := by
  refine ⟨by rw [List.length_set]; exact h.1, hB.1, hB.2.1, fun q hq => ?_⟩
  obtain ⟨j, h1, h2⟩ := (jpairs_mem _ 0 q).mp hq
  rw [jgl_set] at h2
  by_cases hj : j = i ∧ i < ls.length
  · rw [if_pos hj] at h2
    refine hB.2.2 q (List.mem_cons.mpr (Or.inl ?_))
    exact Prod.ext (by omega) (Option.some.inj h2).symm
  · rw [if_neg hj] at h2
    have hji : j ≠ i := fun e => hj ⟨e, hi⟩
    refine hB.2.2 q (List.mem_cons.mpr (Or.inr (List.mem_filter.mpr ⟨(jpairs_mem ls 0 q).mpr ⟨j, h1, h2⟩, ?_⟩)))
    have hq1 : q.1 = j := by omega
    rw [hq1]
    by_cases hs : j + 1 = i
    · subst hs
      have hc : jgc2 (jgl ls j) = true := hok
      rw [h2] at hc
      have : q.2.category ≠ 2 := by
        cases hv : q.2 <;> rw [hv] at hc <;> simp_all [jgc2, Value.category]
      simp [hji, this]
    · simp [hji, hs]
theorem jlv_set2 {lsA lsB : Array Slot} {nL i : Nat} {ls : List (Option Value)} {v : Value} (h : jlv lsA nL ls) (hi : i + 1 < ls.length) (hok : jgok ls i = true) (hB : lv_has lsB nL ((i, v) :: (jpairs 0 ls).filter (fun q => !(q.1 == i) && (!(q.1 == i + 1) && !(q.1 + 1 == i && q.2.category == 2))))) : jlv lsB nL ((ls.set i (some v)).set (i + 1) none) := by
  refine ⟨by rw [List.length_set, List.length_set]; exact h.1, hB.1, hB.2.1, fun q hq => ?_⟩
  obtain ⟨j, h1, h2⟩ := (jpairs_mem _ 0 q).mp hq
  rw [jgl_set, jgl_set, List.length_set] at h2
  by_cases hj1 : j = i + 1
  · rw [if_pos ⟨hj1, hi⟩] at h2
    cases h2
  · rw [if_neg (fun e => hj1 e.1)] at h2
    by_cases hj : j = i ∧ i < ls.length
    · rw [if_pos hj] at h2
      refine hB.2.2 q (List.mem_cons.mpr (Or.inl ?_))
      exact Prod.ext (by omega) (Option.some.inj h2).symm
    · rw [if_neg hj] at h2
      have hji : j ≠ i := fun e => hj ⟨e, by omega⟩
      refine hB.2.2 q (List.mem_cons.mpr (Or.inr (List.mem_filter.mpr ⟨(jpairs_mem ls 0 q).mpr ⟨j, h1, h2⟩, ?_⟩)))
      have hq1 : q.1 = j := by omega
      rw [hq1]
      by_cases hs : j + 1 = i
      · subst hs
        have hc : jgc2 (jgl ls j) = true := hok
        rw [h2] at hc
        have : q.2.category ≠ 2 := by
          cases hv : q.2 <;> rw [hv] at hc <;> simp_all [jgc2, Value.category]
        simp [hji, hj1, this]
      · simp [hji, hj1, hs]
end
section
/-! What the machine's tables say, and what a method's contract is in these words. -/
def jface (w : Cond) : Bool := w.onTables && w.keepsFace
/-- the words that all methods stand on, and those that stay true without being a contract's -/
def lw_W : List Cond := lw_tbl.filter goodWord
def lw_A : List Cond := lw_tbl.filter jface
theorem jface_moved {w : Cond} (hw : jface w = true) {s U : State} (hW : s.WarmedH U.vm) (h : va_Nw w s) : va_Nw w U := by
  simp only [jface, Bool.and_eq_true] at hw
  have h1 := Cond.before_shiftedFace (args := #[]) (State.Shifted.of_warmed hW) w hw.2 h
  exact va_tabs hw.1 (rfl : (s.setVm U.vm).vm = U.vm) h1
def jnest : List (String × Nat × MethodName) := [(RX5, 27, yX4_init), (RX5, 28, yX3_init), (RX6, 25, yX0_init), (RX6, 32, yX2_init)]
def jstrs : List (Nat × String) := [(324, "an argument is out of range"), (333, "there is no such row"), (328, "there is no such reader"), (340, "there would be more than 24 rows"), (72, "the row is done or dead"), (83, "the row is not dead"), (331, "there is no such setting"), (338, "the reader does not hold the row"), (151, "the time would be above 9999")]
/-- exceptions of which none is another -/
def jxnc : List (String × String) := [("java/lang/IllegalArgumentException", "java/lang/IllegalStateException"), ("java/lang/IllegalArgumentException", "java/lang/IndexOutOfBoundsException"), ("java/lang/IllegalStateException", "java/lang/IllegalArgumentException"), ("java/lang/IllegalStateException", "java/lang/IndexOutOfBoundsException"), ("java/lang/IndexOutOfBoundsException", "java/lang/IllegalArgumentException"), ("java/lang/IndexOutOfBoundsException", "java/lang/IllegalStateException")]
/-- what holds of the machine's tables and of what lies outside the world -/
def jB (D : va_G) (cy : Nat → ClassId) (G : jgG) (s : State) : Prop :=
  va_K D vwCl (jtys cy) s ∧ (∀ w ∈ lw_A, va_Nw w s) ∧ ((∀ q ∈ jnest, va_Nw (.methodLinkNest q.1 q.2.1 q.2.2 RX6) s) ∧ ∀ q ∈ jxnc, va_Nc q.1 q.2 s) ∧ (va_AO RX4 s ∧ va_AO RX3 s ∧ va_AO RX5 s)
    ∧ (vx_Zq Bundle.tN "UNASSIGNED_STACK" Bundle.steD (jA G) s s.heap ∧ vx_Zq Bundle.tN "SUPPRESSED_SENTINEL" Bundle.listD (jA G) s s.heap)
    ∧ (va_Z RX6 "LEAST_VALUES" "[I" (.ref G.2.1) (jA G) s s.heap ∧ va_Z RX6 "GREATEST_VALUES" "[I" (.ref G.2.2.1) (jA G) s s.heap)
    ∧ (∀ (a n : Nat) (f : Nat → Int32), G.2.2.2.2 a = some (n, f) → a < G.1 ∧ va_X a n f s s.heap) ∧ (∀ q ∈ jstrs, ∃ sa, vk_R RX6 q.1 q.2 sa s) ∧ G.1 ≤ s.heap.size
theorem jB.moved {D : va_G} {cy : Nat → ClassId} {G : jgG} {s U : State} (hW : s.WarmedH U.vm) (hz : s.heap.size ≤ U.heap.size) (hq : ∀ a : Nat, a < s.heap.size → ¬ jA G a → U.heap[a]? = s.heap[a]?) (h : jB D cy G s) : jB D cy G U := by
  obtain ⟨h1, h2, h3, ⟨h4a, h4b, h4c⟩, ⟨h5a, h5b⟩, ⟨h6a, h6b⟩, h7, h8, h9⟩ := h
  refine ⟨h1.moved hW.alike, fun w hw => jface_moved (List.mem_filter.mp hw).2 hW (h2 w hw), ⟨fun q hq => va_Nw.warmM hW (h3.1 q hq), fun q hq => va_Nc.moved hW.alike (h3.2 q hq)⟩, ⟨va_AO.moved hW.alike h4a, va_AO.moved hW.alike h4b, va_AO.moved hW.alike h4c⟩, ⟨(h5a.kept hq).moved hW.alike, (h5b.kept hq).moved hW.alike⟩, ⟨(h6a.kept hq).moved hW.alike, (h6b.kept hq).moved hW.alike⟩, fun a n f ha => ?_, fun q hq => ?_, Nat.le_trans h9 hz⟩
  · obtain ⟨h10, h11⟩ := h7 a n f ha
    exact ⟨h10, (h11.kept (hq a (by omega) (by show ¬ G.1 ≤ a; omega))).moved hW.alike⟩
  · obtain ⟨sa, h10⟩ := h8 q hq
    exact ⟨sa, vk_R.warm hW h10⟩
/-- the world of a state lies in the heap -/
def jH (D : va_G) (cy : Nat → ClassId) (G : jgG) (σ : jgS) (H : Heap) : Prop := va_P D vwCl (jW cy G σ) H ∧ G.1 ≤ jwt σ ∧ jwt σ ≤ H.size
def jPre (D : va_G) (cy : Nat → ClassId) (G : jgG) (As : List Value) (σ : jgS) : Array Value → State → Prop := va_Pc As (fun U => jB D cy G U ∧ jH D cy G σ U.heap ∧ U.heap.size ≤ jhs σ)
theorem jPre_blind {D : va_G} {cy : Nat → ClassId} {G : jgG} {As : List Value} {σ : jgS} : FrameBlind (jPre D cy G As σ) := fun a U g mk h => by
  refine ⟨h.1, jB.moved (U := U.calling g mk a) (State.WarmedH.refl U) (Nat.le_refl _) (fun _ _ _ => rfl) h.2.1, h.2.2⟩
def jPost (D : va_G) (cy : Nat → ClassId) (G : jgG) (r : jgR) : Array Value → State → Outcome → State → Prop := fun _ st oc t => ∃ v, r.1 = .inl v ∧ oc = .returned v ∧ jH D cy G r.2 t.heap ∧ va_F (jA G) st t
def jX (D : va_G) (cy : Nat → ClassId) (G : jgG) (r : jgR) : String → State → State → Prop := fun E st t => r.1 = .inr E ∧ jH D cy G r.2 t.heap ∧ va_F (jA G) st t
/-- the word of a method's code -/
def jcw (I : jgI) : Cond := if I.2.2.2.2.2.2.2.2.2 = [] then .code I.2.2.1 I.2.2.2.1 I.2.2.2.2.1 I.2.2.2.2.2.1 else .codeWith I.2.2.1 I.2.2.2.1 I.2.2.2.2.1 I.2.2.2.2.2.1 I.2.2.2.2.2.2.2.2.2
def jws (I : jgI) : List Cond := jcw I :: lw_W
/-- a contract: wherever S allows the end r, the method comes to it -/
def jMet (l : Launch) (D : va_G) (cy : Nat → ClassId) (G : jgG) (I : jgI) (S : jgSpec) : Prop := ∀ (As : List Value) (σ : jgS) (r : jgR), S As σ r → jhs σ ≤ jhs r.2 ∧ jsl σ ≤ jsl r.2 ∧
  vx_Met l I.2.2.1 (jws I) { frames := I.2.2.2.2.2.2.2.1, cells := jhs r.2 - jhs σ, slots := jsl r.2 - jsl σ, locals := I.2.2.2.2.2.2.2.2.1 } (jPre D cy G As σ) (jPost D cy G r) (jX D cy G r) (jhs r.2 - jhs σ) (jsl r.2 - jsl σ) (jA G)
theorem lw_W_good {w : Cond} (h : w ∈ lw_W) : goodWord w = true := (List.mem_filter.mp h).2
theorem jgoodIn {ws : List Cond} (h : ∀ w ∈ ws, w ∈ lw_W) : GoodIn lw_W ws := fun w hw => ⟨h w hw, good_of_word (lw_W_good (h w hw))⟩
/-- the types of the fields -/
def jft : Nat → Nat → FieldType
  | 0 => tyX0
  | 1 => tyX1
  | 2 => tyX2
  | 3 => tyX3
  | 4 => tyX4
  | 5 => tyX5
  | 6 => tyX6
  | _ => tyX7
/-- what a class's tables say, as far as the steps need it -/
def jcls (ci : Nat) (r : vw_C) : Prop := (∀ w ∈ u_ws r.1 r.2.1 r.2.2, w ∈ lw_W) ∧ r.2.2 = jN ci ∧ (∀ k, k < r.2.2 → parseFieldDescriptor (r.2.1 k).2.2.1 = some (jft ci k)) ∧ (∀ a, a < r.2.2 → ∀ b, b < r.2.2 → a ≠ b → (r.2.1 a).2.1 ≠ (r.2.1 b).2.1) ∧ (∀ k, k < r.2.2 → (r.2.1 k).1 = r.1) ∧
  (∀ k, k < r.2.2 → (jty ci k = true → jft ci k = .int ∧ (r.2.1 k).2.2.2 = false) ∧ (jty ci k = false → (r.2.1 k).2.2.2 = true ∧ ((∃ n, jft ci k = .object n) ∨ ∃ t, jft ci k = .array t)))
/-- a call's words -/
def jCok (own : String) (i : Nat) (I : jgI) (R : Room) : Prop :=
  jcw I ∈ lw_W ∧ Cond.initialized I.2.2.1.cls ∈ lw_W ∧ (I.2.2.1.cls ≠ "java/lang/invoke/MethodHandle" ∧ I.2.2.1.cls ≠ "java/lang/invoke/VarHandle" ∧ (parseMethodDescriptor I.2.2.1.desc).map (fun d => d.parameters.length) = some I.2.2.2.2.2.2.1) ∧
  (I.2.2.2.2.2.2.2.1 + 1 ≤ R.frames ∧ 8 + (I.2.2.2.2.1 + 11) + I.2.2.2.2.2.2.2.2.1 ≤ R.locals) ∧
  ((I.1 = 0 ∧ Cond.methodLink own i I.2.2.1 ∈ lw_W ∧ Cond.instanceMethod I.2.2.1 ∈ lw_W ∧ Cond.selects I.2.2.1.cls I.2.2.1 I.2.2.1 ∈ lw_W ∧ I.2.2.2.2.2.2.2.2.2 = [] ∧ I.2.1 < 8 ∧ ∃ r, vwCl[I.2.1]? = some r ∧ r.1 = I.2.2.1.cls)
  ∨ (I.1 = 1 ∧ Cond.methodLink own i I.2.2.1 ∈ lw_W ∧ Cond.static I.2.2.1 ∈ lw_W ∧ I.2.2.2.2.2.2.2.2.2 = [])
  ∨ (I.1 = 2 ∧ Cond.methodLink own i I.2.2.1 ∈ lw_W ∧ Cond.instanceMethod I.2.2.1 ∈ lw_W ∧ I.2.2.1.name = "<init>" ∧ I.2.2.2.2.2.1 = none ∧ I.2.2.2.2.2.2.2.2.2 = [])
  ∨ (I.1 = 3 ∧ (own, i, I.2.2.1) ∈ jnest ∧ Cond.instanceMethod I.2.2.1 ∈ lw_W ∧ I.2.2.1.name = "<init>" ∧ I.2.2.2.2.2.1 = none ∧ I.2.2.2.2.2.2.2.2.2 = [])
  ∨ (I.1 = 4 ∧ Cond.methodLink own i I.2.2.1 ∈ lw_W ∧ Cond.static I.2.2.1 ∈ lw_W ∧ I.2.2.2.2.2.2.2.2.2 ≠ []))
def jen (j : Nat) : String := if j = 0 then RX4 else if j = 1 then RX3 else RX5
/-- an entry of a method's pool is as the tables say -/
def jPok (l : Launch) (D : va_G) (cy : Nat → ClassId) (G : jgG) (own : String) (R : Room) (b : Bool) (q : Nat × jgPool) : Prop := match q.2 with
  | .inl f => ∃ r, vwCl[f.1]? = some r ∧ jcls f.1 r ∧ f.1 < 8 ∧ f.2 < jN f.1 ∧ Cond.fieldLink own q.1 r.1 (r.2.1 f.2).2.1 (r.2.1 f.2).2.2.1 ∈ lw_W ∧ (b = true → r.1 = own)
  | .inr (.inl c) => jCok own q.1 c.1 R ∧ jMet l D cy G c.1 c.2
  | .inr (.inr (.inl v)) => ∃ x, v = .int x ∧ Cond.constant own q.1 x ∈ lw_W
  | .inr (.inr (.inr (.inl ci))) => ci < 8 ∧ ∃ r, vwCl[ci]? = some r ∧ jcls ci r ∧ Cond.classLink own q.1 r.1 ∈ lw_W ∧ Cond.instantiable r.1 r.2.2 ∈ lw_W ∧ Cond.initialized r.1 ∈ lw_W
  | .inr (.inr (.inr (.inr (.inl j)))) => j < 3 ∧ ∀ i : Nat, q.1 = i + 1000 → Cond.classLink own i (jen j) ∈ lw_W
  | .inr (.inr (.inr (.inr (.inr (.inl w))))) => Cond.fieldLink own q.1 RX6 (if w = 0 then "LEAST_VALUES" else "GREATEST_VALUES") "[I" ∈ lw_W
  | .inr (.inr (.inr (.inr (.inr (.inr _))))) => Cond.methodLink own q.1 objectInit ∈ lw_W ∧ Cond.instanceMethod objectInit ∈ lw_W ∧ Cond.code objectInit ⟨#[0xb1]⟩ 1 none ∈ lw_W ∧ 1 ≤ R.frames ∧ 22 ≤ R.locals
theorem jgfind_mem : ∀ {po : List (Nat × jgPool)} {i : Nat} {x : jgPool}, jgfind po i = some x → (i, x) ∈ po
  | q :: l, i, x, h => by
    unfold jgfind at h
    split at h
    · rename_i hq
      cases h
      rw [← hq]
      exact List.mem_cons_self
    · exact List.mem_cons_of_mem _ (jgfind_mem h)
end
section
/-! the steps -/
section JS
variable {p : Program} {l : Launch} {e : Env} {R : Room} {s : State} {m : MethodId} {args : Array Value} {below : List Frame} {meth : Method} {c : Code} {Q : State → Prop} {G : jgG} {M : jgM} {D : va_G} {cy : Nat → ClassId} {own : String} {nL hs0 sl0 : Nat}
variable {pc : Nat} {ls : List (Option Value)} {st rest : List Value} {σ : jgS}
/-- from this place and state of the small machine, the machine comes to Q -/
def jGo (p : Program) (l : Launch) (e : Env) (R : Room) (s : State) (m : MethodId) (args : Array Value) (below : List Frame) (meth : Method) (c : Code) (Q : State → Prop) (G : jgG) (D : va_G) (cy : Nat → ClassId) (nL hs0 sl0 : Nat) (pc : Nat) (ls : List (Option Value)) (st : List Value) (σ : jgS) : Prop :=
  ∀ (lsA : Array Slot) (H : Heap) (locs : List Loc) (cells slots : Nat), jlv lsA nL ls → jH D cy G σ H → va_S (jA G) s.heap H locs → jhs σ = hs0 + cells → jsl σ = sl0 + slots → W p l e R s m args below meth c H locs cells slots Q (F0 m pc lsA st)
/-- what a frame knows throughout -/
def jCx (p : Program) (s : State) (m : MethodId) (args : Array Value) (c : Code) (M : jgM) (D : va_G) (cy : Nat → ClassId) (G : jgG) (own : String) (nL hs0 : Nat) : Prop :=
  p.tables.exec = Jvm.exec ∧ c.code = M.1 ∧ c.maxLocals = nL ∧ s.vm.findClass own = some m.cls ∧ (∀ w ∈ lw_W, w.before args s = true) ∧ jB D cy G s ∧ s.heap.size ≤ hs0
/-- the heap is no larger than the state says -/
theorem js_bound {H : Heap} {locs : List Loc} {cells slots : Nat} {g : JFrame} (h0 : s.heap.size ≤ hs0) (hc : jhs σ = hs0 + cells) (k : H.size ≤ jhs σ → W p l e R s m args below meth c H locs cells slots Q g) : W p l e R s m args below meth c H locs cells slots Q g := by
  intro T hT X
  have h := X.heapSize
  rw [hT] at h
  exact k (by omega) T hT X
theorem js_put {σ' : jgS} {H H1 : Heap} {locs locs1 : List Loc} {cells slots : Nat} {g : JFrame} (hH : jH D cy G σ H) (hS : va_S (jA G) s.heap H locs) (hS1 : va_S (jA G) H H1 locs1) (hP : va_P D vwCl (jW cy G σ') H1) (h2 : jwt σ' = jwt σ)
    (k : jH D cy G σ' H1 → va_S (jA G) s.heap H1 locs1 → W p l e R s m args below meth c H1 locs1 cells slots Q g) : W p l e R s m args below meth c H1 locs1 cells slots Q g :=
  k ⟨hP, by rw [h2]; exact hH.2.1, by rw [h2]; exact Nat.le_trans hH.2.2 hS1.1⟩ ⟨Nat.le_trans hS.1 hS1.1, fun q b1 b2 => (hS1.2.1 q (Nat.lt_of_lt_of_le b1 hS.1) b2).trans (hS.2.1 q b1 b2), hS1.2.2⟩
theorem js_self {H : Heap} {locs : List Loc} (hS : va_S (jA G) s.heap H locs) : va_S (jA G) H H locs := ⟨Nat.le_refl _, fun _ _ _ => rfl, hS.2.2⟩
theorem js_aload_n {i : Fin 4} {a : Nat} (C : jCx p s m args c M D cy G own nL hs0) (hd : decode M.1 pc = .ok (.aload_n i, 1)) (hl : jgl ls i = some (.ref a)) (k : jGo p l e R s m args below meth c Q G D cy nL hs0 sl0 (pc + 1) ls (.ref a :: st) σ) : jGo p l e R s m args below meth c Q G D cy nL hs0 sl0 pc ls st σ :=
  fun lsA H locs cells slots hv hH hS hc hs => lv_aload_n C.1 C.2.1 hd rfl (jlv_at hv hl) (k lsA H locs cells slots hv hH hS hc hs)
theorem js_aload {i a : Nat} (C : jCx p s m args c M D cy G own nL hs0) (hd : decode M.1 pc = .ok (.aload i, 2)) (hl : jgl ls i = some (.ref a)) (k : jGo p l e R s m args below meth c Q G D cy nL hs0 sl0 (pc + 2) ls (.ref a :: st) σ) : jGo p l e R s m args below meth c Q G D cy nL hs0 sl0 pc ls st σ :=
  fun lsA H locs cells slots hv hH hS hc hs => lv_aload C.1 C.2.1 hd (jlv_at hv hl) (k lsA H locs cells slots hv hH hS hc hs)
theorem js_iload_n {i : Fin 4} {x : Int32} (C : jCx p s m args c M D cy G own nL hs0) (hd : decode M.1 pc = .ok (.iload_n i, 1)) (hl : jgl ls i = some (.int x)) (k : jGo p l e R s m args below meth c Q G D cy nL hs0 sl0 (pc + 1) ls (.int x :: st) σ) : jGo p l e R s m args below meth c Q G D cy nL hs0 sl0 pc ls st σ :=
  fun lsA H locs cells slots hv hH hS hc hs => lv_iload_n C.1 C.2.1 hd rfl (jlv_at hv hl) (k lsA H locs cells slots hv hH hS hc hs)
theorem js_iload {i : Nat} {x : Int32} (C : jCx p s m args c M D cy G own nL hs0) (hd : decode M.1 pc = .ok (.iload i, 2)) (hl : jgl ls i = some (.int x)) (k : jGo p l e R s m args below meth c Q G D cy nL hs0 sl0 (pc + 2) ls (.int x :: st) σ) : jGo p l e R s m args below meth c Q G D cy nL hs0 sl0 pc ls st σ :=
  fun lsA H locs cells slots hv hH hS hc hs => lv_iload C.1 C.2.1 hd (jlv_at hv hl) (k lsA H locs cells slots hv hH hS hc hs)
theorem js_lload_n {i : Fin 4} {x : Int64} (C : jCx p s m args c M D cy G own nL hs0) (hd : decode M.1 pc = .ok (.lload_n i, 1)) (hl : jgl ls i = some (.long x)) (k : jGo p l e R s m args below meth c Q G D cy nL hs0 sl0 (pc + 1) ls (.long x :: st) σ) : jGo p l e R s m args below meth c Q G D cy nL hs0 sl0 pc ls st σ :=
  fun lsA H locs cells slots hv hH hS hc hs => lv_lload_n C.1 C.2.1 hd rfl (jlv_at hv hl) (k lsA H locs cells slots hv hH hS hc hs)
theorem js_lload {i : Nat} {x : Int64} (C : jCx p s m args c M D cy G own nL hs0) (hd : decode M.1 pc = .ok (.lload i, 2)) (hl : jgl ls i = some (.long x)) (k : jGo p l e R s m args below meth c Q G D cy nL hs0 sl0 (pc + 2) ls (.long x :: st) σ) : jGo p l e R s m args below meth c Q G D cy nL hs0 sl0 pc ls st σ :=
  fun lsA H locs cells slots hv hH hS hc hs => lv_lload C.1 C.2.1 hd (jlv_at hv hl) (k lsA H locs cells slots hv hH hS hc hs)
theorem js_dload_n {i : Fin 4} {x : UInt64} (C : jCx p s m args c M D cy G own nL hs0) (hd : decode M.1 pc = .ok (.dload_n i, 1)) (hl : jgl ls i = some (.double x)) (k : jGo p l e R s m args below meth c Q G D cy nL hs0 sl0 (pc + 1) ls (.double x :: st) σ) : jGo p l e R s m args below meth c Q G D cy nL hs0 sl0 pc ls st σ :=
  fun lsA H locs cells slots hv hH hS hc hs => lv_dload_n C.1 C.2.1 hd rfl (jlv_at hv hl) (k lsA H locs cells slots hv hH hS hc hs)
theorem js_dload {i : Nat} {x : UInt64} (C : jCx p s m args c M D cy G own nL hs0) (hd : decode M.1 pc = .ok (.dload i, 2)) (hl : jgl ls i = some (.double x)) (k : jGo p l e R s m args below meth c Q G D cy nL hs0 sl0 (pc + 2) ls (.double x :: st) σ) : jGo p l e R s m args below meth c Q G D cy nL hs0 sl0 pc ls st σ :=
  fun lsA H locs cells slots hv hH hS hc hs => lv_dload C.1 C.2.1 hd (jlv_at hv hl) (k lsA H locs cells slots hv hH hS hc hs)
theorem js_istore_n {i : Fin 4} {x : Int32} (C : jCx p s m args c M D cy G own nL hs0) (hd : decode M.1 pc = .ok (.istore_n i, 1)) (hi : (i : Nat) < ls.length) (hk : jgok ls i = true) (k : jGo p l e R s m args below meth c Q G D cy nL hs0 sl0 (pc + 1) (ls.set i (some (.int x))) rest σ) : jGo p l e R s m args below meth c Q G D cy nL hs0 sl0 pc ls (.int x :: rest) σ :=
  fun lsA H locs cells slots hv hH hS hc hs => lv_istore_n C.1 C.2.1 hd rfl hv.2 (by rw [← hv.1]; exact hi) rfl fun ls' hB => k ls' H locs cells slots (jlv_set1 hv hi hk hB) hH hS hc hs
theorem js_istore {i : Nat} {x : Int32} (C : jCx p s m args c M D cy G own nL hs0) (hd : decode M.1 pc = .ok (.istore i, 2)) (hi : i < ls.length) (hk : jgok ls i = true) (k : jGo p l e R s m args below meth c Q G D cy nL hs0 sl0 (pc + 2) (ls.set i (some (.int x))) rest σ) : jGo p l e R s m args below meth c Q G D cy nL hs0 sl0 pc ls (.int x :: rest) σ :=
  fun lsA H locs cells slots hv hH hS hc hs => lv_istore C.1 C.2.1 hd hv.2 (by rw [← hv.1]; exact hi) rfl fun ls' hB => k ls' H locs cells slots (jlv_set1 hv hi hk hB) hH hS hc hs
theorem js_astore_n {i : Fin 4} {x : Nat} (C : jCx p s m args c M D cy G own nL hs0) (hd : decode M.1 pc = .ok (.astore_n i, 1)) (hi : (i : Nat) < ls.length) (hk : jgok ls i = true) (k : jGo p l e R s m args below meth c Q G D cy nL hs0 sl0 (pc + 1) (ls.set i (some (.ref x))) rest σ) : jGo p l e R s m args below meth c Q G D cy nL hs0 sl0 pc ls (.ref x :: rest) σ :=
  fun lsA H locs cells slots hv hH hS hc hs => lv_astore_n C.1 C.2.1 hd rfl hv.2 (by rw [← hv.1]; exact hi) rfl fun ls' hB => k ls' H locs cells slots (jlv_set1 hv hi hk hB) hH hS hc hs
theorem js_astore {i : Nat} {x : Nat} (C : jCx p s m args c M D cy G own nL hs0) (hd : decode M.1 pc = .ok (.astore i, 2)) (hi : i < ls.length) (hk : jgok ls i = true) (k : jGo p l e R s m args below meth c Q G D cy nL hs0 sl0 (pc + 2) (ls.set i (some (.ref x))) rest σ) : jGo p l e R s m args below meth c Q G D cy nL hs0 sl0 pc ls (.ref x :: rest) σ :=
  fun lsA H locs cells slots hv hH hS hc hs => lv_astore C.1 C.2.1 hd hv.2 (by rw [← hv.1]; exact hi) rfl fun ls' hB => k ls' H locs cells slots (jlv_set1 hv hi hk hB) hH hS hc hs
theorem js_lstore_n {i : Fin 4} {x : Int64} (C : jCx p s m args c M D cy G own nL hs0) (hd : decode M.1 pc = .ok (.lstore_n i, 1)) (hi : (i : Nat) + 1 < ls.length) (hk : jgok ls i = true) (k : jGo p l e R s m args below meth c Q G D cy nL hs0 sl0 (pc + 1) ((ls.set i (some (.long x))).set (i + 1) none) rest σ) : jGo p l e R s m args below meth c Q G D cy nL hs0 sl0 pc ls (.long x :: rest) σ :=
  fun lsA H locs cells slots hv hH hS hc hs => lv_lstore_n C.1 C.2.1 hd rfl hv.2 (by rw [← hv.1]; exact hi) rfl fun ls' hB => k ls' H locs cells slots (jlv_set2 hv hi hk hB) hH hS hc hs
theorem js_lstore {i : Nat} {x : Int64} (C : jCx p s m args c M D cy G own nL hs0) (hd : decode M.1 pc = .ok (.lstore i, 2)) (hi : i + 1 < ls.length) (hk : jgok ls i = true) (k : jGo p l e R s m args below meth c Q G D cy nL hs0 sl0 (pc + 2) ((ls.set i (some (.long x))).set (i + 1) none) rest σ) : jGo p l e R s m args below meth c Q G D cy nL hs0 sl0 pc ls (.long x :: rest) σ :=
  fun lsA H locs cells slots hv hH hS hc hs => lv_lstore C.1 C.2.1 hd hv.2 (by rw [← hv.1]; exact hi) rfl fun ls' hB => k ls' H locs cells slots (jlv_set2 hv hi hk hB) hH hS hc hs
theorem js_dstore_n {i : Fin 4} {x : UInt64} (C : jCx p s m args c M D cy G own nL hs0) (hd : decode M.1 pc = .ok (.dstore_n i, 1)) (hi : (i : Nat) + 1 < ls.length) (hk : jgok ls i = true) (k : jGo p l e R s m args below meth c Q G D cy nL hs0 sl0 (pc + 1) ((ls.set i (some (.double x))).set (i + 1) none) rest σ) : jGo p l e R s m args below meth c Q G D cy nL hs0 sl0 pc ls (.double x :: rest) σ :=
  fun lsA H locs cells slots hv hH hS hc hs => lv_dstore_n C.1 C.2.1 hd rfl hv.2 (by rw [← hv.1]; exact hi) rfl fun ls' hB => k ls' H locs cells slots (jlv_set2 hv hi hk hB) hH hS hc hs
theorem js_dstore {i : Nat} {x : UInt64} (C : jCx p s m args c M D cy G own nL hs0) (hd : decode M.1 pc = .ok (.dstore i, 2)) (hi : i + 1 < ls.length) (hk : jgok ls i = true) (k : jGo p l e R s m args below meth c Q G D cy nL hs0 sl0 (pc + 2) ((ls.set i (some (.double x))).set (i + 1) none) rest σ) : jGo p l e R s m args below meth c Q G D cy nL hs0 sl0 pc ls (.double x :: rest) σ :=
  fun lsA H locs cells slots hv hH hS hc hs => lv_dstore C.1 C.2.1 hd hv.2 (by rw [← hv.1]; exact hi) rfl fun ls' hB => k ls' H locs cells slots (jlv_set2 hv hi hk hB) hH hS hc hs
theorem jpairs_at {lsA : Array Slot} {i : Nat} {v : Value} (hv : jlv lsA nL ls) (hl : jgl ls i = some v) : ∃ k : Nat, (jpairs 0 ls)[k]? = some (i, v) :=
  List.getElem?_of_mem ((jpairs_mem ls 0 (i, v)).mpr ⟨i, by omega, hl⟩)
theorem js_iinc {i : Nat} {n : Int} {x : Int32} (C : jCx p s m args c M D cy G own nL hs0) (hd : decode M.1 pc = .ok (.iinc i n, 3)) (hl : jgl ls i = some (.int x)) (hi : i < ls.length) (hk : jgok ls i = true) (k : jGo p l e R s m args below meth c Q G D cy nL hs0 sl0 (pc + 3) (ls.set i (some (.int (x + Int32.ofInt n)))) st σ) : jGo p l e R s m args below meth c Q G D cy nL hs0 sl0 pc ls st σ := by
  intro lsA H locs cells slots hv hH hS hc hs
  obtain ⟨j, hj⟩ := jpairs_at hv hl
  exact lv_iinc C.1 C.2.1 hd hv.2 hj rfl (by rw [← hv.1]; exact hi) rfl fun ls' hB => k ls' H locs cells slots (jlv_set1 hv hi hk hB) hH hS hc hs
theorem js_if_icmp {cd : Jvm.ClassFile.Cond} {off : Int} {x y : Int32} {t : Nat} (C : jCx p s m args c M D cy G own nL hs0) (hd : decode M.1 pc = .ok (.if_icmp cd off, 3)) (ht : (pc : Int) + off = (t : Int)) (kt : jcmp cd x y → jGo p l e R s m args below meth c Q G D cy nL hs0 sl0 t ls rest σ) (kf : ¬ jcmp cd x y → jGo p l e R s m args below meth c Q G D cy nL hs0 sl0 (pc + 3) ls rest σ) : jGo p l e R s m args below meth c Q G D cy nL hs0 sl0 pc ls (.int y :: .int x :: rest) σ := by
  intro lsA H locs cells slots hv hH hS hc hs
  cases cd
  · exact lv_icmp_eq C.1 C.2.1 hd ht (fun h => kt h lsA H locs cells slots hv hH hS hc hs) (fun h => kf h lsA H locs cells slots hv hH hS hc hs)
  · exact lv_icmp_ne C.1 C.2.1 hd ht (fun h => kt h lsA H locs cells slots hv hH hS hc hs) (fun h => kf (fun h2 => h2 h) lsA H locs cells slots hv hH hS hc hs)
  · exact lv_icmp_lt C.1 C.2.1 hd ht (fun h => kt h lsA H locs cells slots hv hH hS hc hs) (fun h => kf h lsA H locs cells slots hv hH hS hc hs)
  · exact lv_icmp_ge C.1 C.2.1 hd ht (fun h => kt h lsA H locs cells slots hv hH hS hc hs) (fun h => kf h lsA H locs cells slots hv hH hS hc hs)
  · exact lv_icmp_gt C.1 C.2.1 hd ht (fun h => kt h lsA H locs cells slots hv hH hS hc hs) (fun h => kf h lsA H locs cells slots hv hH hS hc hs)
  · exact lv_icmp_le C.1 C.2.1 hd ht (fun h => kt h lsA H locs cells slots hv hH hS hc hs) (fun h => kf h lsA H locs cells slots hv hH hS hc hs)
theorem js_ifCond {cd : Jvm.ClassFile.Cond} {off : Int} {x : Int32} {t : Nat} (C : jCx p s m args c M D cy G own nL hs0) (hd : decode M.1 pc = .ok (.ifCond cd off, 3)) (ht : (pc : Int) + off = (t : Int)) (kt : jcmp cd x 0 → jGo p l e R s m args below meth c Q G D cy nL hs0 sl0 t ls rest σ) (kf : ¬ jcmp cd x 0 → jGo p l e R s m args below meth c Q G D cy nL hs0 sl0 (pc + 3) ls rest σ) : jGo p l e R s m args below meth c Q G D cy nL hs0 sl0 pc ls (.int x :: rest) σ := by
  intro lsA H locs cells slots hv hH hS hc hs
  cases cd
  · exact lv_if_eq C.1 C.2.1 hd ht (fun h => kt h lsA H locs cells slots hv hH hS hc hs) (fun h => kf h lsA H locs cells slots hv hH hS hc hs)
  · exact lv_if_ne C.1 C.2.1 hd ht (fun h => kt h lsA H locs cells slots hv hH hS hc hs) (fun h => kf (fun h2 => h2 h) lsA H locs cells slots hv hH hS hc hs)
  · exact lv_if_lt C.1 C.2.1 hd ht (fun h => kt h lsA H locs cells slots hv hH hS hc hs) (fun h => kf h lsA H locs cells slots hv hH hS hc hs)
  · exact lv_if_ge C.1 C.2.1 hd ht (fun h => kt h lsA H locs cells slots hv hH hS hc hs) (fun h => kf h lsA H locs cells slots hv hH hS hc hs)
  · exact lv_if_gt C.1 C.2.1 hd ht (fun h => kt h lsA H locs cells slots hv hH hS hc hs) (fun h => kf h lsA H locs cells slots hv hH hS hc hs)
  · exact lv_if_le C.1 C.2.1 hd ht (fun h => kt h lsA H locs cells slots hv hH hS hc hs) (fun h => kf h lsA H locs cells slots hv hH hS hc hs)
/-- the object at a -/
theorem js_obj {H : Heap} {a ci : Nat} (hin : jin G σ a) (hkd : (G.2.2.2.1 a).1 = ci) (hci : ci < 8) : ∃ pl : Nat, (jW cy G σ)[pl]? = some (a, .inr (ci, (List.range (jN ci)).map (jfv ci σ a))) := by
  obtain ⟨pl, h⟩ := jW_get (cy := cy) hin (by omega)
  exact ⟨pl, by rw [h, jF_obj hkd hci]⟩
theorem js_arr {a : Nat} {e : va_E} (hin : jin G σ a) (hk : (G.2.2.2.1 a).1 < 13) (he : jF cy G σ a = e) : ∃ pl : Nat, (jW cy G σ)[pl]? = some (a, e) := by
  obtain ⟨pl, h⟩ := jW_get (cy := cy) hin hk
  exact ⟨pl, by rw [h, he]⟩
theorem js_getfield {i a ci j : Nat} {r : vw_C} (C : jCx p s m args c M D cy G own nL hs0) (hd : decode M.1 pc = .ok (.getfield i, 3)) (hr : vwCl[ci]? = some r) (hcl : jcls ci r) (hci : ci < 8) (hj : j < jN ci) (hw : Cond.fieldLink own i r.1 (r.2.1 j).2.1 (r.2.1 j).2.2.1 ∈ lw_W) (hin : jin G σ a) (hkd : (G.2.2.2.1 a).1 = ci)
    (k : jGo p l e R s m args below meth c Q G D cy nL hs0 sl0 (pc + 3) ls (jfv ci σ a j :: rest) σ) : jGo p l e R s m args below meth c Q G D cy nL hs0 sl0 pc ls (.ref a :: rest) σ := by
  intro lsA H locs cells slots hv hH hS hc hs
  obtain ⟨hx, hb, hml, hown, hts, hB, h0⟩ := C
  obtain ⟨q1, q2, q3, q4, q5, q6⟩ := hcl
  obtain ⟨rC, rT, rN⟩ := r
  have e5 : (rT j).1 = rC := q5 j (by rw [q2]; exact hj)
  obtain ⟨pl, hpl⟩ := js_obj (cy := cy) (H := H) hin hkd hci
  exact va_get (C := rC) (T := rT) (N := rN) hx hb hts q1 hown hB.1 hH.1 pl hpl hr j (by have : rN = jN ci := q2; omega) (hts _ hw) (fun x h => by rw [e5] at h; exact h) (jobj_get hj) hd (k lsA H locs cells slots hv hH hS hc hs)
theorem js_putI {i a ci j : Nat} {x : Int32} {r : vw_C} (C : jCx p s m args c M D cy G own nL hs0) (hd : decode M.1 pc = .ok (.putfield i, 3)) (hr : vwCl[ci]? = some r) (hcl : jcls ci r) (hci : ci < 8) (hj : j < jN ci) (hw : Cond.fieldLink own i r.1 (r.2.1 j).2.1 (r.2.1 j).2.2.1 ∈ lw_W) (hin : jin G σ a) (hkd : (G.2.2.2.1 a).1 = ci) (hty : jty ci j = true)
    (k : jGo p l e R s m args below meth c Q G D cy nL hs0 sl0 (pc + 3) ls rest (jwI σ a j x)) : jGo p l e R s m args below meth c Q G D cy nL hs0 sl0 pc ls (.int x :: .ref a :: rest) σ := by
  intro lsA H locs cells slots hv hH hS hc hs
  obtain ⟨hx, hb, hml, hown, hts, hB, h0⟩ := C
  obtain ⟨q1, q2, q3, q4, q5, q6⟩ := hcl
  obtain ⟨rC, rT, rN⟩ := r
  have hN : rN = jN ci := q2
  have e5 : (rT j).1 = rC := q5 j (by show j < rN; omega)
  have e6 := (q6 j (by show j < rN; omega)).1 hty
  obtain ⟨pl, hpl⟩ := js_obj (cy := cy) (H := H) hin hkd hci
  refine va_put (C := rC) (T := rT) (N := rN) (H0 := H) (A := jA G) (ty := .int) hx hb hts q1 (jft ci) q3 q4 hown hB.1 hH.1 jW_D (js_self hS) pl hpl hr j (by omega) (hts _ hw) (fun x h => by rw [e5] at h; exact h) e6.2 (by rw [q3 j (by show j < rN; omega), e6.1]) rfl rfl (by simp; omega) hd (fun H1 locs1 hP _ hS1 => ?_)
  rw [jobj_I hj hty, jW_set hpl (jwt_I σ a j x) (jF_obj hkd hci) (fun b hb => jFo_I b hb)] at hP
  exact js_put hH hS hS1 hP rfl (fun hH1 hS2 => k lsA H1 locs1 cells slots hv hH1 hS2 hc hs)
theorem js_putR {i a ci j q : Nat} {r : vw_C} (C : jCx p s m args c M D cy G own nL hs0) (hd : decode M.1 pc = .ok (.putfield i, 3)) (hr : vwCl[ci]? = some r) (hcl : jcls ci r) (hci : ci < 8) (hj : j < jN ci) (hw : Cond.fieldLink own i r.1 (r.2.1 j).2.1 (r.2.1 j).2.2.1 ∈ lw_W) (hin : jin G σ a) (hkd : (G.2.2.2.1 a).1 = ci) (hty : jty ci j = false) (hinit : meth.name = "<init>") (hro : r.1 = own)
    (k : jGo p l e R s m args below meth c Q G D cy nL hs0 sl0 (pc + 3) ls rest (jwR σ a j (some q))) : jGo p l e R s m args below meth c Q G D cy nL hs0 sl0 pc ls (.ref q :: .ref a :: rest) σ := by
  intro lsA H locs cells slots hv hH hS hc hs
  obtain ⟨hx, hb, hml, hown, hts, hB, h0⟩ := C
  obtain ⟨q1, q2, q3, q4, q5, q6⟩ := hcl
  obtain ⟨rC, rT, rN⟩ := r
  have hN : rN = jN ci := q2
  have e5 : (rT j).1 = rC := q5 j (by show j < rN; omega)
  obtain ⟨e6, e7⟩ := (q6 j (by show j < rN; omega)).2 hty
  obtain ⟨pl, hpl⟩ := js_obj (cy := cy) (H := H) hin hkd hci
  refine va_putF (C := rC) (T := rT) (N := rN) (H0 := H) (A := jA G) (ty := jft ci j) hx hb hts q1 (jft ci) q3 q4 hown hB.1 hH.1 jW_D (js_self hS) pl hpl hr j (by omega) (hts _ hw) (fun x h => by rw [e5] at h; exact h) e6 hinit (e5.trans hro) (q3 j (by show j < rN; omega)) (by rcases e7 with ⟨n, h⟩ | ⟨t, h⟩ <;> rw [h] <;> rfl) (by rcases e7 with ⟨n, h⟩ | ⟨t, h⟩ <;> rw [h] <;> rfl) (by simp; omega) hd (fun H1 locs1 hP _ hS1 => ?_)
  rw [jobj_R hj hty, jW_set hpl (jwt_R σ a j (some q)) (jF_obj hkd hci) (fun b hb => jFo_R b hb)] at hP
  exact js_put hH hS hS1 hP rfl (fun hH1 hS2 => k lsA H1 locs1 cells slots hv hH1 hS2 hc hs)
theorem js_iaload {a n : Nat} {i : Int32} {f : Nat → Int32} (C : jCx p s m args c M D cy G own nL hs0) (hd : decode M.1 pc = .ok (.iaload, 1)) (ha : jga G σ a = some (n, f)) (hi : vp_in i n)
    (k : jGo p l e R s m args below meth c Q G D cy nL hs0 sl0 (pc + 1) ls (.int (f i.toNatClampNeg) :: rest) σ) : jGo p l e R s m args below meth c Q G D cy nL hs0 sl0 pc ls (.int i :: .ref a :: rest) σ := by
  intro lsA H locs cells slots hv hH hS hc hs
  obtain ⟨hx, hb, hml, hown, hts, hB, h0⟩ := C
  unfold jga at ha
  by_cases h1 : G.1 ≤ a
  · rw [if_pos h1] at ha
    split at ha
    · rename_i h2
      have ha := Option.some.inj ha
      have hkd : G.2.2.2.1 a = (8, n) := Prod.ext h2.2 (congrArg Prod.fst ha)
      have hf : σ.1 a = f := congrArg Prod.snd ha
      subst hf
      obtain ⟨pl, hpl⟩ := js_arr (cy := cy) (σ := σ) ⟨h1, h2.1⟩ (by rw [hkd]; exact Nat.le_of_ble_eq_true rfl) (jF_int hkd)
      exact va_iald hx hb hB.1 hH.1 pl 0 hpl rfl hi hd (k lsA H locs cells slots hv hH hS hc hs)
    · cases ha
  · rw [if_neg h1] at ha
    obtain ⟨g1, g2⟩ := hB.2.2.2.2.2.2.1 a n f ha
    exact va_sld hx hb g2 (Nat.lt_of_lt_of_le g1 hB.2.2.2.2.2.2.2.2) h1 hS hi hd (k lsA H locs cells slots hv hH hS hc hs)
theorem js_arraylength {a n : Nat} {f : Nat → Int32} (C : jCx p s m args c M D cy G own nL hs0) (hd : decode M.1 pc = .ok (.arraylength, 1)) (ha : jga G σ a = some (n, f))
    (k : jGo p l e R s m args below meth c Q G D cy nL hs0 sl0 (pc + 1) ls (.int (Int32.ofNat n) :: rest) σ) : jGo p l e R s m args below meth c Q G D cy nL hs0 sl0 pc ls (.ref a :: rest) σ := by
  intro lsA H locs cells slots hv hH hS hc hs
  obtain ⟨hx, hb, hml, hown, hts, hB, h0⟩ := C
  unfold jga at ha
  by_cases h1 : G.1 ≤ a
  · rw [if_pos h1] at ha
    split at ha
    · rename_i h2
      have ha := Option.some.inj ha
      have hkd : G.2.2.2.1 a = (8, n) := Prod.ext h2.2 (congrArg Prod.fst ha)
      obtain ⟨pl, hpl⟩ := js_arr (cy := cy) (σ := σ) ⟨h1, h2.1⟩ (by rw [hkd]; exact Nat.le_of_ble_eq_true rfl) (jF_int hkd)
      exact va_alen hx hb hB.1 hH.1 pl 0 hpl rfl rfl hd (k lsA H locs cells slots hv hH hS hc hs)
    · cases ha
  · rw [if_neg h1] at ha
    obtain ⟨g1, g2⟩ := hB.2.2.2.2.2.2.1 a n f ha
    exact va_slen hx hb g2 (Nat.lt_of_lt_of_le g1 hB.2.2.2.2.2.2.2.2) h1 hS hd (k lsA H locs cells slots hv hH hS hc hs)
theorem js_iastore {a n : Nat} {i x : Int32} (C : jCx p s m args c M D cy G own nL hs0) (hd : decode M.1 pc = .ok (.iastore, 1)) (hin : jin G σ a) (hkd : G.2.2.2.1 a = (8, n)) (hi : vp_in i n)
    (k : jGo p l e R s m args below meth c Q G D cy nL hs0 sl0 (pc + 1) ls rest (jwI σ a i.toNatClampNeg x)) : jGo p l e R s m args below meth c Q G D cy nL hs0 sl0 pc ls (.int x :: .int i :: .ref a :: rest) σ := by
  intro lsA H locs cells slots hv hH hS hc hs
  obtain ⟨hx, hb, hml, hown, hts, hB, h0⟩ := C
  obtain ⟨pl, hpl⟩ := js_arr (cy := cy) (σ := σ) hin (by rw [hkd]; exact Nat.le_of_ble_eq_true rfl) (jF_int hkd)
  refine va_iast (H0 := H) (A := jA G) hx hb hB.1 hH.1 jW_D (js_self hS) pl 0 hpl rfl hi hd (fun H1 locs1 hP _ hS1 => ?_)
  rw [jW_set hpl (jwt_I σ a i.toNatClampNeg x) (by rw [jF_int hkd, show (jwI σ a i.toNatClampNeg x).1 a = upd (σ.1 a) i.toNatClampNeg x from by funext j; simp [jwI, upd]]) (fun b hb => jFo_I b hb)] at hP
  exact js_put hH hS hS1 hP rfl (fun hH1 hS2 => k lsA H1 locs1 cells slots hv hH1 hS2 hc hs)
theorem jtys_q {j : Nat} (hj : j < 3) : (jtys cy)[1 + j]? = some (cy (1 + j), .object (jen j)) := by
  rcases (show j = 0 ∨ j = 1 ∨ j = 2 by omega) with rfl | rfl | rfl <;> rfl
theorem js_aaload {a n j : Nat} {i : Int32} (C : jCx p s m args c M D cy G own nL hs0) (hd : decode M.1 pc = .ok (.aaload, 1)) (hin : jin G σ a) (hj : j < 3) (hkd : G.2.2.2.1 a = (10 + j, n)) (hi : vp_in i n)
    (k : jGo p l e R s m args below meth c Q G D cy nL hs0 sl0 (pc + 1) ls (va_rf (σ.2.1 a i.toNatClampNeg) :: rest) σ) : jGo p l e R s m args below meth c Q G D cy nL hs0 sl0 pc ls (.int i :: .ref a :: rest) σ := by
  intro lsA H locs cells slots hv hH hS hc hs
  obtain ⟨hx, hb, hml, hown, hts, hB, h0⟩ := C
  obtain ⟨pl, hpl⟩ := js_arr (cy := cy) (σ := σ) hin (by rw [hkd]; show 10 + j < 13; omega) (jF_ref hkd)
  exact va_aldq hx hb hB.1 hH.1 pl (1 + j) hpl (jtys_q hj) hi hd (k lsA H locs cells slots hv hH hS hc hs)
theorem js_aastore {a n j q : Nat} {i : Int32} (C : jCx p s m args c M D cy G own nL hs0) (hd : decode M.1 pc = .ok (.aastore, 1)) (hin : jin G σ a) (hj : j < 3) (hkd : G.2.2.2.1 a = (10 + j, n)) (hi : vp_in i n) (hq : jin G σ q) (hqk : (G.2.2.2.1 q).1 = (if j = 0 then 4 else if j = 1 then 3 else 5))
    (k : jGo p l e R s m args below meth c Q G D cy nL hs0 sl0 (pc + 1) ls rest (jwR σ a i.toNatClampNeg (some q))) : jGo p l e R s m args below meth c Q G D cy nL hs0 sl0 pc ls (.ref q :: .int i :: .ref a :: rest) σ := by
  intro lsA H locs cells slots hv hH hS hc hs
  obtain ⟨hx, hb, hml, hown, hts, hB, h0⟩ := C
  obtain ⟨ci, hci, hci8, r, hr, hrj⟩ : ∃ ci, (G.2.2.2.1 q).1 = ci ∧ ci < 8 ∧ ∃ r, vwCl[ci]? = some r ∧ r.1 = jen j := by
    rcases (show j = 0 ∨ j = 1 ∨ j = 2 by omega) with rfl | rfl | rfl
    · exact ⟨4, hqk, by decide, _, rfl, rfl⟩
    · exact ⟨3, hqk, by decide, _, rfl, rfl⟩
    · exact ⟨5, hqk, by decide, _, rfl, rfl⟩
  obtain ⟨pl, hpl⟩ := js_arr (cy := cy) (σ := σ) hin (by rw [hkd]; show 10 + j < 13; omega) (jF_ref hkd)
  obtain ⟨pq, hpq⟩ := js_obj (cy := cy) (H := H) hq hci hci8
  refine va_astq (H0 := H) (A := jA G) (r := r) hx hb hB.1 hH.1 jW_D (js_self hS) pl (1 + j) pq ci hpl (by rw [hrj]; exact jtys_q hj) hpq hr hi hd (fun H1 locs1 hP _ hS1 => ?_)
  rw [jW_set hpl (jwt_R σ a i.toNatClampNeg (some q)) (by rw [jF_ref hkd, show (jwR σ a i.toNatClampNeg (some q)).2.1 a = va_up (σ.2.1 a) i.toNatClampNeg (some q) from by funext j; simp [jwR, va_up]]) (fun b hb => jFo_R b hb)] at hP
  exact js_put hH hS hS1 hP rfl (fun hH1 hS2 => k lsA H1 locs1 cells slots hv hH1 hS2 hc hs)
/-- a cell is made at the world's end -/
theorem js_grown {H H1 : Heap} {n : Nat} (hH : jH D cy G σ H) (hk13 : (G.2.2.2.1 (jwt σ)).1 < 13) (hHz : H.size = jwt σ) (hz : H1.size = jwt σ + 1) (ho : ∀ q, q < jwt σ → H1[q]? = H[q]?) (he : va_at D vwCl (jwt σ, jF cy G (jwn σ n) (jwt σ)) H1) : jH D cy G (jwn σ n) H1 := by
  obtain ⟨a1, a3, a4⟩ := hH
  refine ⟨?_, Nat.le_succ_of_le a3, by rw [hz]; exact Nat.le_refl _⟩
  have hsame : ∀ b, b < jwt σ → jF cy G (jwn σ n) b = jF cy G σ b := fun b hb => by
    have hb2 : b ≠ σ.2.2.2.1 := Nat.ne_of_lt hb
    exact jF_same (by funext k; simp [jwn, hb2]) (by funext k; simp [jwn, hb2]) (by funext k; simp [jwn, hb2])
  rw [← jW_push (σ := σ) (σ' := jwn σ n) a3 hk13 rfl rfl hsame]
  refine va_P.app (fun k q hk => (a1 k q hk).kept (ho q.1 ?_)) (fun k q hk => ?_)
  · have := (a1 k q hk).lt
    omega
  · have hz : k < 1 := (List.getElem?_eq_some_iff.mp hk).1
    rw [show k = 0 by omega] at hk
    cases hk
    exact he
theorem js_Sgrown {H H1 : Heap} {locs : List Loc} (hS : va_S (jA G) s.heap H locs) (hz : H.size ≤ H1.size) (ho : ∀ q, q < H.size → H1[q]? = H[q]?) : va_S (jA G) s.heap H1 locs := ⟨Nat.le_trans hS.1 hz, fun q b1 b2 => (ho q (Nat.lt_of_lt_of_le b1 hS.1)).trans (hS.2.1 q b1 b2), hS.2.2⟩
theorem js_new {i ci : Nat} {r : vw_C} (C : jCx p s m args c M D cy G own nL hs0) (hd : decode M.1 pc = .ok (.new i, 3)) (hr : vwCl[ci]? = some r) (hcl : jcls ci r) (hci : ci < 8) (hw1 : Cond.classLink own i r.1 ∈ lw_W) (hw2 : Cond.instantiable r.1 r.2.2 ∈ lw_W) (hw3 : Cond.initialized r.1 ∈ lw_W) (hw : jwt σ = jhs σ) (hkd : (G.2.2.2.1 (jwt σ)).1 = ci)
    (hroom : jhs σ + 1 ≤ hs0 + R.cells ∧ jsl σ + jN ci ≤ sl0 + R.slots) (k : jGo p l e R s m args below meth c Q G D cy nL hs0 sl0 (pc + 3) ls (.ref (jwt σ) :: rest) (jwn σ (jN ci))) : jGo p l e R s m args below meth c Q G D cy nL hs0 sl0 pc ls rest σ := by
  intro lsA H locs cells slots hv hH hS hc hs
  obtain ⟨hx, hb, hml, hown, hts, hB, h0⟩ := C
  obtain ⟨q1, q2, q3, q4, q5, q6⟩ := hcl
  obtain ⟨rC, rT, rN⟩ := r
  have hN : rN = jN ci := q2
  have hKn := hB.1.1 ci _ hr
  refine js_bound h0 hc fun hHb => ?_
  have hHz : H.size = jwt σ := Nat.le_antisymm (by rw [hw]; exact hHb) hH.2.2
  refine W.newcK hx hb hown (hts _ hw1) (hts _ hw2) (hts _ hw3) rfl hd (by omega) (by show slots + rN ≤ R.slots; omega) hKn.2.1 hHz fun H1 kC hkC e1 z1 o1 => ?_
  rw [show slots + (rC, rT, rN).2.2 = slots + jN ci from by rw [← hN]]
  refine k lsA H1 locs (cells + 1) (slots + jN ci) hv (js_grown hH (by rw [hkd]; omega) hHz z1 o1 ?_) (js_Sgrown hS (by omega) (fun q hq => o1 q (by omega))) (by show jhs σ + 1 = _; omega) (by show jsl σ + jN ci = _; omega)
  rw [jF_obj hkd hci]
  refine ⟨(rC, rT, rN), hr, (u_born (jft ci) hts q1 hKn hkC e1 q3).to (fun j hj => ?_)⟩
  have hjN : j < jN ci := by rw [← hN]; exact hj
  have e9 : vp_V (List.map (jfv ci (jwn σ (jN ci)) (jwt σ)) (List.range (jN ci))) j = jfv ci (jwn σ (jN ci)) (jwt σ) j := by
    simp [vp_V, hjN]
  rw [e9]
  cases ht : jty ci j with
  | true =>
    rw [((q6 j hj).1 ht).1]
    simp [jfv, ht, jwn, jwt, defaultValue]
  | false =>
    rcases ((q6 j hj).2 ht).2 with ⟨n, h⟩ | ⟨t, h⟩ <;> rw [h] <;> simp [jfv, ht, jwn, jwt, defaultValue, va_rf]
theorem js_newarrayI {n : Int32} (C : jCx p s m args c M D cy G own nL hs0) (hd : decode M.1 pc = .ok (.newarray .int, 2)) (hwA : Cond.arrayClass .int ∈ lw_W) (hn : ¬ n < 0) (hn2 : n.toNatClampNeg ≤ 60000000) (hw : jwt σ = jhs σ) (hkd : G.2.2.2.1 (jwt σ) = (8, n.toNatClampNeg))
    (hroom : jhs σ + 1 ≤ hs0 + R.cells ∧ jsl σ + n.toNatClampNeg ≤ sl0 + R.slots) (k : jGo p l e R s m args below meth c Q G D cy nL hs0 sl0 (pc + 2) ls (.ref (jwt σ) :: rest) (jwn σ n.toNatClampNeg)) : jGo p l e R s m args below meth c Q G D cy nL hs0 sl0 pc ls (.int n :: rest) σ := by
  intro lsA H locs cells slots hv hH hS hc hs
  obtain ⟨hx, hb, hml, hown, hts, hB, h0⟩ := C
  refine js_bound h0 hc fun hHb => ?_
  have hHz : H.size = jwt σ := Nat.le_antisymm (by rw [hw]; exact hHb) hH.2.2
  refine va_newaK (atype := .int) hx hb (hts _ hwA) rfl hd rfl hn rfl (by show n.toNatClampNeg * 4 ≤ _; omega) (by omega) (by omega) hHz fun H1 cA e1 z1 o1 hAr hNm => ?_
  refine k lsA H1 locs (cells + 1) (slots + n.toNatClampNeg) hv (js_grown hH (by rw [hkd]; exact Nat.le_of_ble_eq_true rfl) hHz z1 o1 ?_) (js_Sgrown hS (by omega) (fun q hq => o1 q (by omega))) (by show jhs σ + 1 = _; omega) (by show jsl σ + n.toNatClampNeg = _; omega)
  have hcA : cA = cy 0 := Option.some.inj (hNm.symm.trans (hB.1.2 0 _ rfl).2)
  subst hcA
  rw [jF_int hkd]
  show H1[jwt σ]? = some (vp_cell _ _)
  rw [e1]
  refine congrArg some ?_
  dsimp only
  rw [vp_cell_i]
  congr 1
  funext j
  simp [jwn, jwt, newarray.typeOf, defaultValue]
theorem js_anewarray {n : Int32} {i j : Nat} (C : jCx p s m args c M D cy G own nL hs0) (hd : decode M.1 pc = .ok (.anewarray i, 3)) (hj : j < 3) (hw1 : Cond.classLink own i (jen j) ∈ lw_W) (hn : ¬ n < 0) (hn2 : n.toNatClampNeg ≤ 60000000) (hw : jwt σ = jhs σ) (hkd : G.2.2.2.1 (jwt σ) = (10 + j, n.toNatClampNeg))
    (hroom : jhs σ + 1 ≤ hs0 + R.cells ∧ jsl σ + n.toNatClampNeg ≤ sl0 + R.slots) (k : jGo p l e R s m args below meth c Q G D cy nL hs0 sl0 (pc + 3) ls (.ref (jwt σ) :: rest) (jwn σ n.toNatClampNeg)) : jGo p l e R s m args below meth c Q G D cy nL hs0 sl0 pc ls (.int n :: rest) σ := by
  intro lsA H locs cells slots hv hH hS hc hs
  obtain ⟨hx, hb, hml, hown, hts, hB, h0⟩ := C
  refine js_bound h0 hc fun hHb => ?_
  have hHz : H.size = jwt σ := Nat.le_antisymm (by rw [hw]; exact hHb) hH.2.2
  have hAO : va_AO (jen j) s := by
    obtain ⟨-, -, -, ⟨b1, b2, b3⟩, -⟩ := hB
    rcases (show j = 0 ∨ j = 1 ∨ j = 2 by omega) with rfl | rfl | rfl
    · exact b1
    · exact b2
    · exact b3
  refine W.anew hx hb hown (hts _ hw1) (va_AO.use hAO) rfl hd rfl hn (by omega) (by omega) (by omega) fun cA kA comp f1 f2 f3 f4 => ?_
  have z1 : (H.push ({ cls := cA, slots := Array.replicate n.toNatClampNeg .null, vm := .none } : Cell)).size = H.size + 1 := Array.size_push ..
  have o1 : ∀ q, q < H.size → (H.push ({ cls := cA, slots := Array.replicate n.toNatClampNeg .null, vm := .none } : Cell))[q]? = H[q]? := fun q hq => by rw [Array.getElem?_push, if_neg (Nat.ne_of_lt hq)]
  have e1 : (H.push ({ cls := cA, slots := Array.replicate n.toNatClampNeg .null, vm := .none } : Cell))[H.size]? = some (arrV cA n.toNatClampNeg (fun _ => .null)) := by rw [Array.getElem?_push_size, ← arrV_new]
  generalize H.push ({ cls := cA, slots := Array.replicate n.toNatClampNeg .null, vm := .none } : Cell) = H1 at z1 o1 e1 ⊢
  rw [show (Value.ref H.size) = .ref (jwt σ) by rw [hHz]]
  rw [hHz] at e1 o1 z1
  refine k lsA H1 locs (cells + 1) (slots + n.toNatClampNeg) hv (js_grown hH (by rw [hkd]; show 10 + j < 13; omega) hHz z1 o1 ?_) (js_Sgrown hS (by omega) (fun q hq => o1 q (by omega))) (by show jhs σ + 1 = _; omega) (by show jsl σ + n.toNatClampNeg = _; omega)
  have hcA : cA = cy (1 + j) := by
    obtain ⟨_, _, _, _, _, g4⟩ := (hB.1.2 (1 + j) _ (jtys_q hj)).2
    exact Option.some.inj (f1.symm.trans g4)
  subst hcA
  rw [jF_ref hkd]
  show H1[jwt σ]? = some (vp_cell _ _)
  rw [e1]
  refine congrArg some ?_
  dsimp only
  rw [vp_cell_q]
  congr 1
  funext j
  simp [jwn, jwt, va_rf]
end JS
end
section
/-! calls, and the whole of it -/
section JC
variable {p : Program} {l : Launch} {e : Env} {R : Room} {s : State} {m : MethodId} {args : Array Value} {below : List Frame} {meth : Method} {c : Code} {Q : State → Prop} {G : jgG} {M : jgM} {D : va_G} {cy : Nat → ClassId} {own : String} {nL hs0 sl0 : Nat}
variable {pc : Nat} {ls : List (Option Value)} {st rest : List Value} {σ : jgS}
/-- from here the exception that is thrown over this frame goes its way -/
def jGoX (p : Program) (l : Launch) (e : Env) (R : Room) (s : State) (m : MethodId) (args : Array Value) (below : List Frame) (meth : Method) (c : Code) (Q : State → Prop) (G : jgG) (D : va_G) (cy : Nat → ClassId) (nL hs0 sl0 : Nat) (pc : Nat) (ls : List (Option Value)) (rest : List Value) (E : String) (σ : jgS) : Prop :=
  ∀ (lsA : Array Slot) (H : Heap) (locs : List Loc) (cells slots : Nat) (q : Nat) (ce : Cell), jlv lsA nL ls → jH D cy G σ H → va_S (jA G) s.heap H locs → jhs σ = hs0 + cells → jsl σ = sl0 + slots → H[q]? = some ce → ce.vm = .none → s.vm.findClass E = some ce.cls → vx_W p l e R s m args below meth c H locs cells slots Q (F0 m pc lsA rest) q
theorem js_pre {As : List Value} {H : Heap} {locs : List Loc} (hB : jB D cy G s) (hH : jH D cy G σ H) (hHb : H.size ≤ jhs σ) (hS : va_S (jA G) s.heap H locs) : PreS s H (jPre D cy G As σ) As :=
  ⟨jPre_blind, fun U hU hW => ⟨rfl, hB.moved hW (by rw [hU]; exact hS.1) (fun a h1 h2 => by rw [hU]; exact hS.2.1 a h1 h2), by rw [hU]; exact hH, by rw [hU]; exact hHb⟩⟩
theorem js_goes {r : jgR} {H : Heap} {lsA : Array Slot} {locs : List Loc} {cells slots : Nat} {a : Array Value} {st0 : List Value} (hlv : jlv lsA nL ls) (hH : jH D cy G σ H) (hS : va_S (jA G) s.heap H locs) (hc : jhs σ = hs0 + cells) (hs : jsl σ = sl0 + slots) (hm1 : jhs σ ≤ jhs r.2) (hm2 : jsl σ ≤ jsl r.2)
    (hr : vx_Run p l e R s m args below meth c H locs cells slots (jhs r.2 - jhs σ) (jsl r.2 - jsl σ) (F0 m pc lsA st0) rest (jPost D cy G r a) (jX D cy G r) (jA G))
    (kv : ∀ v, r.1 = .inl v → jGo p l e R s m args below meth c Q G D cy nL hs0 sl0 (pc + 3) ls (v.toList ++ rest) r.2) (kx : ∀ E, r.1 = .inr E → jGoX p l e R s m args below meth c Q G D cy nL hs0 sl0 pc ls rest E r.2) : W p l e R s m args below meth c H locs cells slots Q (F0 m pc lsA st0) := by
  intro T hT X
  rcases hr T hT X with ⟨v, st₀, t, T', L, h0, X', hL, e1, e2, ⟨v', hrv, hv, hH', hF⟩, st⟩ | ⟨q, st₀, t, T', L, E, ce, h0, X', hL, e1, e2, ⟨hrE, hH', hF⟩, hce, hcv, hcl, st⟩
  · have hvv : v = v' := Outcome.returned.inj hv
    subst hvv
    obtain ⟨-, -, k3⟩ := vx_keep h0 e1 hS (fun q _ h => h) (fun q h => h) hL hF
    rw [← e1] at hH'
    obtain ⟨t2, a1, b1⟩ := kv v hrv lsA T'.heap (locs ++ L) (cells + (jhs r.2 - jhs σ)) (slots + (jsl r.2 - jsl σ)) hlv hH' k3 (by omega) (by omega) T' rfl X'
    exact ⟨t2, st t2 a1, b1⟩
  · obtain ⟨-, -, k3⟩ := vx_keep h0 e1 hS (fun q _ h => h) (fun q h => h) hL hF
    rw [← e1] at hH'
    obtain ⟨t2, a1, b1⟩ := kx E hrE lsA T'.heap (locs ++ L) (cells + (jhs r.2 - jhs σ)) (slots + (jsl r.2 - jsl σ)) q ce hlv hH' k3 (by omega) (by omega) (by rw [e1]; exact hce) hcv hcl T' rfl X'
    exact ⟨t2, st.trans a1, b1⟩
/-- a contract that doesn't throw, in the kit's plain form -/
theorem jMet_plain {y : MethodName} {ws : List Cond} {rm : Room} {Pc : Array Value → State → Prop} {r : jgR} {mc ms : Nat} (hr : ∀ E, r.1 ≠ .inr E) (h : vx_Met l y ws rm Pc (jPost D cy G r) (jX D cy G r) mc ms (jA G)) : Met l y ws rm Pc (jPost D cy G r) mc ms (jA G) := by
  intro p e h1 h2 h3 s m args below h4 h5 h6 h7
  obtain ⟨n, o, q1, q2, q3, q4⟩ := h p e h1 h2 h3 s m args below h4 h5 h6 h7
  refine ⟨n, o, q1, q2, q3, ?_⟩
  rcases q4 with q4 | ⟨q, -, E, ce, L, ⟨hx, -⟩, -⟩
  · exact q4
  · exact absurd hx (hr E)
theorem jargs_split {n : Nat} (h : n ≤ st.length) : st = (jargs st n).reverse ++ st.drop n := by
  unfold jargs
  rw [List.reverse_reverse, List.take_append_drop]
theorem jargs_len {n : Nat} (h : n ≤ st.length) : (jargs st n).length = n := by
  unfold jargs
  rw [List.length_reverse, List.length_take, Nat.min_eq_left h]
/-- words of a plain call -/
theorem jwsPlain {I : jgI} (h : I.2.2.2.2.2.2.2.2.2 = []) : jws I = Cond.code I.2.2.1 I.2.2.2.1 I.2.2.2.2.1 I.2.2.2.2.2.1 :: lw_W := by
  unfold jws jcw
  rw [if_pos h]
theorem jwsWith {I : jgI} (h : I.2.2.2.2.2.2.2.2.2 ≠ []) : jws I = Cond.codeWith I.2.2.1 I.2.2.2.1 I.2.2.2.2.1 I.2.2.2.2.2.1 I.2.2.2.2.2.2.2.2.2 :: lw_W := by
  unfold jws jcw
  rw [if_neg h]
theorem jwsGood {I : jgI} (h : jcw I ∈ lw_W) : ∀ w ∈ jws I, w ∈ lw_W := fun w hw => (List.mem_cons.mp hw).elim (fun e => by rw [e]; exact h) id
theorem jcallB {i : Nat} {I : jgI} {mc ms : Nat} (hts : ∀ w ∈ lw_W, w.before args s = true) (hC : jCok own i I R) (hh : I.2.2.2.2.2.2.2.2.2 = []) (hl : Cond.methodLink own i I.2.2.1 ∈ lw_W) : CallB R s args own i I.2.2.1 I.2.2.2.1 I.2.2.2.2.1 I.2.2.2.2.2.1 (jws I) { frames := I.2.2.2.2.2.2.2.1, cells := mc, slots := ms, locals := I.2.2.2.2.2.2.2.2.1 } mc ms I.2.2.2.2.2.2.1 := by
  obtain ⟨h1, h2, h3, h4, -⟩ := hC
  exact callB_of I.2.2.2.2.2.2.1 hts (jgoodIn (jwsGood h1)) (jwsPlain hh) rfl rfl (hts _ h2) (hts _ hl) h3 h4
theorem js_virtual {i : Nat} {I : jgI} {S : jgSpec} {b : Nat} {As : List Value} {r : jgR} (C : jCx p s m args c M D cy G own nL hs0) (hd : decode M.1 pc = .ok (.invokevirtual i, 3)) (hC : jCok own i I R) (hM : jMet l D cy G I S) (hI : I.1 = 0) (hn : I.2.2.2.2.2.2.1 + 1 ≤ st.length) (hA : jargs st (I.2.2.2.2.2.2.1 + 1) = .ref b :: As) (hin : jin G σ b) (hkd : (G.2.2.2.1 b).1 = I.2.1) (hcat : jcat (st.drop (I.2.2.2.2.2.2.1 + 1)) ≤ 8) (hr : S (.ref b :: As) σ r)
    (hroom : jhs r.2 ≤ hs0 + R.cells ∧ jsl r.2 ≤ sl0 + R.slots)
    (kv : ∀ v, r.1 = .inl v → jGo p l e R s m args below meth c Q G D cy nL hs0 sl0 (pc + 3) ls (v.toList ++ st.drop (I.2.2.2.2.2.2.1 + 1)) r.2) (kx : ∀ E, r.1 = .inr E → jGoX p l e R s m args below meth c Q G D cy nL hs0 sl0 pc ls (st.drop (I.2.2.2.2.2.2.1 + 1)) E r.2) : jGo p l e R s m args below meth c Q G D cy nL hs0 sl0 pc ls st σ := by
  intro lsA H locs cells slots hv hH hS hc hs
  obtain ⟨hx, hb, hml, hown, hts, hB, h0⟩ := C
  obtain ⟨m1, m2, m3⟩ := hM _ _ _ hr
  rcases id hC.2.2.2.2 with ⟨-, w1, w2, w3, hh, h8, rr, hrr, hrn⟩ | ⟨h, -⟩ | ⟨h, -⟩ | ⟨h, -⟩ | ⟨h, -⟩
  · refine js_bound h0 hc fun hHb => ?_
    have hpre := js_pre (As := .ref b :: As) hB hH hHb hS
    obtain ⟨pl, hpl⟩ := js_obj (cy := cy) (H := H) hin hkd h8
    have hrecv := va_recv hB.1 hH.1 hrr hpl
    rw [hrn] at hrecv
    refine js_goes hv hH hS hc hs m1 m2 (vx_runV (As := As) (rest := st.drop (I.2.2.2.2.2.2.1 + 1)) ⟨hx, hb, hml, hown, hts⟩ m3 ⟨jcallB hts hC hh w1, hts _ w2, hts _ w3⟩ ⟨hpre.1, hrecv, hpre.2⟩ rfl ?_ hv.2.1 ?_ (lv_room hcat) hd ⟨by omega, by omega⟩) kv kx
    · have := jargs_len hn
      rw [hA] at this
      simpa using this
    · have := jargs_split hn
      rw [hA, List.reverse_cons, List.append_assoc] at this
      exact this
  all_goals (rw [hI] at h; cases h)
theorem js_static {i : Nat} {I : jgI} {S : jgSpec} {r : jgR} (C : jCx p s m args c M D cy G own nL hs0) (hd : decode M.1 pc = .ok (.invokestatic i, 3)) (hC : jCok own i I R) (hM : jMet l D cy G I S) (hI : I.1 = 1 ∨ I.1 = 4) (hn : I.2.2.2.2.2.2.1 ≤ st.length) (hcat : jcat (st.drop I.2.2.2.2.2.2.1) ≤ 8) (hr : S (jargs st I.2.2.2.2.2.2.1) σ r)
    (hroom : jhs r.2 ≤ hs0 + R.cells ∧ jsl r.2 ≤ sl0 + R.slots)
    (kv : ∀ v, r.1 = .inl v → jGo p l e R s m args below meth c Q G D cy nL hs0 sl0 (pc + 3) ls (v.toList ++ st.drop I.2.2.2.2.2.2.1) r.2) (kx : ∀ E, r.1 = .inr E → jGoX p l e R s m args below meth c Q G D cy nL hs0 sl0 pc ls (st.drop I.2.2.2.2.2.2.1) E r.2) : jGo p l e R s m args below meth c Q G D cy nL hs0 sl0 pc ls st σ := by
  intro lsA H locs cells slots hv hH hS hc hs
  obtain ⟨hx, hb, hml, hown, hts, hB, h0⟩ := C
  obtain ⟨m1, m2, m3⟩ := hM _ _ _ hr
  refine js_bound h0 hc fun hHb => ?_
  have hpre := js_pre (As := jargs st I.2.2.2.2.2.2.1) hB hH hHb hS
  rcases id hC.2.2.2.2 with ⟨h, -⟩ | ⟨-, w1, w2, hh⟩ | ⟨h, -⟩ | ⟨h, -⟩ | ⟨h, w1, w2, hh⟩
  · omega
  · exact js_goes hv hH hS hc hs m1 m2 (vx_runS (As := jargs st I.2.2.2.2.2.2.1) (rest := st.drop I.2.2.2.2.2.2.1) ⟨hx, hb, hml, hown, hts⟩ m3 ⟨jcallB hts hC hh w1, hts _ w2⟩ hpre rfl (jargs_len hn) hv.2.1 (jargs_split hn) (lv_room hcat) hd ⟨by omega, by omega⟩) kv kx
  · omega
  · omega
  · refine js_goes hv hH hS hc hs m1 m2 (vx_runSX (hh := I.2.2.2.2.2.2.2.2.2) (As := jargs st I.2.2.2.2.2.2.1) (rest := st.drop I.2.2.2.2.2.2.1) ⟨hx, hb, hml, hown, hts⟩ m3 (vx_cwSW I.2.2.2.2.2.2.1 hts ?_ (jwsWith hh) rfl rfl hC.2.2.1 hC.2.2.2.1) hpre rfl (jargs_len hn) hv.2.1 (jargs_split hn) (lv_room hcat) hd ⟨by omega, by omega⟩) kv kx
    refine jgoodIn fun w hw => ?_
    unfold va_wsS at hw
    rcases List.mem_append.mp hw with h1 | h1
    · rcases List.mem_cons.mp h1 with rfl | h1
      · exact w1
      · rcases List.mem_cons.mp h1 with rfl | h1
        · exact w2
        · rw [List.mem_singleton.mp h1]
          exact hC.2.1
    · exact jwsGood hC.1 w h1
theorem js_special {i : Nat} {I : jgI} {S : jgSpec} {b : Nat} {As : List Value} {σ' : jgS} (C : jCx p s m args c M D cy G own nL hs0) (hd : decode M.1 pc = .ok (.invokespecial i, 3)) (hC : jCok own i I R) (hM : jMet l D cy G I S) (hI : I.1 = 2 ∨ I.1 = 3) (hn : I.2.2.2.2.2.2.1 + 1 ≤ st.length) (hA : jargs st (I.2.2.2.2.2.2.1 + 1) = .ref b :: As) (hcat : jcat (st.drop (I.2.2.2.2.2.2.1 + 1)) ≤ 8) (hr : S (.ref b :: As) σ (.inl none, σ'))
    (hroom : jhs σ' ≤ hs0 + R.cells ∧ jsl σ' ≤ sl0 + R.slots)
    (kv : jGo p l e R s m args below meth c Q G D cy nL hs0 sl0 (pc + 3) ls (st.drop (I.2.2.2.2.2.2.1 + 1)) σ') : jGo p l e R s m args below meth c Q G D cy nL hs0 sl0 pc ls st σ := by
  intro lsA H locs cells slots hv hH hS hc hs
  obtain ⟨hx, hb, hml, hown, hts, hB, h0⟩ := C
  obtain ⟨m1, m2, m3⟩ := hM _ _ _ hr
  have m4 := jMet_plain (fun E => by intro h; cases h) m3
  dsimp only at m1 m2
  refine js_bound h0 hc fun hHb => ?_
  have hpre := js_pre (As := .ref b :: As) hB hH hHb hS
  have hlen : As.length = I.2.2.2.2.2.2.1 := by
    have := jargs_len hn
    rw [hA] at this
    simpa using this
  have hst : st = As.reverse ++ .ref b :: st.drop (I.2.2.2.2.2.2.1 + 1) := by
    have := jargs_split hn
    rw [hA, List.reverse_cons, List.append_assoc] at this
    exact this
  have go : va_Run p l e R s m args below meth c H locs cells slots (jhs σ' - jhs σ) (jsl σ' - jsl σ) (F0 m pc lsA st) (st.drop (I.2.2.2.2.2.2.1 + 1)) (jPost D cy G (.inl none, σ') (Value.ref b :: As).toArray) (jA G) := by
    rcases id hC.2.2.2.2 with ⟨h, -⟩ | ⟨h, -⟩ | ⟨-, w1, w2, w3, w4, hh⟩ | ⟨-, w1, w2, w3, w4, hh⟩ | ⟨h, -⟩
    · omega
    · omega
    · have hcb := jcallB (mc := jhs σ' - jhs σ) (ms := jsl σ' - jsl σ) hts hC hh w1
      rw [w4] at hcb
      exact va_runI (As := As) (rest := st.drop (I.2.2.2.2.2.2.1 + 1)) ⟨hx, hb, hml, hown, hts⟩ m4 ⟨hcb, w3, hts _ w2⟩ hpre rfl hlen hv.2.1 hst (lv_room hcat) hd ⟨by omega, by omega⟩
    · have hw : jws I = Cond.code I.2.2.1 I.2.2.2.1 I.2.2.2.2.1 none :: lw_W := by rw [jwsPlain hh, w4]
      exact va_runIN (host := RX6) (bytes := I.2.2.2.1) (maxL := I.2.2.2.2.1) (As := As) (rest := st.drop (I.2.2.2.2.2.2.1 + 1)) ⟨hx, hb, hml, hown, hts⟩ m4 ⟨va_cnB I.2.2.2.2.2.2.1 hts (jgoodIn (jwsGood hC.1)) hw rfl rfl (hB.2.2.1.1 _ w1) (hts _ hC.2.1) hC.2.2.1 hC.2.2.2.1, w3, hts _ w2⟩ hpre rfl hlen hv.2.1 hst (lv_room hcat) hd ⟨by omega, by omega⟩
    · omega
  intro T hT X
  obtain ⟨v, st₀, t, T', L, h0, X', hL, e1, e2, ⟨v', hrv, hvv, hH', hF⟩, st1⟩ := go T hT X
  have hvv : v = v' := Outcome.returned.inj hvv
  have hrv : none = v' := Sum.inl.inj hrv
  subst hrv
  subst hvv
  obtain ⟨-, -, k3⟩ := vx_keep h0 e1 hS (fun q _ h => h) (fun q h => h) hL hF
  rw [← e1] at hH'
  obtain ⟨t2, a1, b1⟩ := kv lsA T'.heap (locs ++ L) (cells + (jhs σ' - jhs σ)) (slots + (jsl σ' - jsl σ)) hv hH' k3 (by omega) (by omega) T' rfl X'
  exact ⟨t2, st1 t2 a1, b1⟩
theorem js_objInit {i a : Nat} (C : jCx p s m args c M D cy G own nL hs0) (hd : decode M.1 pc = .ok (.invokespecial i, 3)) (hO : Cond.methodLink own i objectInit ∈ lw_W ∧ Cond.instanceMethod objectInit ∈ lw_W ∧ Cond.code objectInit ⟨#[0xb1]⟩ 1 none ∈ lw_W ∧ 1 ≤ R.frames ∧ 22 ≤ R.locals) (hcat : jcat rest ≤ 8)
    (k : jGo p l e R s m args below meth c Q G D cy nL hs0 sl0 (pc + 3) ls rest σ) : jGo p l e R s m args below meth c Q G D cy nL hs0 sl0 pc ls (.ref a :: rest) σ := by
  intro lsA H locs cells slots hv hH hS hc hs
  obtain ⟨hx, hb, hml, hown, hts, hB, h0⟩ := C
  obtain ⟨o1, o2, o3, o4, o5⟩ := hO
  have hcat : (rest.map fun v => v.category).sum ≤ 8 := hcat
  refine W.objInit hx hb hown (hts _ o1) (hts _ o2) (hts _ o3) rfl (by rw [hml]; exact hv.2.1) rfl hd o4 (by show 2 * 0 + _ + 12 ≤ _; omega) ?_
  exact k lsA H locs cells slots hv hH hS hc hs
theorem js_getstatic {i w : Nat} (C : jCx p s m args c M D cy G own nL hs0) (hd : decode M.1 pc = .ok (.getstatic i, 3)) (hw : Cond.fieldLink own i RX6 (if w = 0 then "LEAST_VALUES" else "GREATEST_VALUES") "[I" ∈ lw_W)
    (k : jGo p l e R s m args below meth c Q G D cy nL hs0 sl0 (pc + 3) ls (.ref (if w = 0 then G.2.1 else G.2.2.1) :: st) σ) : jGo p l e R s m args below meth c Q G D cy nL hs0 sl0 pc ls st σ := by
  intro lsA H locs cells slots hv hH hS hc hs
  obtain ⟨hx, hb, hml, hown, hts, hB, h0⟩ := C
  obtain ⟨z1, z2⟩ := hB.2.2.2.2.2.1
  by_cases h : w = 0
  · rw [if_pos h] at hw k
    exact va_gets hx hb z1 hS hown (hts _ hw) (fun _ h => h) hd (k lsA H locs cells slots hv hH hS hc hs)
  · rw [if_neg h] at hw k
    exact va_gets hx hb z2 hS hown (hts _ hw) (fun _ h => h) hd (k lsA H locs cells slots hv hH hS hc hs)
end JC
end
section
section JM
variable {p : Program} {l : Launch} {e : Env} {R : Room} {s : State} {m : MethodId} {args : Array Value} {below : List Frame} {meth : Method} {c : Code} {Q : State → Prop} {G : jgG} {M : jgM} {D : va_G} {cy : Nat → ClassId} {own : String} {nL hs0 sl0 : Nat} {Φ : jgR → Prop}
/-- the heap only grows -/
theorem jr_up {pc : Nat} {ls : List (Option Value)} {st : List Value} {σ : jgS} {ins : Instr} {len : Nat} (hpo : ∀ q ∈ M.2.1, jPok l D cy G own R M.2.2.2.2.2 q) (h : jgOp G M pc ins len ls st σ (fun _ _ _ σ' => ∃ r, Φ r ∧ jhs σ' ≤ jhs r.2 ∧ jsl σ' ≤ jsl r.2) Φ) : ∃ r, Φ r ∧ jhs σ ≤ jhs r.2 ∧ jsl σ ≤ jsl r.2 := by
  have call : ∀ (I : jgI) (S : jgSpec) (i : Nat) (As : List Value) (r : jgR) (rest : List Value), jgfind M.2.1 i = some (jpC I S) → S As σ r → jcall M pc ls rest (fun _ _ _ σ' => ∃ r, Φ r ∧ jhs σ' ≤ jhs r.2 ∧ jsl σ' ≤ jsl r.2) Φ r → ∃ r, Φ r ∧ jhs σ ≤ jhs r.2 ∧ jsl σ ≤ jsl r.2 := by
    intro I S i As r rest hf hS hk
    obtain ⟨m1, m2, -⟩ := (hpo _ (jgfind_mem hf)).2 _ _ _ hS
    unfold jcall at hk
    split at hk
    · obtain ⟨r2, h1, h2, h3⟩ := hk
      exact ⟨r2, h1, by omega, by omega⟩
    · split at hk
      · obtain ⟨r2, h1, h2, h3⟩ := hk 0
        exact ⟨r2, h1, by omega, by omega⟩
      · exact ⟨_, hk, m1, m2⟩
  have tgt : ∀ off, jtgt pc off (fun _ => ∃ r, Φ r ∧ jhs σ ≤ jhs r.2 ∧ jsl σ ≤ jsl r.2) → ∃ r, Φ r ∧ jhs σ ≤ jhs r.2 ∧ jsl σ ≤ jsl r.2 := fun off h => by
    obtain ⟨_, -, h⟩ := h
    exact h
  unfold jgOp at h
  split at h
  case h_46 =>
    obtain ⟨-, x, y, rest, -, t, -, h1, h2⟩ := h
    exact (Classical.em _).elim h1 h2
  case h_47 =>
    obtain ⟨-, x, rest, -, t, -, h1, h2⟩ := h
    exact (Classical.em _).elim h1 h2
  case h_49 =>
    obtain ⟨x, rest, -, h1, h2⟩ := h
    rcases Classical.em (x.toInt < _ ∨ _ < x.toInt) with h3 | h3
    · exact tgt _ (h1 h3)
    · obtain ⟨off, -, h4⟩ := h2 h3
      exact tgt _ h4
  case h_52 =>
    obtain ⟨-, v, a, rest, ci, j, -, -, -, -, h1 | h1⟩ := h
    · obtain ⟨-, x, -, h2⟩ := h1
      exact h2
    · obtain ⟨-, q, -, -, h2⟩ := h1
      exact h2
  case h_59 =>
    obtain ⟨-, n, rest, -, -, -, -, -, r, h1, h2, h3⟩ := h
    exact ⟨r, h1, Nat.le_of_succ_le h2, Nat.le_trans (Nat.le_add_right _ _) h3⟩
  case h_60 =>
    obtain ⟨-, n, rest, j, -, -, -, -, -, -, r, h1, h2, h3⟩ := h
    exact ⟨r, h1, Nat.le_of_succ_le h2, Nat.le_trans (Nat.le_add_right _ _) h3⟩
  case h_61 =>
    obtain ⟨-, h⟩ := h
    split at h
    · exact ⟨_, h.1, Nat.le_succ _, Nat.le_add_right _ _⟩
    · obtain ⟨ci, -, -, -, r, h1, h2, h3⟩ := h
      exact ⟨r, h1, Nat.le_of_succ_le h2, Nat.le_trans (Nat.le_add_right _ _) h3⟩
  case h_66 =>
    obtain ⟨-, I, S, b, As, h1, -, -, -, -, -, -, r, h2, h3⟩ := h
    exact call I S _ _ r _ h1 h2 h3
  case h_67 =>
    obtain ⟨-, h1 | h1⟩ := h
    · obtain ⟨-, a, rest, -, -, h2⟩ := h1
      exact h2
    · obtain ⟨I, S, b, As, h1, -, -, -, -, σ', h2, r, h3, h4, h5⟩ := h1
      obtain ⟨m1, m2, -⟩ := (hpo _ (jgfind_mem h1)).2 _ _ _ h2
      exact ⟨r, h3, Nat.le_trans m1 h4, Nat.le_trans m2 h5⟩
  case h_68 =>
    obtain ⟨-, I, S, h1, -, -, -, r, h2, h3⟩ := h
    exact call I S _ _ r _ h1 h2 h3
  case h_70 =>
    obtain ⟨-, x, ty, -, -, -, h1⟩ := h
    exact ⟨_, h1, Nat.le_refl _, Nat.le_refl _⟩
  case h_71 =>
    obtain ⟨-, x, -, -, h1⟩ := h
    exact ⟨_, h1, Nat.le_refl _, Nat.le_refl _⟩
  case h_72 =>
    obtain ⟨-, x, -, -, h1⟩ := h
    exact ⟨_, h1, Nat.le_refl _, Nat.le_refl _⟩
  case h_73 =>
    obtain ⟨-, -, -, h1⟩ := h
    exact ⟨_, h1, Nat.le_refl _, Nat.le_refl _⟩
  all_goals first | exact h.elim | (repeat (first | exact h | exact tgt _ h | obtain ⟨_, h⟩ := h))
/-- how a method's answer is given -/
def jretok (M : jgM) (pc : Nat) (v : Option Value) : Prop :=
  (∃ x ty, v = some (.int x) ∧ M.2.2.2.2.1 = some ty ∧ narrow ty (.int x) = .int x ∧ decode M.1 pc = .ok (.ireturn, 1)) ∨ (∃ x, v = some (.long x) ∧ M.2.2.2.2.1 = some .long ∧ decode M.1 pc = .ok (.lreturn, 1)) ∨ (∃ x, v = some (.double x) ∧ M.2.2.2.2.1 = some .double ∧ decode M.1 pc = .ok (.dreturn, 1)) ∨ (v = none ∧ M.2.2.2.2.1 = none ∧ decode M.1 pc = .ok (.return_, 1))
set_option maxHeartbeats 4000000 in
theorem jr_sound (C : jCx p s m args c M D cy G own nL hs0) (hpo : ∀ q ∈ M.2.1, jPok l D cy G own R M.2.2.2.2.2 q) (hwI : Cond.arrayClass .int ∈ lw_W) (hin : M.2.2.2.2.2 = true → meth.name = "<init>")
    (hΦ : ∀ r, Φ r → jhs r.2 ≤ hs0 + R.cells ∧ jsl r.2 ≤ sl0 + R.slots)
    (hret : ∀ (pc : Nat) (ls : List (Option Value)) (σ : jgS) (_ : Unit) (v : Option Value), Φ (.inl v, σ) → jretok M pc v → jGo p l e R s m args below meth c Q G D cy nL hs0 sl0 pc ls v.toList σ)
    (hthrow : ∀ (pc : Nat) (E : String) (ls : List (Option Value)) (st : List Value) (σ : jgS), jgx M.2.2.1 pc = some E → Φ (.inr E, jwh σ 6) → jcat st ≤ 8 → jGo p l e R s m args below meth c Q G D cy nL hs0 sl0 pc ls st σ)
    (hout : ∀ (pc : Nat) (ls : List (Option Value)) (rest : List Value) (E : String) (σ : jgS), jghd M.2.2.2.1 pc E = none → Φ (.inr E, σ) → jGoX p l e R s m args below meth c Q G D cy nL hs0 sl0 pc ls rest E σ)
    (hcatch : ∀ (pc t : Nat) (ls : List (Option Value)) (rest : List Value) (E : String) (σ : jgS), jghd M.2.2.2.1 pc E = some t → (∀ q : Nat, jGo p l e R s m args below meth c Q G D cy nL hs0 sl0 t ls [.ref q] σ) → jGoX p l e R s m args below meth c Q G D cy nL hs0 sl0 pc ls rest E σ)
    {pc : Nat} {ls : List (Option Value)} {st : List Value} {σ : jgS} (hJ : Jr G M pc ls st σ Φ) : jGo p l e R s m args below meth c Q G D cy nL hs0 sl0 pc ls st σ := by
  refine (hJ (fun pc ls st σ => (∃ r, Φ r ∧ jhs σ ≤ jhs r.2 ∧ jsl σ ≤ jsl r.2) ∧ jGo p l e R s m args below meth c Q G D cy nL hs0 sl0 pc ls st σ) ?_).2
  clear hJ
  intro pc ls st σ ins len hd h
  refine ⟨jr_up hpo (jgOp_mono (fun _ _ _ _ q => q.1) (fun _ q => q) h), ?_⟩
  have room : ∀ σ' : jgS, (∃ r, Φ r ∧ jhs σ' ≤ jhs r.2 ∧ jsl σ' ≤ jsl r.2) → jhs σ' ≤ hs0 + R.cells ∧ jsl σ' ≤ sl0 + R.slots := fun σ' ⟨r, h1, h2, h3⟩ => ⟨Nat.le_trans h2 (hΦ r h1).1, Nat.le_trans h3 (hΦ r h1).2⟩
  have room0 := room
  have croom : ∀ (r : jgR) (ls : List (Option Value)) (rest : List Value), jcall M pc ls rest (fun pc ls st σ => (∃ r, Φ r ∧ jhs σ ≤ jhs r.2 ∧ jsl σ ≤ jsl r.2) ∧ jGo p l e R s m args below meth c Q G D cy nL hs0 sl0 pc ls st σ) Φ r → jhs r.2 ≤ hs0 + R.cells ∧ jsl r.2 ≤ sl0 + R.slots := by
    intro r ls rest hk
    unfold jcall at hk
    split at hk
    · exact room _ hk.1
    · split at hk
      · exact room _ (hk 0).1
      · exact hΦ (.inr _, r.2) hk
  have cv : ∀ (r : jgR) (ls : List (Option Value)) (rest : List Value), jcall M pc ls rest (fun pc ls st σ => (∃ r, Φ r ∧ jhs σ ≤ jhs r.2 ∧ jsl σ ≤ jsl r.2) ∧ jGo p l e R s m args below meth c Q G D cy nL hs0 sl0 pc ls st σ) Φ r → ∀ v, r.1 = .inl v → jGo p l e R s m args below meth c Q G D cy nL hs0 sl0 (pc + 3) ls (v.toList ++ rest) r.2 := by
    intro r ls rest hk v hv
    unfold jcall at hk
    rw [hv] at hk
    exact hk.2
  have cx : ∀ (r : jgR) (ls : List (Option Value)) (rest : List Value), jcall M pc ls rest (fun pc ls st σ => (∃ r, Φ r ∧ jhs σ ≤ jhs r.2 ∧ jsl σ ≤ jsl r.2) ∧ jGo p l e R s m args below meth c Q G D cy nL hs0 sl0 pc ls st σ) Φ r → ∀ E, r.1 = .inr E → jGoX p l e R s m args below meth c Q G D cy nL hs0 sl0 pc ls rest E r.2 := by
    intro r ls rest hk E hv
    unfold jcall at hk
    rw [hv] at hk
    dsimp only at hk
    split at hk
    · rename_i t ht
      exact hcatch pc t ls rest E _ ht (fun q => (hk q).2)
    · rename_i ht
      exact hout pc ls rest E _ ht hk
  unfold jgOp at h
  split at h
  case h_1 =>
    obtain ⟨rfl, x, h1, h2⟩ := h
    exact js_aload_n C hd h1 h2.2
  case h_2 =>
    obtain ⟨rfl, x, h1, h2⟩ := h
    exact js_aload C hd h1 h2.2
  case h_3 =>
    obtain ⟨rfl, x, h1, h2⟩ := h
    exact js_iload_n C hd h1 h2.2
  case h_4 =>
    obtain ⟨rfl, x, h1, h2⟩ := h
    exact js_iload C hd h1 h2.2
  case h_5 =>
    obtain ⟨rfl, x, h1, h2⟩ := h
    exact js_lload_n C hd h1 h2.2
  case h_6 =>
    obtain ⟨rfl, x, h1, h2⟩ := h
    exact js_lload C hd h1 h2.2
  case h_7 =>
    obtain ⟨rfl, x, h1, h2⟩ := h
    exact js_dload_n C hd h1 h2.2
  case h_8 =>
    obtain ⟨rfl, x, h1, h2⟩ := h
    exact js_dload C hd h1 h2.2
  case h_9 =>
    obtain ⟨rfl, -, h2⟩ := h
    exact fun lsA H locs cells slots hv hH hS hc hs => lv_iconst C.1 C.2.1 hd rfl (h2 lsA H locs cells slots hv hH hS hc hs)
  case h_10 =>
    obtain ⟨rfl, -, h2⟩ := h
    exact fun lsA H locs cells slots hv hH hS hc hs => lv_bipush C.1 C.2.1 hd rfl (h2 lsA H locs cells slots hv hH hS hc hs)
  case h_11 =>
    obtain ⟨rfl, -, h2⟩ := h
    exact fun lsA H locs cells slots hv hH hS hc hs => lv_sipush C.1 C.2.1 hd rfl (h2 lsA H locs cells slots hv hH hS hc hs)
  case h_12 =>
    obtain ⟨rfl, -, h2⟩ := h
    exact fun lsA H locs cells slots hv hH hS hc hs => lv_lconst C.1 C.2.1 hd rfl (h2 lsA H locs cells slots hv hH hS hc hs)
  case h_13 =>
    obtain ⟨rfl, -, h2⟩ := h
    rename_i n
    rcases (show n = 0 ∨ n = 1 by omega) with rfl | rfl
    · exact fun lsA H locs cells slots hv hH hS hc hs => lv_dconst0 C.1 C.2.1 hd (h2 lsA H locs cells slots hv hH hS hc hs)
    · exact fun lsA H locs cells slots hv hH hS hc hs => lv_dconst1 C.1 C.2.1 hd (h2 lsA H locs cells slots hv hH hS hc hs)
  case h_14 =>
    obtain ⟨rfl, x, h1, -, h2⟩ := h
    obtain ⟨x', ex, hw⟩ := hpo _ (jgfind_mem h1)
    cases ex
    exact fun lsA H locs cells slots hv hH hS hc hs => lv_ldc C.1 C.2.1 C.2.2.2.1 (C.2.2.2.2.1 _ hw) hd (h2 lsA H locs cells slots hv hH hS hc hs)
  case h_15 =>
    obtain ⟨rfl, x, rest, rfl, h1, h3, h2⟩ := h
    exact js_istore_n C hd h1 h3 h2.2
  case h_16 =>
    obtain ⟨rfl, x, rest, rfl, h1, h3, h2⟩ := h
    exact js_istore C hd h1 h3 h2.2
  case h_17 =>
    obtain ⟨rfl, x, rest, rfl, h1, h3, h2⟩ := h
    exact js_astore_n C hd h1 h3 h2.2
  case h_18 =>
    obtain ⟨rfl, x, rest, rfl, h1, h3, h2⟩ := h
    exact js_astore C hd h1 h3 h2.2
  case h_19 =>
    obtain ⟨rfl, x, rest, rfl, h1, h3, h2⟩ := h
    exact js_lstore_n C hd h1 h3 h2.2
  case h_20 =>
    obtain ⟨rfl, x, rest, rfl, h1, h3, h2⟩ := h
    exact js_lstore C hd h1 h3 h2.2
  case h_21 =>
    obtain ⟨rfl, x, rest, rfl, h1, h3, h2⟩ := h
    exact js_dstore_n C hd h1 h3 h2.2
  case h_22 =>
    obtain ⟨rfl, x, rest, rfl, h1, h3, h2⟩ := h
    exact js_dstore C hd h1 h3 h2.2
  case h_23 =>
    obtain ⟨rfl, x, h1, h3, h4, h2⟩ := h
    exact js_iinc C hd h1 h3 h4 h2.2
  case h_24 =>
    obtain ⟨rfl, x, y, rest, rfl, -, h2⟩ := h
    exact fun lsA H locs cells slots hv hH hS hc hs => lv_iadd C.1 C.2.1 hd (h2 lsA H locs cells slots hv hH hS hc hs)
  case h_25 =>
    obtain ⟨rfl, x, y, rest, rfl, -, h2⟩ := h
    exact fun lsA H locs cells slots hv hH hS hc hs => lv_isub C.1 C.2.1 hd (h2 lsA H locs cells slots hv hH hS hc hs)
  case h_26 =>
    obtain ⟨rfl, x, y, rest, rfl, -, h2⟩ := h
    exact fun lsA H locs cells slots hv hH hS hc hs => lv_imul C.1 C.2.1 hd (h2 lsA H locs cells slots hv hH hS hc hs)
  case h_27 =>
    obtain ⟨rfl, x, y, rest, rfl, h1, -, h2⟩ := h
    exact fun lsA H locs cells slots hv hH hS hc hs => lv_irem C.1 C.2.1 hd h1 (h2 lsA H locs cells slots hv hH hS hc hs)
  case h_28 =>
    obtain ⟨rfl, x, y, rest, rfl, -, h2⟩ := h
    exact fun lsA H locs cells slots hv hH hS hc hs => lv_iand C.1 C.2.1 hd (h2 lsA H locs cells slots hv hH hS hc hs)
  case h_29 =>
    obtain ⟨rfl, x, y, rest, rfl, -, h2⟩ := h
    exact fun lsA H locs cells slots hv hH hS hc hs => lv_ior C.1 C.2.1 hd (h2 lsA H locs cells slots hv hH hS hc hs)
  case h_30 =>
    obtain ⟨rfl, x, y, rest, rfl, -, h2⟩ := h
    exact fun lsA H locs cells slots hv hH hS hc hs => lv_ishl C.1 C.2.1 hd (h2 lsA H locs cells slots hv hH hS hc hs)
  case h_31 =>
    obtain ⟨rfl, x, y, rest, rfl, -, h2⟩ := h
    exact fun lsA H locs cells slots hv hH hS hc hs => lv_ishr C.1 C.2.1 hd (h2 lsA H locs cells slots hv hH hS hc hs)
  case h_32 =>
    obtain ⟨rfl, x, y, rest, rfl, -, h2⟩ := h
    exact fun lsA H locs cells slots hv hH hS hc hs => lv_ladd C.1 C.2.1 hd (h2 lsA H locs cells slots hv hH hS hc hs)
  case h_33 =>
    obtain ⟨rfl, x, y, rest, rfl, -, h2⟩ := h
    exact fun lsA H locs cells slots hv hH hS hc hs => lv_lsub C.1 C.2.1 hd (h2 lsA H locs cells slots hv hH hS hc hs)
  case h_34 =>
    obtain ⟨rfl, x, y, rest, rfl, -, h2⟩ := h
    exact fun lsA H locs cells slots hv hH hS hc hs => lv_lmul C.1 C.2.1 hd (h2 lsA H locs cells slots hv hH hS hc hs)
  case h_35 =>
    obtain ⟨rfl, x, y, rest, rfl, h1, -, h2⟩ := h
    exact fun lsA H locs cells slots hv hH hS hc hs => lv_lrem C.1 C.2.1 hd h1 (h2 lsA H locs cells slots hv hH hS hc hs)
  case h_36 =>
    obtain ⟨rfl, x, y, rest, rfl, -, h2⟩ := h
    exact fun lsA H locs cells slots hv hH hS hc hs => lv_lshl C.1 C.2.1 hd rfl (h2 lsA H locs cells slots hv hH hS hc hs)
  case h_37 =>
    obtain ⟨rfl, x, rest, rfl, -, h2⟩ := h
    exact fun lsA H locs cells slots hv hH hS hc hs => lv_i2l C.1 C.2.1 hd rfl (h2 lsA H locs cells slots hv hH hS hc hs)
  case h_38 =>
    obtain ⟨rfl, x, rest, rfl, -, h2⟩ := h
    exact fun lsA H locs cells slots hv hH hS hc hs => lv_i2d C.1 C.2.1 hd (h2 lsA H locs cells slots hv hH hS hc hs)
  case h_39 =>
    obtain ⟨rfl, x, rest, rfl, -, h2⟩ := h
    exact fun lsA H locs cells slots hv hH hS hc hs => lv_d2l C.1 C.2.1 hd (h2 lsA H locs cells slots hv hH hS hc hs)
  case h_40 =>
    obtain ⟨rfl, x, y, rest, rfl, -, h2⟩ := h
    exact fun lsA H locs cells slots hv hH hS hc hs => W.lcmp C.1 C.2.1 hd (h2 lsA H locs cells slots hv hH hS hc hs)
  case h_41 =>
    obtain ⟨rfl, x, y, rest, rfl, -, h2⟩ := h
    exact fun lsA H locs cells slots hv hH hS hc hs => lv_dcmp C.1 C.2.1 hd (h2 lsA H locs cells slots hv hH hS hc hs)
  case h_42 =>
    obtain ⟨rfl, x, y, rest, rfl, h1, -, h2⟩ := h
    exact fun lsA H locs cells slots hv hH hS hc hs => lv_dadd C.1 C.2.1 hd h1 (h2 lsA H locs cells slots hv hH hS hc hs)
  case h_43 =>
    obtain ⟨rfl, x, y, rest, rfl, h1, -, h2⟩ := h
    exact fun lsA H locs cells slots hv hH hS hc hs => lv_dsub C.1 C.2.1 hd h1 (h2 lsA H locs cells slots hv hH hS hc hs)
  case h_44 =>
    obtain ⟨rfl, x, y, rest, rfl, h1, -, h2⟩ := h
    exact fun lsA H locs cells slots hv hH hS hc hs => lv_dmul C.1 C.2.1 hd h1 (h2 lsA H locs cells slots hv hH hS hc hs)
  case h_45 =>
    obtain ⟨rfl, x, y, rest, rfl, h1, -, h2⟩ := h
    exact fun lsA H locs cells slots hv hH hS hc hs => lv_ddiv C.1 C.2.1 hd h1 (h2 lsA H locs cells slots hv hH hS hc hs)
  case h_46 =>
    obtain ⟨rfl, x, y, rest, rfl, t, ht, h1, h2⟩ := h
    exact js_if_icmp C hd ht (fun q => (h1 q).2) (fun q => (h2 q).2)
  case h_47 =>
    obtain ⟨rfl, x, rest, rfl, t, ht, h1, h2⟩ := h
    exact js_ifCond C hd ht (fun q => (h1 q).2) (fun q => (h2 q).2)
  case h_48 =>
    obtain ⟨rfl, t, ht, -, h2⟩ := h
    exact fun lsA H locs cells slots hv hH hS hc hs => lv_goto C.1 C.2.1 hd ht (h2 lsA H locs cells slots hv hH hS hc hs)
  case h_49 =>
    obtain ⟨x, rest, rfl, h1, h2⟩ := h
    rcases Classical.em (x.toInt < _ ∨ _ < x.toInt) with h3 | h3
    · obtain ⟨t, ht, -, h4⟩ := h1 h3
      exact fun lsA H locs cells slots hv hH hS hc hs => lv_tableOut C.1 C.2.1 hd h3 ht (h4 lsA H locs cells slots hv hH hS hc hs)
    · obtain ⟨off, ho, t, ht, -, h4⟩ := h2 h3
      exact fun lsA H locs cells slots hv hH hS hc hs => lv_tableIn C.1 C.2.1 hd (fun q => h3 (Or.inl q)) (fun q => h3 (Or.inr q)) ho ht (h4 lsA H locs cells slots hv hH hS hc hs)
  case h_50 =>
    obtain ⟨hp, x, rest, rfl, t, ht, -, h2⟩ := h
    exact fun lsA H locs cells slots hv hH hS hc hs => lv_lookup C.1 C.2.1 hd hp rfl ht (h2 lsA H locs cells slots hv hH hS hc hs)
  case h_51 =>
    obtain ⟨rfl, a, rest, ci, j, rfl, h1, h3, h4, h2⟩ := h
    obtain ⟨r, w1, w2, w3, w4, w5, -⟩ := hpo _ (jgfind_mem h1)
    exact js_getfield C hd w1 w2 w3 w4 w5 h3 h4 h2.2
  case h_52 =>
    obtain ⟨rfl, v, a, rest, ci, j, rfl, h1, h3, h4, h2⟩ := h
    obtain ⟨r, w1, w2, w3, w4, w5, w6⟩ := hpo _ (jgfind_mem h1)
    rcases h2 with ⟨t1, x, rfl, h2⟩ | ⟨t1, q, rfl, t2, h2⟩
    · exact js_putI C hd w1 w2 w3 w4 w5 h3 h4 t1 h2.2
    · exact js_putR C hd w1 w2 w3 w4 w5 h3 h4 t1 (hin t2) (w6 t2) h2.2
  case h_53 =>
    obtain ⟨rfl, i, a, rest, n, f, rfl, h1, h3, h2⟩ := h
    exact js_iaload C hd h1 h3 h2.2
  case h_54 =>
    obtain ⟨rfl, x, i, a, rest, n, rfl, h1, h3, h4, h2⟩ := h
    exact js_iastore C hd h1 h3 h4 h2.2
  case h_55 =>
    obtain ⟨rfl, v, w, u, rest, rfl, h1, h3, h4, -, h2⟩ := h
    exact fun lsA H locs cells slots hv hH hS hc hs => lv_dup_x2 C.1 C.2.1 hd h1 h3 h4 (h2 lsA H locs cells slots hv hH hS hc hs)
  case h_56 =>
    exact h.elim
  case h_57 =>
    obtain ⟨rfl, i, a, rest, j, n, rfl, h1, h3, h4, h5, h2⟩ := h
    exact js_aaload C hd h1 h3 h4 h5 h2.2
  case h_58 =>
    obtain ⟨rfl, q, i, a, rest, j, n, rfl, h1, h3, h4, h5, h6, h7, h2⟩ := h
    exact js_aastore C hd h1 h3 h4 h5 h6 h7 h2.2
  case h_59 =>
    obtain ⟨rfl, n, rest, rfl, h1, h3, h4, h5, h6, h2⟩ := h
    have hr := room _ h6
    obtain ⟨rfl, h5⟩ := h5
    exact js_newarrayI C hd hwI h1 h3 h4 h5 hr h2
  case h_60 =>
    obtain ⟨rfl, n, rest, j, rfl, h1, h3, h4, h5, h6, h7, h2⟩ := h
    obtain ⟨w1, w2⟩ := hpo _ (jgfind_mem h1)
    exact js_anewarray C hd w1 (w2 _ rfl) h3 h4 h5 h6 (room _ h7) h2
  case h_61 =>
    obtain ⟨rfl, h⟩ := h
    split at h
    · rename_i E hE
      exact hthrow _ E _ _ _ hE h.1 h.2
    · obtain ⟨ci, h1, h3, h4, h5, h2⟩ := h
      obtain ⟨w0, r, w1, w2, w3, w4, w5⟩ := hpo _ (jgfind_mem h1)
      exact js_new C hd w1 w2 w0 w3 w4 w5 h3 h4 (room _ h5) h2
  case h_62 =>
    obtain ⟨rfl, a, rest, n, f, rfl, h1, h2⟩ := h
    exact js_arraylength C hd h1 h2.2
  case h_63 =>
    obtain ⟨rfl, v, rest, rfl, h1, -, h2⟩ := h
    exact fun lsA H locs cells slots hv hH hS hc hs => lv_dup C.1 C.2.1 hd h1 (h2 lsA H locs cells slots hv hH hS hc hs)
  case h_64 =>
    obtain ⟨rfl, v, w, rest, rfl, h1, h3, -, h2⟩ := h
    exact fun lsA H locs cells slots hv hH hS hc hs => lv_dup2_11 C.1 C.2.1 hd h1 h3 (h2 lsA H locs cells slots hv hH hS hc hs)
  case h_65 =>
    obtain ⟨rfl, v, rest, rfl, h1, -, h2⟩ := h
    exact fun lsA H locs cells slots hv hH hS hc hs => lv_pop C.1 C.2.1 hd h1 (h2 lsA H locs cells slots hv hH hS hc hs)
  case h_66 =>
    obtain ⟨rfl, I, S, b, As, h1, h3, h4, h5, h6, h7, h8, r, h9, h2⟩ := h
    obtain ⟨w1, w2⟩ := hpo _ (jgfind_mem h1)
    exact js_virtual C hd w1 w2 h3 h4 h5 h6 h7 h8 h9 (croom _ _ _ h2) (cv _ _ _ h2) (cx _ _ _ h2)
  case h_67 =>
    obtain ⟨rfl, h1 | h1⟩ := h
    · obtain ⟨h1, a, rest, rfl, h3, -, h2⟩ := h1
      exact js_objInit C hd (hpo _ (jgfind_mem h1)) h3 h2
    · obtain ⟨I, S, b, As, h1, h3, h4, h5, h6, σ', h7, h8, h2⟩ := h1
      obtain ⟨w1, w2⟩ := hpo _ (jgfind_mem h1)
      exact js_special C hd w1 w2 h3 h4 h5 h6 h7 (room0 _ h8) h2
  case h_68 =>
    obtain ⟨rfl, I, S, h1, h3, h4, h5, r, h9, h2⟩ := h
    obtain ⟨w1, w2⟩ := hpo _ (jgfind_mem h1)
    exact js_static C hd w1 w2 h3 h4 h5 h9 (croom _ _ _ h2) (cv _ _ _ h2) (cx _ _ _ h2)
  case h_69 =>
    obtain ⟨rfl, w, h1, -, h2⟩ := h
    exact js_getstatic C hd (hpo _ (jgfind_mem h1)) h2
  case h_70 =>
    obtain ⟨rfl, x, ty, rfl, h1, h3, h2⟩ := h
    exact hret _ _ _ () (some (.int x)) h2 (Or.inl ⟨x, ty, rfl, h1, h3, hd⟩)
  case h_71 =>
    obtain ⟨rfl, x, rfl, h1, h2⟩ := h
    exact hret _ _ _ () (some (.long x)) h2 (Or.inr (Or.inl ⟨x, rfl, h1, hd⟩))
  case h_72 =>
    obtain ⟨rfl, x, rfl, h1, h2⟩ := h
    exact hret _ _ _ () (some (.double x)) h2 (Or.inr (Or.inr (Or.inl ⟨x, rfl, h1, hd⟩)))
  case h_73 =>
    obtain ⟨rfl, rfl, h1, h2⟩ := h
    exact hret _ _ _ () none h2 (Or.inr (Or.inr (Or.inr ⟨rfl, h1, hd⟩)))
  case h_74 =>
    exact h.elim
end JM
end
section
/-! a method's contract out of its run in the small machine -/
def jent : List Value → List (Option Value)
  | [] => []
  | v :: l => if v.category = 2 then some v :: none :: jent l else some v :: jent l
def jentry (As : List Value) (n : Nat) : List (Option Value) := jent As ++ List.replicate (n - (jent As).length) none
theorem jent_len (As : List Value) : (jent As).length = (lg_sl As).length := by
  induction As with
  | nil => rfl
  | cons v l ih =>
    have e : lg_sl (v :: l) = (if v.category = 2 then [Slot.val v, Slot.second] else [Slot.val v]) ++ lg_sl l := by simp [lg_sl]
    rw [e, List.length_append, ← ih]
    simp only [jent]
    split <;> simp <;> omega
theorem jpairs_none (k n : Nat) : jpairs k (List.replicate n none) = [] := by
  induction n generalizing k with
  | zero => rfl
  | succ n ih => exact ih (k + 1)
theorem jent_args : ∀ (As : List Value) (k n : Nat), jpairs k (jent As ++ List.replicate n none) = lv_args k As
  | [], k, n => jpairs_none k n
  | v :: l, k, n => by
    unfold jent lv_args
    split
    · rename_i h
      show (k, v) :: jpairs (k + 1 + 1) (jent l ++ List.replicate n none) = _
      rw [jent_args l]
    · rename_i h
      show (k, v) :: jpairs (k + 1) (jent l ++ List.replicate n none) = _
      rw [jent_args l]
theorem jentry_lv {As : List Value} {n : Nat} (h : (jent As).length ≤ n) : jlv ((lg_sl As ++ List.replicate (n - (lg_sl As).length) Slot.unset).toArray) n (jentry As n) := by
  refine ⟨?_, ?_⟩
  · unfold jentry
    rw [List.length_append, List.length_replicate]
    omega
  · unfold jentry
    rw [jent_args]
    exact lv_entry As (by rw [← jent_len]; exact h)
/-- the names of the exceptions' own superclasses -/
def jxn : List String := ["java/lang/RuntimeException", "java/lang/Exception"]
/-- a place at which a method of SkipRows makes and throws an exception -/
def jXok (M : jgM) (q : Nat × String) : Prop := ∃ (ik is ic : Nat) (text : String), (is, text) ∈ jstrs ∧ Bundle.fit q.2 = true ∧ (Cond.classLink RX6 ik q.2 ∈ lw_A ∧ Cond.initialized q.2 ∈ lw_A ∧ ∀ w ∈ vx_atS RX6 ic q.2 jxn, w ∈ lw_A) ∧
  ((decode M.1 q.1 = .ok (.new ik, 3) ∧ decode M.1 (q.1 + 3) = .ok (.dup, 1) ∧ decode M.1 (q.1 + 4) = .ok (.ldc is, 2) ∧ decode M.1 (q.1 + 6) = .ok (.invokespecial ic, 3) ∧ decode M.1 (q.1 + 9) = .ok (.athrow, 1)) ∨
   (decode M.1 q.1 = .ok (.new ik, 3) ∧ decode M.1 (q.1 + 3) = .ok (.dup, 1) ∧ decode M.1 (q.1 + 4) = .ok (.ldc_w is, 3) ∧ decode M.1 (q.1 + 7) = .ok (.invokespecial ic, 3) ∧ decode M.1 (q.1 + 10) = .ok (.athrow, 1)))
theorem jgx_mem : ∀ {ex : List (Nat × String)} {i : Nat} {E : String}, jgx ex i = some E → (i, E) ∈ ex
  | q :: l, i, x, h => by
    unfold jgx at h
    split at h
    · rename_i hq
      cases h
      rw [← hq]
      exact List.mem_cons_self
    · exact List.mem_cons_of_mem _ (jgx_mem h)
theorem lw_A_face {w : Cond} (h : w ∈ lw_A) : jface w = true := (List.mem_filter.mp h).2
theorem jA_use {D : va_G} {cy : Nat → ClassId} {G : jgG} {s : State} (hB : jB D cy G s) {w : Cond} (h : w ∈ lw_A) (a : Array Value) : w.before a s = true := by
  have h1 := lw_A_face h
  simp only [jface, Bool.and_eq_true] at h1
  exact va_Nw.use h1.1 (hB.2.1 w h)
theorem jA_ot {w : Cond} (h : w ∈ lw_A) : vx_ot w = true := by
  have h1 := lw_A_face h
  simp only [jface, Bool.and_eq_true] at h1
  simp [vx_ot, h1.1]
section JT
variable {p : Program} {l : Launch} {e : Env} {R : Room} {s : State} {m : MethodId} {args : Array Value} {below : List Frame} {meth : Method} {c : Code} {G : jgG} {M : jgM} {D : va_G} {cy : Nat → ClassId} {own : String} {nL hs0 sl0 : Nat}
theorem js_throw {pc : Nat} {ls : List (Option Value)} {st : List Value} {σ : jgS} {E : String} {r : jgR} {mc ms : Nat} (C : jCx p s m args c M D cy G RX6 nL hs0) (hl : l.stackTraces = false) (hx : jXok M (pc, E)) (hcat : jcat st ≤ 8) (htab : ∀ x ∈ c.exceptionTable.toList, False) (hlocks : meth.locks = false) (hR1 : 6 ≤ R.frames) (hR2 : 90 ≤ R.locals) (hr : r = (.inr E, jwh σ 6)) (hcells : R.cells = mc) (hslots : R.slots = ms) (hmc : jhs σ + 1 ≤ hs0 + mc) (hms : jsl σ + 6 ≤ sl0 + ms) :
    jGo p l e R s m args below meth c (vx_MQ below (jPost D cy G r) (jX D cy G r) args s mc ms (jA G)) G D cy nL hs0 sl0 pc ls st σ := by
  subst hr
  intro lsA H locs cells slots hv hH hS hc hs
  obtain ⟨hx0, hb, hml, hown, hts, hB, h0⟩ := C
  obtain ⟨ik, is, ic, text, t1, t2, ⟨t3, t4, t5⟩, t6⟩ := hx
  obtain ⟨sa, hstr⟩ := hB.2.2.2.2.2.2.2.1 _ t1
  obtain ⟨z1, z2⟩ := hB.2.2.2.2.1
  have hnames : ∀ n ∈ jxn, Bundle.fit n = true := by decide +kernel
  have hat : ∀ w ∈ vx_atS RX6 ic E jxn, w.before args s = true := fun w hw => jA_use hB (t5 w hw) args
  have hgood : ∀ w ∈ Cond.classLink RX6 ik E :: Cond.initialized E :: vx_atS RX6 ic E jxn, vx_ot w = true := by
    intro w hw
    rcases List.mem_cons.mp hw with rfl | hw
    · exact jA_ot t3
    · rcases List.mem_cons.mp hw with rfl | hw
      · exact jA_ot t4
      · exact jA_ot (t5 w hw)
  have hxc : ∀ t : State, s.vm.Alike t.vm → H.size ≤ t.heap.size → (∀ q : Nat, q < H.size → t.heap[q]? = H[q]?) → jX D cy G (.inr E, jwh σ 6) E s t := by
    intro t _ g1 g2
    obtain ⟨a1, a2, a3⟩ := hH
    refine ⟨rfl, ⟨fun k q hk => (a1 k q hk).kept (g2 q.1 (a1 k q hk).lt), a2, Nat.le_trans a3 g1⟩, Nat.le_trans hS.1 g1, fun q h1 h2 => (g2 q (Nat.lt_of_lt_of_le h1 hS.1)).trans (hS.2.1 q h1 h2)⟩
  have hcat : (st.map fun v => v.category).sum ≤ 8 := hcat
  have hn : jxn.length = 2 := rfl
  rcases t6 with ⟨d0, d3, d4, d6, d9⟩ | ⟨d0, d3, d4, d6, d9⟩
  · exact vx_throwS hx0 hb hl hown t2 hnames (jA_use hB t3 args) (jA_use hB t4 args) hstr hat hgood z1 z2 hS (by rw [hml]; exact hv.2.1) d0 d3 d4 d6 d9 (fun x hx => (htab x hx).elim) (by omega) (by omega) (by omega) (by omega) hlocks hxc hS.2.2 (by omega) (by omega)
  · exact vx_throwSW hx0 hb hl hown t2 hnames (jA_use hB t3 args) (jA_use hB t4 args) hstr hat hgood z1 z2 hS (by rw [hml]; exact hv.2.1) d0 d3 d4 d6 d9 (fun x hx => (htab x hx).elim) (by omega) (by omega) (by omega) (by omega) hlocks hxc hS.2.2 (by omega) (by omega)
theorem js_return {pc : Nat} {ls : List (Option Value)} {σ : jgS} {v : Option Value} {mc ms : Nat} (C : jCx p s m args c M D cy G own nL hs0) (hok : jretok M pc v) (hr : meth.sig.returnType = M.2.2.2.2.1) (hlocks : meth.locks = false) (hmc : jhs σ ≤ hs0 + mc) (hms : jsl σ ≤ sl0 + ms) :
    jGo p l e R s m args below meth c (vx_MQ below (jPost D cy G (.inl v, σ)) (jX D cy G (.inl v, σ)) args s mc ms (jA G)) G D cy nL hs0 sl0 pc ls v.toList σ := by
  intro lsA H locs cells slots hv hH hS hc hs
  obtain ⟨hx, hb, hml, hown, hts, hB, h0⟩ := C
  refine W.widen (k := mc) (n := ms) (by omega) (by omega) (vx_ret ?_)
  have hq : ∀ t : State, t.heap = H → s.WarmedH t.vm → jPost D cy G (.inl v, σ) args s (.returned v) t := fun t ht _ => ⟨v, rfl, rfl, by rw [ht]; exact hH, hS.F ht⟩
  rcases hok with ⟨x, ty, rfl, h1, h2, h3⟩ | ⟨x, rfl, h1, h3⟩ | ⟨x, rfl, h1, h3⟩ | ⟨rfl, h1, h3⟩
  · exact W.zret (v := x) hx hb (hr.trans h1) h2 hq hS.2.2 h3
  · exact W.lret hx hb (hr.trans h1) hq hS.2.2 h3
  · exact W.dret hx hb (hr.trans h1) hq hS.2.2 h3
  · exact W.vret hx hb (hr.trans h1) hq hS.2.2 h3
end JT
/-- a plain method's contract: its body, run in the small machine, comes to every end that its specification allows -/
theorem jr_met {l : Launch} (hl : l.stackTraces = false) {D : va_G} {cy : Nat → ClassId} {G : jgG} (M : jgM) (I : jgI) (S : jgSpec) (own : String) (hown : own = I.2.2.1.cls) (hy : plainName I.2.2.1.cls = true) (hbytes : M.1 = I.2.2.2.1) (hret : M.2.2.2.2.1 = I.2.2.2.2.2.1) (hhh : I.2.2.2.2.2.2.2.2.2 = []) (hM : M.2.2.2.1 = []) (hinit : M.2.2.2.2.2 = true → I.2.2.1.name = "<init>")
    (hwI : Cond.arrayClass .int ∈ lw_W)
    (hpo : ∀ (R : Room), R.frames = I.2.2.2.2.2.2.2.1 → R.locals = I.2.2.2.2.2.2.2.2.1 → ∀ q ∈ M.2.1, jPok l D cy G own R M.2.2.2.2.2 q)
    (hex : M.2.2.1 ≠ [] → own = RX6 ∧ 6 ≤ I.2.2.2.2.2.2.2.1 ∧ 90 ≤ I.2.2.2.2.2.2.2.2.1) (hXok : ∀ q ∈ M.2.2.1, jXok M q)
    (hS : ∀ (As : List Value) (σ : jgS) (r : jgR), S As σ r → jhs σ ≤ jhs r.2 ∧ jsl σ ≤ jsl r.2 ∧ (jent As).length ≤ I.2.2.2.2.1 ∧ Jr G M 0 (jentry As I.2.2.2.2.1) [] σ (fun r' => r' = r)) : jMet l D cy G I S := by
  intro As σ r hr
  obtain ⟨m1, m2, m3, hJ⟩ := hS As σ r hr
  refine ⟨m1, m2, ?_⟩
  refine vx_ofW (cc := I.2.2.2.1) (maxL := I.2.2.2.2.1) (ret := I.2.2.2.2.2.1) hy (jwsPlain hhh) ?_
  intro p e s m args below meth c s₁ B hml htab hv
  obtain ⟨rfl, hB, hH, hHb⟩ := hv
  have hts0 := atoms_spec (ws := jws I) B.pre
  have hts : ∀ w ∈ lw_W, w.before As.toArray s = true := fun w h => hts0 w (List.mem_cons_of_mem _ h)
  have hfc : s.vm.findClass own = some m.cls := by rw [hown]; exact findClass_of_methodNamed B.named
  have C : jCx p s m As.toArray c M D cy G own I.2.2.2.2.1 (jhs σ) := ⟨B.exec, B.bytes.trans hbytes.symm, hml, hfc, hts, hB, hHb⟩
  have hlocks := B.notSynchronized
  have hrt : meth.sig.returnType = M.2.2.2.2.1 := B.returns.trans hret.symm
  rw [lg_entry_eq]
  refine jr_sound (l := l) (own := own) (M := M) (nL := I.2.2.2.2.1) (hs0 := jhs σ) (sl0 := jsl σ) (Φ := fun r' => r' = r) C (hpo _ rfl rfl) hwI (fun h => ?_) (fun r' h => ?_) (fun pc ls σ' _ v h hok => ?_) (fun pc E ls st σ' hE h hcat => ?_) (fun pc ls rest E σ' hE h => ?_) (fun pc t ls rest E σ' hE h => ?_) hJ _ s.heap [] 0 0 (jentry_lv m3) hH va_S.rf (Nat.add_zero _).symm (Nat.add_zero _).symm
  · exact (name_of_methodNamed B.named B.method).1.trans (hinit h)
  · subst h
    show jhs r'.2 ≤ jhs σ + (jhs r'.2 - jhs σ) ∧ jsl r'.2 ≤ jsl σ + (jsl r'.2 - jsl σ)
    omega
  · subst h
    exact js_return C hok hrt hlocks (by show jhs σ' ≤ jhs σ + (jhs σ' - jhs σ); omega) (by show jsl σ' ≤ jsl σ + (jsl σ' - jsl σ); omega)
  · have hne : M.2.2.1 ≠ [] := fun q => by rw [q] at hE; cases hE
    obtain ⟨e1, e2, e3⟩ := hex hne
    subst h
    rw [e1] at C
    exact js_throw C hl (hXok _ (jgx_mem hE)) hcat htab hlocks e2 e3 rfl rfl rfl (by have : jhs (jwh σ' 6) = jhs σ' + 1 := rfl; dsimp only; omega) (by have : jsl (jwh σ' 6) = jsl σ' + 6 := rfl; dsimp only; omega)
  · subst h
    intro lsA H locs cells slots q ce hv2 hH2 hS2 hc hs hce hcv hcl
    exact vx_out (fun x hx => (htab x hx).elim) hlocks hce hcv hcl (fun t ht _ => ⟨rfl, by rw [ht]; exact hH2, hS2.F ht⟩) hS2.2.2 (by dsimp only; omega) (by dsimp only; omega)
  · rw [hM] at hE
    cases hE
end
section
/-! the words of the claim's tables that the methods need, each by its place -/
theorem jm_1 : Cond.selects RX2 yX2_forget yX2_forget ∈ lw_W := List.mem_filter.mpr ⟨List.mem_of_getElem? (i := 1) (by decide +kernel), by decide +kernel⟩
theorem jm_2 : Cond.selects RX2 yX2_meet yX2_meet ∈ lw_W := List.mem_filter.mpr ⟨List.mem_of_getElem? (i := 2) (by decide +kernel), by decide +kernel⟩
theorem jm_3 : Cond.selects RX5 yX5_lapse yX5_lapse ∈ lw_W := List.mem_filter.mpr ⟨List.mem_of_getElem? (i := 3) (by decide +kernel), by decide +kernel⟩
theorem jm_4 : Cond.selects RX6 yX6_requireRoomFor yX6_requireRoomFor ∈ lw_W := List.mem_filter.mpr ⟨List.mem_of_getElem? (i := 4) (by decide +kernel), by decide +kernel⟩
theorem jm_5 : Cond.selects RX6 yX6_requireRow yX6_requireRow ∈ lw_W := List.mem_filter.mpr ⟨List.mem_of_getElem? (i := 5) (by decide +kernel), by decide +kernel⟩
theorem jm_6 : Cond.selects RX6 yX6_requireHold yX6_requireHold ∈ lw_W := List.mem_filter.mpr ⟨List.mem_of_getElem? (i := 6) (by decide +kernel), by decide +kernel⟩
theorem jm_7 : Cond.selects RX5 yX5_isAhead yX5_isAhead ∈ lw_W := List.mem_filter.mpr ⟨List.mem_of_getElem? (i := 7) (by decide +kernel), by decide +kernel⟩
theorem jm_8 : Cond.selects RX5 yX5_hasEarlierPair yX5_hasEarlierPair ∈ lw_W := List.mem_filter.mpr ⟨List.mem_of_getElem? (i := 8) (by decide +kernel), by decide +kernel⟩
theorem jm_9 : Cond.initialized RL ∈ lw_W := List.mem_filter.mpr ⟨List.mem_of_getElem? (i := 9) (by decide +kernel), by decide +kernel⟩
theorem jm_10 : Cond.initialized RX6 ∈ lw_W := List.mem_filter.mpr ⟨List.mem_of_getElem? (i := 10) (by decide +kernel), by decide +kernel⟩
theorem jm_11 : Cond.initialized RX5 ∈ lw_W := List.mem_filter.mpr ⟨List.mem_of_getElem? (i := 11) (by decide +kernel), by decide +kernel⟩
theorem jm_12 : Cond.initialized RX4 ∈ lw_W := List.mem_filter.mpr ⟨List.mem_of_getElem? (i := 12) (by decide +kernel), by decide +kernel⟩
theorem jm_13 : Cond.initialized RX3 ∈ lw_W := List.mem_filter.mpr ⟨List.mem_of_getElem? (i := 13) (by decide +kernel), by decide +kernel⟩
theorem jm_14 : Cond.initialized RX1 ∈ lw_W := List.mem_filter.mpr ⟨List.mem_of_getElem? (i := 14) (by decide +kernel), by decide +kernel⟩
theorem jm_15 : Cond.initialized RX0 ∈ lw_W := List.mem_filter.mpr ⟨List.mem_of_getElem? (i := 15) (by decide +kernel), by decide +kernel⟩
theorem jm_16 : Cond.initialized RX2 ∈ lw_W := List.mem_filter.mpr ⟨List.mem_of_getElem? (i := 16) (by decide +kernel), by decide +kernel⟩
theorem jm_23 : Cond.initialized RJ9 ∈ lw_W := List.mem_filter.mpr ⟨List.mem_of_getElem? (i := 23) (by decide +kernel), by decide +kernel⟩
theorem jm_24 : Cond.classLink RL 11 RX6 ∈ lw_W := List.mem_filter.mpr ⟨List.mem_of_getElem? (i := 24) (by decide +kernel), by decide +kernel⟩
theorem jm_25 : Cond.instantiable RX6 4 ∈ lw_W := List.mem_filter.mpr ⟨List.mem_of_getElem? (i := 25) (by decide +kernel), by decide +kernel⟩
theorem jm_26 : Cond.methodLink RL 90 yX6_init ∈ lw_W := List.mem_filter.mpr ⟨List.mem_of_getElem? (i := 26) (by decide +kernel), by decide +kernel⟩
theorem jm_27 : Cond.instanceMethod yX6_init ∈ lw_W := List.mem_filter.mpr ⟨List.mem_of_getElem? (i := 27) (by decide +kernel), by decide +kernel⟩
theorem jm_28 : Cond.code yX6_init cX6_init 1 none ∈ lw_W := List.mem_filter.mpr ⟨List.mem_of_getElem? (i := 28) (by decide +kernel), by decide +kernel⟩
theorem jm_29 : Cond.methodLink RX6 1 objectInit ∈ lw_W := List.mem_filter.mpr ⟨List.mem_of_getElem? (i := 29) (by decide +kernel), by decide +kernel⟩
theorem jm_30 : Cond.instanceMethod objectInit ∈ lw_W := List.mem_filter.mpr ⟨List.mem_of_getElem? (i := 30) (by decide +kernel), by decide +kernel⟩
theorem jm_32 : Cond.classLink RX6 7 RX5 ∈ lw_W := List.mem_filter.mpr ⟨List.mem_of_getElem? (i := 32) (by decide +kernel), by decide +kernel⟩
theorem jm_33 : Cond.instantiable RX5 8 ∈ lw_W := List.mem_filter.mpr ⟨List.mem_of_getElem? (i := 33) (by decide +kernel), by decide +kernel⟩
theorem jm_34 : Cond.methodLink RX6 9 yX5_init ∈ lw_W := List.mem_filter.mpr ⟨List.mem_of_getElem? (i := 34) (by decide +kernel), by decide +kernel⟩
theorem jm_35 : Cond.instanceMethod yX5_init ∈ lw_W := List.mem_filter.mpr ⟨List.mem_of_getElem? (i := 35) (by decide +kernel), by decide +kernel⟩
theorem jm_36 : Cond.code yX5_init cX5_init 2 none ∈ lw_W := List.mem_filter.mpr ⟨List.mem_of_getElem? (i := 36) (by decide +kernel), by decide +kernel⟩
theorem jm_37 : Cond.methodLink RX5 3 objectInit ∈ lw_W := List.mem_filter.mpr ⟨List.mem_of_getElem? (i := 37) (by decide +kernel), by decide +kernel⟩
theorem jm_38 : Cond.classLink RX5 9 RX4 ∈ lw_W := List.mem_filter.mpr ⟨List.mem_of_getElem? (i := 38) (by decide +kernel), by decide +kernel⟩
theorem jm_40 : Cond.classLink RX5 17 RX3 ∈ lw_W := List.mem_filter.mpr ⟨List.mem_of_getElem? (i := 40) (by decide +kernel), by decide +kernel⟩
theorem jm_42 : Cond.instantiable RX4 9 ∈ lw_W := List.mem_filter.mpr ⟨List.mem_of_getElem? (i := 42) (by decide +kernel), by decide +kernel⟩
theorem jm_44 : Cond.instanceMethod yX4_init ∈ lw_W := List.mem_filter.mpr ⟨List.mem_of_getElem? (i := 44) (by decide +kernel), by decide +kernel⟩
theorem jm_45 : Cond.code yX4_init cX4_init 1 none ∈ lw_W := List.mem_filter.mpr ⟨List.mem_of_getElem? (i := 45) (by decide +kernel), by decide +kernel⟩
theorem jm_46 : Cond.methodLink RX4 3 objectInit ∈ lw_W := List.mem_filter.mpr ⟨List.mem_of_getElem? (i := 46) (by decide +kernel), by decide +kernel⟩
theorem jm_47 : Cond.fieldLink RX4 18 RX4 "key" "I" ∈ lw_W := List.mem_filter.mpr ⟨List.mem_of_getElem? (i := 47) (by decide +kernel), by decide +kernel⟩
theorem jm_48 : Cond.fieldLink RX5 59 RX4 "key" "I" ∈ lw_W := List.mem_filter.mpr ⟨List.mem_of_getElem? (i := 48) (by decide +kernel), by decide +kernel⟩
theorem jm_49 : Cond.fieldLink RX6 195 RX4 "key" "I" ∈ lw_W := List.mem_filter.mpr ⟨List.mem_of_getElem? (i := 49) (by decide +kernel), by decide +kernel⟩
theorem jm_50 : Cond.fieldLink RX4 21 RX4 "urgency" "I" ∈ lw_W := List.mem_filter.mpr ⟨List.mem_of_getElem? (i := 50) (by decide +kernel), by decide +kernel⟩
theorem jm_51 : Cond.fieldLink RX2 41 RX4 "urgency" "I" ∈ lw_W := List.mem_filter.mpr ⟨List.mem_of_getElem? (i := 51) (by decide +kernel), by decide +kernel⟩
theorem jm_52 : Cond.fieldLink RX6 77 RX4 "urgency" "I" ∈ lw_W := List.mem_filter.mpr ⟨List.mem_of_getElem? (i := 52) (by decide +kernel), by decide +kernel⟩
theorem jm_53 : Cond.fieldLink RX5 119 RX4 "urgency" "I" ∈ lw_W := List.mem_filter.mpr ⟨List.mem_of_getElem? (i := 53) (by decide +kernel), by decide +kernel⟩
theorem jm_54 : Cond.fieldLink RX4 24 RX4 "mark" "I" ∈ lw_W := List.mem_filter.mpr ⟨List.mem_of_getElem? (i := 54) (by decide +kernel), by decide +kernel⟩
theorem jm_55 : Cond.fieldLink RX5 122 RX4 "mark" "I" ∈ lw_W := List.mem_filter.mpr ⟨List.mem_of_getElem? (i := 55) (by decide +kernel), by decide +kernel⟩
theorem jm_56 : Cond.fieldLink RX6 198 RX4 "mark" "I" ∈ lw_W := List.mem_filter.mpr ⟨List.mem_of_getElem? (i := 56) (by decide +kernel), by decide +kernel⟩
theorem jm_57 : Cond.fieldLink RX4 27 RX4 "putAt" "I" ∈ lw_W := List.mem_filter.mpr ⟨List.mem_of_getElem? (i := 57) (by decide +kernel), by decide +kernel⟩
theorem jm_58 : Cond.fieldLink RX6 217 RX4 "putAt" "I" ∈ lw_W := List.mem_filter.mpr ⟨List.mem_of_getElem? (i := 58) (by decide +kernel), by decide +kernel⟩
theorem jm_59 : Cond.fieldLink RX4 30 RX4 "state" "I" ∈ lw_W := List.mem_filter.mpr ⟨List.mem_of_getElem? (i := 59) (by decide +kernel), by decide +kernel⟩
theorem jm_60 : Cond.fieldLink RX6 80 RX4 "state" "I" ∈ lw_W := List.mem_filter.mpr ⟨List.mem_of_getElem? (i := 60) (by decide +kernel), by decide +kernel⟩
theorem jm_61 : Cond.fieldLink RX5 56 RX4 "state" "I" ∈ lw_W := List.mem_filter.mpr ⟨List.mem_of_getElem? (i := 61) (by decide +kernel), by decide +kernel⟩
theorem jm_62 : Cond.fieldLink RX4 9 RX4 "holder" "I" ∈ lw_W := List.mem_filter.mpr ⟨List.mem_of_getElem? (i := 62) (by decide +kernel), by decide +kernel⟩
theorem jm_63 : Cond.fieldLink RX5 98 RX4 "holder" "I" ∈ lw_W := List.mem_filter.mpr ⟨List.mem_of_getElem? (i := 63) (by decide +kernel), by decide +kernel⟩
theorem jm_64 : Cond.fieldLink RX6 201 RX4 "holder" "I" ∈ lw_W := List.mem_filter.mpr ⟨List.mem_of_getElem? (i := 64) (by decide +kernel), by decide +kernel⟩
theorem jm_65 : Cond.fieldLink RX4 15 RX4 "lapsesAt" "I" ∈ lw_W := List.mem_filter.mpr ⟨List.mem_of_getElem? (i := 65) (by decide +kernel), by decide +kernel⟩
theorem jm_66 : Cond.fieldLink RX5 89 RX4 "lapsesAt" "I" ∈ lw_W := List.mem_filter.mpr ⟨List.mem_of_getElem? (i := 66) (by decide +kernel), by decide +kernel⟩
theorem jm_67 : Cond.fieldLink RX6 204 RX4 "lapsesAt" "I" ∈ lw_W := List.mem_filter.mpr ⟨List.mem_of_getElem? (i := 67) (by decide +kernel), by decide +kernel⟩
theorem jm_68 : Cond.fieldLink RX4 33 RX4 "tries" "I" ∈ lw_W := List.mem_filter.mpr ⟨List.mem_of_getElem? (i := 68) (by decide +kernel), by decide +kernel⟩
theorem jm_69 : Cond.fieldLink RX6 85 RX4 "tries" "I" ∈ lw_W := List.mem_filter.mpr ⟨List.mem_of_getElem? (i := 69) (by decide +kernel), by decide +kernel⟩
theorem jm_70 : Cond.fieldLink RX5 104 RX4 "tries" "I" ∈ lw_W := List.mem_filter.mpr ⟨List.mem_of_getElem? (i := 70) (by decide +kernel), by decide +kernel⟩
theorem jm_71 : Cond.fieldLink RX4 36 RX4 "skips" "I" ∈ lw_W := List.mem_filter.mpr ⟨List.mem_of_getElem? (i := 71) (by decide +kernel), by decide +kernel⟩
theorem jm_72 : Cond.fieldLink RX5 85 RX4 "skips" "I" ∈ lw_W := List.mem_filter.mpr ⟨List.mem_of_getElem? (i := 72) (by decide +kernel), by decide +kernel⟩
theorem jm_73 : Cond.fieldLink RX6 207 RX4 "skips" "I" ∈ lw_W := List.mem_filter.mpr ⟨List.mem_of_getElem? (i := 73) (by decide +kernel), by decide +kernel⟩
theorem jm_94 : Cond.instantiable RX3 4 ∈ lw_W := List.mem_filter.mpr ⟨List.mem_of_getElem? (i := 94) (by decide +kernel), by decide +kernel⟩
theorem jm_96 : Cond.instanceMethod yX3_init ∈ lw_W := List.mem_filter.mpr ⟨List.mem_of_getElem? (i := 96) (by decide +kernel), by decide +kernel⟩
theorem jm_97 : Cond.code yX3_init cX3_init 1 none ∈ lw_W := List.mem_filter.mpr ⟨List.mem_of_getElem? (i := 97) (by decide +kernel), by decide +kernel⟩
theorem jm_98 : Cond.methodLink RX3 3 objectInit ∈ lw_W := List.mem_filter.mpr ⟨List.mem_of_getElem? (i := 98) (by decide +kernel), by decide +kernel⟩
theorem jm_99 : Cond.fieldLink RX3 9 RX3 "keys" "I" ∈ lw_W := List.mem_filter.mpr ⟨List.mem_of_getElem? (i := 99) (by decide +kernel), by decide +kernel⟩
theorem jm_100 : Cond.fieldLink RX6 112 RX3 "keys" "I" ∈ lw_W := List.mem_filter.mpr ⟨List.mem_of_getElem? (i := 100) (by decide +kernel), by decide +kernel⟩
theorem jm_101 : Cond.fieldLink RX3 15 RX3 "dones" "I" ∈ lw_W := List.mem_filter.mpr ⟨List.mem_of_getElem? (i := 101) (by decide +kernel), by decide +kernel⟩
theorem jm_102 : Cond.fieldLink RX6 137 RX3 "dones" "I" ∈ lw_W := List.mem_filter.mpr ⟨List.mem_of_getElem? (i := 102) (by decide +kernel), by decide +kernel⟩
theorem jm_103 : Cond.fieldLink RX3 18 RX3 "givenBack" "I" ∈ lw_W := List.mem_filter.mpr ⟨List.mem_of_getElem? (i := 103) (by decide +kernel), by decide +kernel⟩
theorem jm_104 : Cond.fieldLink RX6 138 RX3 "givenBack" "I" ∈ lw_W := List.mem_filter.mpr ⟨List.mem_of_getElem? (i := 104) (by decide +kernel), by decide +kernel⟩
theorem jm_105 : Cond.fieldLink RX3 21 RX3 "lapsed" "I" ∈ lw_W := List.mem_filter.mpr ⟨List.mem_of_getElem? (i := 105) (by decide +kernel), by decide +kernel⟩
theorem jm_106 : Cond.fieldLink RX5 101 RX3 "lapsed" "I" ∈ lw_W := List.mem_filter.mpr ⟨List.mem_of_getElem? (i := 106) (by decide +kernel), by decide +kernel⟩
theorem jm_107 : Cond.fieldLink RX6 220 RX3 "lapsed" "I" ∈ lw_W := List.mem_filter.mpr ⟨List.mem_of_getElem? (i := 107) (by decide +kernel), by decide +kernel⟩
theorem jm_117 : Cond.fieldLink RX5 11 RX5 "rows" "[LSkipRows$Row;" ∈ lw_W := List.mem_filter.mpr ⟨List.mem_of_getElem? (i := 117) (by decide +kernel), by decide +kernel⟩
theorem jm_118 : Cond.fieldLink RX2 37 RX5 "rows" "[LSkipRows$Row;" ∈ lw_W := List.mem_filter.mpr ⟨List.mem_of_getElem? (i := 118) (by decide +kernel), by decide +kernel⟩
theorem jm_119 : Cond.fieldLink RX6 60 RX5 "rows" "[LSkipRows$Row;" ∈ lw_W := List.mem_filter.mpr ⟨List.mem_of_getElem? (i := 119) (by decide +kernel), by decide +kernel⟩
theorem jm_120 : Cond.fieldLink RX5 19 RX5 "readers" "[LSkipRows$Reader;" ∈ lw_W := List.mem_filter.mpr ⟨List.mem_of_getElem? (i := 120) (by decide +kernel), by decide +kernel⟩
theorem jm_121 : Cond.fieldLink RX6 108 RX5 "readers" "[LSkipRows$Reader;" ∈ lw_W := List.mem_filter.mpr ⟨List.mem_of_getElem? (i := 121) (by decide +kernel), by decide +kernel⟩
theorem jm_122 : Cond.fieldLink RX5 23 RX5 "settings" "[I" ∈ lw_W := List.mem_filter.mpr ⟨List.mem_of_getElem? (i := 122) (by decide +kernel), by decide +kernel⟩
theorem jm_123 : Cond.fieldLink RX2 14 RX5 "settings" "[I" ∈ lw_W := List.mem_filter.mpr ⟨List.mem_of_getElem? (i := 123) (by decide +kernel), by decide +kernel⟩
theorem jm_124 : Cond.fieldLink RX6 102 RX5 "settings" "[I" ∈ lw_W := List.mem_filter.mpr ⟨List.mem_of_getElem? (i := 124) (by decide +kernel), by decide +kernel⟩
theorem jm_125 : Cond.fieldLink RX5 29 RX5 "size" "I" ∈ lw_W := List.mem_filter.mpr ⟨List.mem_of_getElem? (i := 125) (by decide +kernel), by decide +kernel⟩
theorem jm_126 : Cond.fieldLink RX6 53 RX5 "size" "I" ∈ lw_W := List.mem_filter.mpr ⟨List.mem_of_getElem? (i := 126) (by decide +kernel), by decide +kernel⟩
theorem jm_127 : Cond.fieldLink RX2 34 RX5 "size" "I" ∈ lw_W := List.mem_filter.mpr ⟨List.mem_of_getElem? (i := 127) (by decide +kernel), by decide +kernel⟩
theorem jm_128 : Cond.fieldLink RX5 40 RX5 "time" "I" ∈ lw_W := List.mem_filter.mpr ⟨List.mem_of_getElem? (i := 128) (by decide +kernel), by decide +kernel⟩
theorem jm_129 : Cond.fieldLink RX6 148 RX5 "time" "I" ∈ lw_W := List.mem_filter.mpr ⟨List.mem_of_getElem? (i := 129) (by decide +kernel), by decide +kernel⟩
theorem jm_130 : Cond.fieldLink RX5 43 RX5 "puts" "I" ∈ lw_W := List.mem_filter.mpr ⟨List.mem_of_getElem? (i := 130) (by decide +kernel), by decide +kernel⟩
theorem jm_131 : Cond.fieldLink RX6 236 RX5 "puts" "I" ∈ lw_W := List.mem_filter.mpr ⟨List.mem_of_getElem? (i := 131) (by decide +kernel), by decide +kernel⟩
theorem jm_132 : Cond.fieldLink RX5 46 RX5 "dones" "I" ∈ lw_W := List.mem_filter.mpr ⟨List.mem_of_getElem? (i := 132) (by decide +kernel), by decide +kernel⟩
theorem jm_133 : Cond.fieldLink RX6 134 RX5 "dones" "I" ∈ lw_W := List.mem_filter.mpr ⟨List.mem_of_getElem? (i := 133) (by decide +kernel), by decide +kernel⟩
theorem jm_134 : Cond.fieldLink RX5 49 RX5 "skips" "I" ∈ lw_W := List.mem_filter.mpr ⟨List.mem_of_getElem? (i := 134) (by decide +kernel), by decide +kernel⟩
theorem jm_135 : Cond.fieldLink RX6 242 RX5 "skips" "I" ∈ lw_W := List.mem_filter.mpr ⟨List.mem_of_getElem? (i := 135) (by decide +kernel), by decide +kernel⟩
theorem jm_153 : Cond.classLink RX6 16 RX1 ∈ lw_W := List.mem_filter.mpr ⟨List.mem_of_getElem? (i := 153) (by decide +kernel), by decide +kernel⟩
theorem jm_154 : Cond.instantiable RX1 3 ∈ lw_W := List.mem_filter.mpr ⟨List.mem_of_getElem? (i := 154) (by decide +kernel), by decide +kernel⟩
theorem jm_155 : Cond.methodLink RX6 18 yX1_init ∈ lw_W := List.mem_filter.mpr ⟨List.mem_of_getElem? (i := 155) (by decide +kernel), by decide +kernel⟩
theorem jm_156 : Cond.instanceMethod yX1_init ∈ lw_W := List.mem_filter.mpr ⟨List.mem_of_getElem? (i := 156) (by decide +kernel), by decide +kernel⟩
theorem jm_157 : Cond.code yX1_init cX1_init 2 none ∈ lw_W := List.mem_filter.mpr ⟨List.mem_of_getElem? (i := 157) (by decide +kernel), by decide +kernel⟩
theorem jm_158 : Cond.methodLink RX1 3 objectInit ∈ lw_W := List.mem_filter.mpr ⟨List.mem_of_getElem? (i := 158) (by decide +kernel), by decide +kernel⟩
theorem jm_159 : Cond.classLink RX1 9 RX5 ∈ lw_W := List.mem_filter.mpr ⟨List.mem_of_getElem? (i := 159) (by decide +kernel), by decide +kernel⟩
theorem jm_161 : Cond.methodLink RX1 17 yX5_init ∈ lw_W := List.mem_filter.mpr ⟨List.mem_of_getElem? (i := 161) (by decide +kernel), by decide +kernel⟩
theorem jm_162 : Cond.fieldLink RX1 11 RX1 "saved" "[LSkipRows$Table;" ∈ lw_W := List.mem_filter.mpr ⟨List.mem_of_getElem? (i := 162) (by decide +kernel), by decide +kernel⟩
theorem jm_163 : Cond.fieldLink RX1 22 RX1 "oldest" "I" ∈ lw_W := List.mem_filter.mpr ⟨List.mem_of_getElem? (i := 163) (by decide +kernel), by decide +kernel⟩
theorem jm_164 : Cond.fieldLink RX1 18 RX1 "size" "I" ∈ lw_W := List.mem_filter.mpr ⟨List.mem_of_getElem? (i := 164) (by decide +kernel), by decide +kernel⟩
theorem jm_165 : Cond.fieldLink RX6 189 RX1 "size" "I" ∈ lw_W := List.mem_filter.mpr ⟨List.mem_of_getElem? (i := 165) (by decide +kernel), by decide +kernel⟩
theorem jm_173 : Cond.classLink RX6 23 RX0 ∈ lw_W := List.mem_filter.mpr ⟨List.mem_of_getElem? (i := 173) (by decide +kernel), by decide +kernel⟩
theorem jm_174 : Cond.instantiable RX0 7 ∈ lw_W := List.mem_filter.mpr ⟨List.mem_of_getElem? (i := 174) (by decide +kernel), by decide +kernel⟩
theorem jm_176 : Cond.instanceMethod yX0_init ∈ lw_W := List.mem_filter.mpr ⟨List.mem_of_getElem? (i := 176) (by decide +kernel), by decide +kernel⟩
theorem jm_177 : Cond.code yX0_init cX0_init 1 none ∈ lw_W := List.mem_filter.mpr ⟨List.mem_of_getElem? (i := 177) (by decide +kernel), by decide +kernel⟩
theorem jm_178 : Cond.methodLink RX0 3 objectInit ∈ lw_W := List.mem_filter.mpr ⟨List.mem_of_getElem? (i := 178) (by decide +kernel), by decide +kernel⟩
theorem jm_179 : Cond.fieldLink RX0 9 RX0 "codes" "[I" ∈ lw_W := List.mem_filter.mpr ⟨List.mem_of_getElem? (i := 179) (by decide +kernel), by decide +kernel⟩
theorem jm_180 : Cond.fieldLink RX0 15 RX0 "keys" "[I" ∈ lw_W := List.mem_filter.mpr ⟨List.mem_of_getElem? (i := 180) (by decide +kernel), by decide +kernel⟩
theorem jm_181 : Cond.fieldLink RX0 18 RX0 "urgencies" "[I" ∈ lw_W := List.mem_filter.mpr ⟨List.mem_of_getElem? (i := 181) (by decide +kernel), by decide +kernel⟩
theorem jm_182 : Cond.fieldLink RX0 21 RX0 "times" "[I" ∈ lw_W := List.mem_filter.mpr ⟨List.mem_of_getElem? (i := 182) (by decide +kernel), by decide +kernel⟩
theorem jm_198 : Cond.classLink RX6 30 RX2 ∈ lw_W := List.mem_filter.mpr ⟨List.mem_of_getElem? (i := 198) (by decide +kernel), by decide +kernel⟩
theorem jm_199 : Cond.instantiable RX2 5 ∈ lw_W := List.mem_filter.mpr ⟨List.mem_of_getElem? (i := 199) (by decide +kernel), by decide +kernel⟩
theorem jm_201 : Cond.instanceMethod yX2_init ∈ lw_W := List.mem_filter.mpr ⟨List.mem_of_getElem? (i := 201) (by decide +kernel), by decide +kernel⟩
theorem jm_202 : Cond.code yX2_init cX2_init 1 none ∈ lw_W := List.mem_filter.mpr ⟨List.mem_of_getElem? (i := 202) (by decide +kernel), by decide +kernel⟩
theorem jm_203 : Cond.methodLink RX2 3 objectInit ∈ lw_W := List.mem_filter.mpr ⟨List.mem_of_getElem? (i := 203) (by decide +kernel), by decide +kernel⟩
theorem jm_204 : Cond.fieldLink RX2 58 RX2 "taken" "I" ∈ lw_W := List.mem_filter.mpr ⟨List.mem_of_getElem? (i := 204) (by decide +kernel), by decide +kernel⟩
theorem jm_205 : Cond.fieldLink RX6 249 RX2 "taken" "I" ∈ lw_W := List.mem_filter.mpr ⟨List.mem_of_getElem? (i := 205) (by decide +kernel), by decide +kernel⟩
theorem jm_206 : Cond.fieldLink RX2 30 RX2 "takenRows" "I" ∈ lw_W := List.mem_filter.mpr ⟨List.mem_of_getElem? (i := 206) (by decide +kernel), by decide +kernel⟩
theorem jm_207 : Cond.fieldLink RX6 125 RX2 "takenRows" "I" ∈ lw_W := List.mem_filter.mpr ⟨List.mem_of_getElem? (i := 207) (by decide +kernel), by decide +kernel⟩
theorem jm_208 : Cond.fieldLink RX2 61 RX2 "skipped" "I" ∈ lw_W := List.mem_filter.mpr ⟨List.mem_of_getElem? (i := 208) (by decide +kernel), by decide +kernel⟩
theorem jm_209 : Cond.fieldLink RX2 64 RX2 "skippedRows" "I" ∈ lw_W := List.mem_filter.mpr ⟨List.mem_of_getElem? (i := 209) (by decide +kernel), by decide +kernel⟩
theorem jm_210 : Cond.fieldLink RX6 252 RX2 "skippedRows" "I" ∈ lw_W := List.mem_filter.mpr ⟨List.mem_of_getElem? (i := 210) (by decide +kernel), by decide +kernel⟩
theorem jm_211 : Cond.fieldLink RX2 67 RX2 "first" "I" ∈ lw_W := List.mem_filter.mpr ⟨List.mem_of_getElem? (i := 211) (by decide +kernel), by decide +kernel⟩
theorem jm_212 : Cond.fieldLink RX6 226 RX2 "first" "I" ∈ lw_W := List.mem_filter.mpr ⟨List.mem_of_getElem? (i := 212) (by decide +kernel), by decide +kernel⟩
theorem jm_224 : Cond.fieldLink RX6 10 RX6 "table" "LSkipRows$Table;" ∈ lw_W := List.mem_filter.mpr ⟨List.mem_of_getElem? (i := 224) (by decide +kernel), by decide +kernel⟩
theorem jm_225 : Cond.fieldLink RX6 19 RX6 "history" "LSkipRows$History;" ∈ lw_W := List.mem_filter.mpr ⟨List.mem_of_getElem? (i := 225) (by decide +kernel), by decide +kernel⟩
theorem jm_226 : Cond.fieldLink RX6 26 RX6 "buffer" "LSkipRows$Buffer;" ∈ lw_W := List.mem_filter.mpr ⟨List.mem_of_getElem? (i := 226) (by decide +kernel), by decide +kernel⟩
theorem jm_227 : Cond.fieldLink RX6 33 RX6 "look" "LSkipRows$Look;" ∈ lw_W := List.mem_filter.mpr ⟨List.mem_of_getElem? (i := 227) (by decide +kernel), by decide +kernel⟩
theorem jm_237 : Cond.methodLink RL 123 yX6_sweep ∈ lw_W := List.mem_filter.mpr ⟨List.mem_of_getElem? (i := 237) (by decide +kernel), by decide +kernel⟩
theorem jm_238 : Cond.instanceMethod yX6_sweep ∈ lw_W := List.mem_filter.mpr ⟨List.mem_of_getElem? (i := 238) (by decide +kernel), by decide +kernel⟩
theorem jm_239 : Cond.selects RX6 yX6_sweep yX6_sweep ∈ lw_W := List.mem_filter.mpr ⟨List.mem_of_getElem? (i := 239) (by decide +kernel), by decide +kernel⟩
theorem jm_240 : Cond.code yX6_sweep cX6_sweep 1 (some .int) ∈ lw_W := List.mem_filter.mpr ⟨List.mem_of_getElem? (i := 240) (by decide +kernel), by decide +kernel⟩
theorem jm_241 : Cond.methodLink RX6 45 yX1_keep ∈ lw_W := List.mem_filter.mpr ⟨List.mem_of_getElem? (i := 241) (by decide +kernel), by decide +kernel⟩
theorem jm_242 : Cond.instanceMethod yX1_keep ∈ lw_W := List.mem_filter.mpr ⟨List.mem_of_getElem? (i := 242) (by decide +kernel), by decide +kernel⟩
theorem jm_243 : Cond.selects RX1 yX1_keep yX1_keep ∈ lw_W := List.mem_filter.mpr ⟨List.mem_of_getElem? (i := 243) (by decide +kernel), by decide +kernel⟩
theorem jm_244 : Cond.code yX1_keep cX1_keep 2 none ∈ lw_W := List.mem_filter.mpr ⟨List.mem_of_getElem? (i := 244) (by decide +kernel), by decide +kernel⟩
theorem jm_245 : Cond.methodLink RX1 25 yX5_copyFrom ∈ lw_W := List.mem_filter.mpr ⟨List.mem_of_getElem? (i := 245) (by decide +kernel), by decide +kernel⟩
theorem jm_246 : Cond.instanceMethod yX5_copyFrom ∈ lw_W := List.mem_filter.mpr ⟨List.mem_of_getElem? (i := 246) (by decide +kernel), by decide +kernel⟩
theorem jm_247 : Cond.selects RX5 yX5_copyFrom yX5_copyFrom ∈ lw_W := List.mem_filter.mpr ⟨List.mem_of_getElem? (i := 247) (by decide +kernel), by decide +kernel⟩
theorem jm_248 : Cond.code yX5_copyFrom cX5_copyFrom 3 none ∈ lw_W := List.mem_filter.mpr ⟨List.mem_of_getElem? (i := 248) (by decide +kernel), by decide +kernel⟩
theorem jm_249 : Cond.methodLink RX5 33 yX4_copyFrom ∈ lw_W := List.mem_filter.mpr ⟨List.mem_of_getElem? (i := 249) (by decide +kernel), by decide +kernel⟩
theorem jm_250 : Cond.instanceMethod yX4_copyFrom ∈ lw_W := List.mem_filter.mpr ⟨List.mem_of_getElem? (i := 250) (by decide +kernel), by decide +kernel⟩
theorem jm_251 : Cond.selects RX4 yX4_copyFrom yX4_copyFrom ∈ lw_W := List.mem_filter.mpr ⟨List.mem_of_getElem? (i := 251) (by decide +kernel), by decide +kernel⟩
theorem jm_252 : Cond.code yX4_copyFrom cX4_copyFrom 2 none ∈ lw_W := List.mem_filter.mpr ⟨List.mem_of_getElem? (i := 252) (by decide +kernel), by decide +kernel⟩
theorem jm_253 : Cond.methodLink RX5 37 yX3_copyFrom ∈ lw_W := List.mem_filter.mpr ⟨List.mem_of_getElem? (i := 253) (by decide +kernel), by decide +kernel⟩
theorem jm_254 : Cond.instanceMethod yX3_copyFrom ∈ lw_W := List.mem_filter.mpr ⟨List.mem_of_getElem? (i := 254) (by decide +kernel), by decide +kernel⟩
theorem jm_255 : Cond.selects RX3 yX3_copyFrom yX3_copyFrom ∈ lw_W := List.mem_filter.mpr ⟨List.mem_of_getElem? (i := 255) (by decide +kernel), by decide +kernel⟩
theorem jm_256 : Cond.code yX3_copyFrom cX3_copyFrom 2 none ∈ lw_W := List.mem_filter.mpr ⟨List.mem_of_getElem? (i := 256) (by decide +kernel), by decide +kernel⟩
theorem jm_257 : Cond.methodLink RX6 88 yX5_dropDoneRows ∈ lw_W := List.mem_filter.mpr ⟨List.mem_of_getElem? (i := 257) (by decide +kernel), by decide +kernel⟩
theorem jm_258 : Cond.instanceMethod yX5_dropDoneRows ∈ lw_W := List.mem_filter.mpr ⟨List.mem_of_getElem? (i := 258) (by decide +kernel), by decide +kernel⟩
theorem jm_259 : Cond.selects RX5 yX5_dropDoneRows yX5_dropDoneRows ∈ lw_W := List.mem_filter.mpr ⟨List.mem_of_getElem? (i := 259) (by decide +kernel), by decide +kernel⟩
theorem jm_260 : Cond.code yX5_dropDoneRows cX5_dropDoneRows 3 (some .int) ∈ lw_W := List.mem_filter.mpr ⟨List.mem_of_getElem? (i := 260) (by decide +kernel), by decide +kernel⟩
theorem jm_261 : Cond.methodLink RL 112 yX6_set ∈ lw_W := List.mem_filter.mpr ⟨List.mem_of_getElem? (i := 261) (by decide +kernel), by decide +kernel⟩
theorem jm_262 : Cond.instanceMethod yX6_set ∈ lw_W := List.mem_filter.mpr ⟨List.mem_of_getElem? (i := 262) (by decide +kernel), by decide +kernel⟩
theorem jm_263 : Cond.selects RX6 yX6_set yX6_set ∈ lw_W := List.mem_filter.mpr ⟨List.mem_of_getElem? (i := 263) (by decide +kernel), by decide +kernel⟩
theorem jm_264 : Cond.code yX6_set cX6_set 4 (some .int) ∈ lw_W := List.mem_filter.mpr ⟨List.mem_of_getElem? (i := 264) (by decide +kernel), by decide +kernel⟩
theorem jm_265 : Cond.methodLink RX6 92 yX6_requireSetting ∈ lw_W := List.mem_filter.mpr ⟨List.mem_of_getElem? (i := 265) (by decide +kernel), by decide +kernel⟩
theorem jm_266 : Cond.static yX6_requireSetting ∈ lw_W := List.mem_filter.mpr ⟨List.mem_of_getElem? (i := 266) (by decide +kernel), by decide +kernel⟩
theorem jm_267 : Cond.code yX6_requireSetting cX6_requireSetting 1 none ∈ lw_W := List.mem_filter.mpr ⟨List.mem_of_getElem? (i := 267) (by decide +kernel), by decide +kernel⟩
theorem jm_336 : Cond.fieldLink RX6 95 RX6 "LEAST_VALUES" "[I" ∈ lw_W := List.mem_filter.mpr ⟨List.mem_of_getElem? (i := 336) (by decide +kernel), by decide +kernel⟩
theorem jm_338 : Cond.fieldLink RX6 99 RX6 "GREATEST_VALUES" "[I" ∈ lw_W := List.mem_filter.mpr ⟨List.mem_of_getElem? (i := 338) (by decide +kernel), by decide +kernel⟩
theorem jm_340 : Cond.methodLink RX6 37 yX6_requireWithin ∈ lw_W := List.mem_filter.mpr ⟨List.mem_of_getElem? (i := 340) (by decide +kernel), by decide +kernel⟩
theorem jm_341 : Cond.static yX6_requireWithin ∈ lw_W := List.mem_filter.mpr ⟨List.mem_of_getElem? (i := 341) (by decide +kernel), by decide +kernel⟩
theorem jm_342 : Cond.code yX6_requireWithin cX6_requireWithin 3 none ∈ lw_W := List.mem_filter.mpr ⟨List.mem_of_getElem? (i := 342) (by decide +kernel), by decide +kernel⟩
theorem jm_359 : Cond.methodLink RL 115 yX6_takes ∈ lw_W := List.mem_filter.mpr ⟨List.mem_of_getElem? (i := 359) (by decide +kernel), by decide +kernel⟩
theorem jm_360 : Cond.instanceMethod yX6_takes ∈ lw_W := List.mem_filter.mpr ⟨List.mem_of_getElem? (i := 360) (by decide +kernel), by decide +kernel⟩
theorem jm_361 : Cond.selects RX6 yX6_takes yX6_takes ∈ lw_W := List.mem_filter.mpr ⟨List.mem_of_getElem? (i := 361) (by decide +kernel), by decide +kernel⟩
theorem jm_362 : Cond.code yX6_takes cX6_takes 4 (some .int) ∈ lw_W := List.mem_filter.mpr ⟨List.mem_of_getElem? (i := 362) (by decide +kernel), by decide +kernel⟩
theorem jm_363 : Cond.methodLink RX6 105 yX6_requireReader ∈ lw_W := List.mem_filter.mpr ⟨List.mem_of_getElem? (i := 363) (by decide +kernel), by decide +kernel⟩
theorem jm_364 : Cond.static yX6_requireReader ∈ lw_W := List.mem_filter.mpr ⟨List.mem_of_getElem? (i := 364) (by decide +kernel), by decide +kernel⟩
theorem jm_365 : Cond.code yX6_requireReader cX6_requireReader 1 none ∈ lw_W := List.mem_filter.mpr ⟨List.mem_of_getElem? (i := 365) (by decide +kernel), by decide +kernel⟩
theorem jm_367 : Cond.methodLink RL 101 yX6_take ∈ lw_W := List.mem_filter.mpr ⟨List.mem_of_getElem? (i := 367) (by decide +kernel), by decide +kernel⟩
theorem jm_368 : Cond.instanceMethod yX6_take ∈ lw_W := List.mem_filter.mpr ⟨List.mem_of_getElem? (i := 368) (by decide +kernel), by decide +kernel⟩
theorem jm_369 : Cond.selects RX6 yX6_take yX6_take ∈ lw_W := List.mem_filter.mpr ⟨List.mem_of_getElem? (i := 369) (by decide +kernel), by decide +kernel⟩
theorem jm_370 : Cond.code yX6_take cX6_take 3 (some .int) ∈ lw_W := List.mem_filter.mpr ⟨List.mem_of_getElem? (i := 370) (by decide +kernel), by decide +kernel⟩
theorem jm_371 : Cond.methodLink RX6 117 yX2_along ∈ lw_W := List.mem_filter.mpr ⟨List.mem_of_getElem? (i := 371) (by decide +kernel), by decide +kernel⟩
theorem jm_372 : Cond.instanceMethod yX2_along ∈ lw_W := List.mem_filter.mpr ⟨List.mem_of_getElem? (i := 372) (by decide +kernel), by decide +kernel⟩
theorem jm_373 : Cond.selects RX2 yX2_along yX2_along ∈ lw_W := List.mem_filter.mpr ⟨List.mem_of_getElem? (i := 373) (by decide +kernel), by decide +kernel⟩
theorem jm_374 : Cond.code yX2_along cX2_along 7 none ∈ lw_W := List.mem_filter.mpr ⟨List.mem_of_getElem? (i := 374) (by decide +kernel), by decide +kernel⟩
theorem jm_375 : Cond.methodLink RX2 9 yX2_forget ∈ lw_W := List.mem_filter.mpr ⟨List.mem_of_getElem? (i := 375) (by decide +kernel), by decide +kernel⟩
theorem jm_377 : Cond.instanceMethod yX2_forget ∈ lw_W := List.mem_filter.mpr ⟨List.mem_of_getElem? (i := 377) (by decide +kernel), by decide +kernel⟩
theorem jm_378 : Cond.code yX2_forget cX2_forget 1 none ∈ lw_W := List.mem_filter.mpr ⟨List.mem_of_getElem? (i := 378) (by decide +kernel), by decide +kernel⟩
theorem jm_379 : Cond.methodLink RX2 20 yX5_holdsOf ∈ lw_W := List.mem_filter.mpr ⟨List.mem_of_getElem? (i := 379) (by decide +kernel), by decide +kernel⟩
theorem jm_380 : Cond.instanceMethod yX5_holdsOf ∈ lw_W := List.mem_filter.mpr ⟨List.mem_of_getElem? (i := 380) (by decide +kernel), by decide +kernel⟩
theorem jm_381 : Cond.selects RX5 yX5_holdsOf yX5_holdsOf ∈ lw_W := List.mem_filter.mpr ⟨List.mem_of_getElem? (i := 381) (by decide +kernel), by decide +kernel⟩
theorem jm_382 : Cond.code yX5_holdsOf cX5_holdsOf 4 (some .int) ∈ lw_W := List.mem_filter.mpr ⟨List.mem_of_getElem? (i := 382) (by decide +kernel), by decide +kernel⟩
theorem jm_383 : Cond.methodLink RX5 86 yX4_isHeldBy ∈ lw_W := List.mem_filter.mpr ⟨List.mem_of_getElem? (i := 383) (by decide +kernel), by decide +kernel⟩
theorem jm_384 : Cond.instanceMethod yX4_isHeldBy ∈ lw_W := List.mem_filter.mpr ⟨List.mem_of_getElem? (i := 384) (by decide +kernel), by decide +kernel⟩
theorem jm_385 : Cond.selects RX4 yX4_isHeldBy yX4_isHeldBy ∈ lw_W := List.mem_filter.mpr ⟨List.mem_of_getElem? (i := 385) (by decide +kernel), by decide +kernel⟩
theorem jm_386 : Cond.code yX4_isHeldBy cX4_isHeldBy 2 (some .boolean) ∈ lw_W := List.mem_filter.mpr ⟨List.mem_of_getElem? (i := 386) (by decide +kernel), by decide +kernel⟩
theorem jm_387 : Cond.methodLink RX2 24 yJ9_min_7cf53 ∈ lw_W := List.mem_filter.mpr ⟨List.mem_of_getElem? (i := 387) (by decide +kernel), by decide +kernel⟩
theorem jm_388 : Cond.static yJ9_min_7cf53 ∈ lw_W := List.mem_filter.mpr ⟨List.mem_of_getElem? (i := 388) (by decide +kernel), by decide +kernel⟩
theorem jm_389 : Cond.code yJ9_min_7cf53 cJ9_min_7cf53 2 (some .int) ∈ lw_W := List.mem_filter.mpr ⟨List.mem_of_getElem? (i := 389) (by decide +kernel), by decide +kernel⟩
theorem jm_390 : Cond.methodLink RX2 46 yX4_isOpen ∈ lw_W := List.mem_filter.mpr ⟨List.mem_of_getElem? (i := 390) (by decide +kernel), by decide +kernel⟩
theorem jm_391 : Cond.instanceMethod yX4_isOpen ∈ lw_W := List.mem_filter.mpr ⟨List.mem_of_getElem? (i := 391) (by decide +kernel), by decide +kernel⟩
theorem jm_392 : Cond.selects RX4 yX4_isOpen yX4_isOpen ∈ lw_W := List.mem_filter.mpr ⟨List.mem_of_getElem? (i := 392) (by decide +kernel), by decide +kernel⟩
theorem jm_393 : Cond.code yX4_isOpen cX4_isOpen 1 (some .boolean) ∈ lw_W := List.mem_filter.mpr ⟨List.mem_of_getElem? (i := 393) (by decide +kernel), by decide +kernel⟩
theorem jm_394 : Cond.methodLink RX2 50 yX5_canTake ∈ lw_W := List.mem_filter.mpr ⟨List.mem_of_getElem? (i := 394) (by decide +kernel), by decide +kernel⟩
theorem jm_395 : Cond.instanceMethod yX5_canTake ∈ lw_W := List.mem_filter.mpr ⟨List.mem_of_getElem? (i := 395) (by decide +kernel), by decide +kernel⟩
theorem jm_396 : Cond.selects RX5 yX5_canTake yX5_canTake ∈ lw_W := List.mem_filter.mpr ⟨List.mem_of_getElem? (i := 396) (by decide +kernel), by decide +kernel⟩
theorem jm_397 : Cond.code yX5_canTake cX5_canTake 3 (some .boolean) ∈ lw_W := List.mem_filter.mpr ⟨List.mem_of_getElem? (i := 397) (by decide +kernel), by decide +kernel⟩
theorem jm_398 : Cond.methodLink RX5 66 yX3_wants ∈ lw_W := List.mem_filter.mpr ⟨List.mem_of_getElem? (i := 398) (by decide +kernel), by decide +kernel⟩
theorem jm_399 : Cond.instanceMethod yX3_wants ∈ lw_W := List.mem_filter.mpr ⟨List.mem_of_getElem? (i := 399) (by decide +kernel), by decide +kernel⟩
theorem jm_400 : Cond.selects RX3 yX3_wants yX3_wants ∈ lw_W := List.mem_filter.mpr ⟨List.mem_of_getElem? (i := 400) (by decide +kernel), by decide +kernel⟩
theorem jm_401 : Cond.code yX3_wants cX3_wants 2 (some .boolean) ∈ lw_W := List.mem_filter.mpr ⟨List.mem_of_getElem? (i := 401) (by decide +kernel), by decide +kernel⟩
theorem jm_402 : Cond.methodLink RX5 70 yX5_isBlocked ∈ lw_W := List.mem_filter.mpr ⟨List.mem_of_getElem? (i := 402) (by decide +kernel), by decide +kernel⟩
theorem jm_403 : Cond.instanceMethod yX5_isBlocked ∈ lw_W := List.mem_filter.mpr ⟨List.mem_of_getElem? (i := 403) (by decide +kernel), by decide +kernel⟩
theorem jm_404 : Cond.selects RX5 yX5_isBlocked yX5_isBlocked ∈ lw_W := List.mem_filter.mpr ⟨List.mem_of_getElem? (i := 404) (by decide +kernel), by decide +kernel⟩
theorem jm_405 : Cond.code yX5_isBlocked cX5_isBlocked 3 (some .boolean) ∈ lw_W := List.mem_filter.mpr ⟨List.mem_of_getElem? (i := 405) (by decide +kernel), by decide +kernel⟩
theorem jm_406 : Cond.methodLink RX5 62 yX4_isOpen ∈ lw_W := List.mem_filter.mpr ⟨List.mem_of_getElem? (i := 406) (by decide +kernel), by decide +kernel⟩
theorem jm_407 : Cond.methodLink RX2 54 yX2_meet ∈ lw_W := List.mem_filter.mpr ⟨List.mem_of_getElem? (i := 407) (by decide +kernel), by decide +kernel⟩
theorem jm_409 : Cond.instanceMethod yX2_meet ∈ lw_W := List.mem_filter.mpr ⟨List.mem_of_getElem? (i := 409) (by decide +kernel), by decide +kernel⟩
theorem jm_410 : Cond.code yX2_meet cX2_meet 3 none ∈ lw_W := List.mem_filter.mpr ⟨List.mem_of_getElem? (i := 410) (by decide +kernel), by decide +kernel⟩
theorem jm_411 : Cond.methodLink RX6 121 yX5_holdAndSkip ∈ lw_W := List.mem_filter.mpr ⟨List.mem_of_getElem? (i := 411) (by decide +kernel), by decide +kernel⟩
theorem jm_412 : Cond.instanceMethod yX5_holdAndSkip ∈ lw_W := List.mem_filter.mpr ⟨List.mem_of_getElem? (i := 412) (by decide +kernel), by decide +kernel⟩
theorem jm_413 : Cond.selects RX5 yX5_holdAndSkip yX5_holdAndSkip ∈ lw_W := List.mem_filter.mpr ⟨List.mem_of_getElem? (i := 413) (by decide +kernel), by decide +kernel⟩
theorem jm_414 : Cond.code yX5_holdAndSkip cX5_holdAndSkip 4 none ∈ lw_W := List.mem_filter.mpr ⟨List.mem_of_getElem? (i := 414) (by decide +kernel), by decide +kernel⟩
theorem jm_415 : Cond.methodLink RX5 73 yX2_hasTaken ∈ lw_W := List.mem_filter.mpr ⟨List.mem_of_getElem? (i := 415) (by decide +kernel), by decide +kernel⟩
theorem jm_416 : Cond.instanceMethod yX2_hasTaken ∈ lw_W := List.mem_filter.mpr ⟨List.mem_of_getElem? (i := 416) (by decide +kernel), by decide +kernel⟩
theorem jm_417 : Cond.selects RX2 yX2_hasTaken yX2_hasTaken ∈ lw_W := List.mem_filter.mpr ⟨List.mem_of_getElem? (i := 417) (by decide +kernel), by decide +kernel⟩
theorem jm_418 : Cond.code yX2_hasTaken cX2_hasTaken 2 (some .boolean) ∈ lw_W := List.mem_filter.mpr ⟨List.mem_of_getElem? (i := 418) (by decide +kernel), by decide +kernel⟩
theorem jm_419 : Cond.methodLink RX5 78 yX4_startHold ∈ lw_W := List.mem_filter.mpr ⟨List.mem_of_getElem? (i := 419) (by decide +kernel), by decide +kernel⟩
theorem jm_420 : Cond.instanceMethod yX4_startHold ∈ lw_W := List.mem_filter.mpr ⟨List.mem_of_getElem? (i := 420) (by decide +kernel), by decide +kernel⟩
theorem jm_421 : Cond.selects RX4 yX4_startHold yX4_startHold ∈ lw_W := List.mem_filter.mpr ⟨List.mem_of_getElem? (i := 421) (by decide +kernel), by decide +kernel⟩
theorem jm_422 : Cond.code yX4_startHold cX4_startHold 3 none ∈ lw_W := List.mem_filter.mpr ⟨List.mem_of_getElem? (i := 422) (by decide +kernel), by decide +kernel⟩
theorem jm_423 : Cond.methodLink RX5 82 yX2_hasSkipped ∈ lw_W := List.mem_filter.mpr ⟨List.mem_of_getElem? (i := 423) (by decide +kernel), by decide +kernel⟩
theorem jm_424 : Cond.instanceMethod yX2_hasSkipped ∈ lw_W := List.mem_filter.mpr ⟨List.mem_of_getElem? (i := 424) (by decide +kernel), by decide +kernel⟩
theorem jm_425 : Cond.selects RX2 yX2_hasSkipped yX2_hasSkipped ∈ lw_W := List.mem_filter.mpr ⟨List.mem_of_getElem? (i := 425) (by decide +kernel), by decide +kernel⟩
theorem jm_426 : Cond.code yX2_hasSkipped cX2_hasSkipped 2 (some .boolean) ∈ lw_W := List.mem_filter.mpr ⟨List.mem_of_getElem? (i := 426) (by decide +kernel), by decide +kernel⟩
theorem jm_427 : Cond.methodLink RL 109 yX6_renew ∈ lw_W := List.mem_filter.mpr ⟨List.mem_of_getElem? (i := 427) (by decide +kernel), by decide +kernel⟩
theorem jm_428 : Cond.instanceMethod yX6_renew ∈ lw_W := List.mem_filter.mpr ⟨List.mem_of_getElem? (i := 428) (by decide +kernel), by decide +kernel⟩
theorem jm_429 : Cond.selects RX6 yX6_renew yX6_renew ∈ lw_W := List.mem_filter.mpr ⟨List.mem_of_getElem? (i := 429) (by decide +kernel), by decide +kernel⟩
theorem jm_430 : Cond.code yX6_renew cX6_renew 2 (some .int) ∈ lw_W := List.mem_filter.mpr ⟨List.mem_of_getElem? (i := 430) (by decide +kernel), by decide +kernel⟩
theorem jm_431 : Cond.methodLink RX6 145 yX5_prolongHolds ∈ lw_W := List.mem_filter.mpr ⟨List.mem_of_getElem? (i := 431) (by decide +kernel), by decide +kernel⟩
theorem jm_432 : Cond.instanceMethod yX5_prolongHolds ∈ lw_W := List.mem_filter.mpr ⟨List.mem_of_getElem? (i := 432) (by decide +kernel), by decide +kernel⟩
theorem jm_433 : Cond.selects RX5 yX5_prolongHolds yX5_prolongHolds ∈ lw_W := List.mem_filter.mpr ⟨List.mem_of_getElem? (i := 433) (by decide +kernel), by decide +kernel⟩
theorem jm_434 : Cond.code yX5_prolongHolds cX5_prolongHolds 3 none ∈ lw_W := List.mem_filter.mpr ⟨List.mem_of_getElem? (i := 434) (by decide +kernel), by decide +kernel⟩
theorem jm_435 : Cond.methodLink RX6 141 yX5_holdsOf ∈ lw_W := List.mem_filter.mpr ⟨List.mem_of_getElem? (i := 435) (by decide +kernel), by decide +kernel⟩
theorem jm_436 : Cond.methodLink RL 107 yX6_pass ∈ lw_W := List.mem_filter.mpr ⟨List.mem_of_getElem? (i := 436) (by decide +kernel), by decide +kernel⟩
theorem jm_437 : Cond.instanceMethod yX6_pass ∈ lw_W := List.mem_filter.mpr ⟨List.mem_of_getElem? (i := 437) (by decide +kernel), by decide +kernel⟩
theorem jm_438 : Cond.selects RX6 yX6_pass yX6_pass ∈ lw_W := List.mem_filter.mpr ⟨List.mem_of_getElem? (i := 438) (by decide +kernel), by decide +kernel⟩
theorem jm_439 : Cond.code yX6_pass cX6_pass 2 (some .int) ∈ lw_W := List.mem_filter.mpr ⟨List.mem_of_getElem? (i := 439) (by decide +kernel), by decide +kernel⟩
theorem jm_456 : Cond.methodLink RX6 153 yX5_moveTime ∈ lw_W := List.mem_filter.mpr ⟨List.mem_of_getElem? (i := 456) (by decide +kernel), by decide +kernel⟩
theorem jm_457 : Cond.instanceMethod yX5_moveTime ∈ lw_W := List.mem_filter.mpr ⟨List.mem_of_getElem? (i := 457) (by decide +kernel), by decide +kernel⟩
theorem jm_458 : Cond.selects RX5 yX5_moveTime yX5_moveTime ∈ lw_W := List.mem_filter.mpr ⟨List.mem_of_getElem? (i := 458) (by decide +kernel), by decide +kernel⟩
theorem jm_459 : Cond.code yX5_moveTime cX5_moveTime 4 (some .int) ∈ lw_W := List.mem_filter.mpr ⟨List.mem_of_getElem? (i := 459) (by decide +kernel), by decide +kernel⟩
theorem jm_460 : Cond.methodLink RX5 92 yX4_lapsesBy ∈ lw_W := List.mem_filter.mpr ⟨List.mem_of_getElem? (i := 460) (by decide +kernel), by decide +kernel⟩
theorem jm_461 : Cond.instanceMethod yX4_lapsesBy ∈ lw_W := List.mem_filter.mpr ⟨List.mem_of_getElem? (i := 461) (by decide +kernel), by decide +kernel⟩
theorem jm_462 : Cond.selects RX4 yX4_lapsesBy yX4_lapsesBy ∈ lw_W := List.mem_filter.mpr ⟨List.mem_of_getElem? (i := 462) (by decide +kernel), by decide +kernel⟩
theorem jm_463 : Cond.code yX4_lapsesBy cX4_lapsesBy 2 (some .boolean) ∈ lw_W := List.mem_filter.mpr ⟨List.mem_of_getElem? (i := 463) (by decide +kernel), by decide +kernel⟩
theorem jm_464 : Cond.methodLink RX5 95 yX5_lapse ∈ lw_W := List.mem_filter.mpr ⟨List.mem_of_getElem? (i := 464) (by decide +kernel), by decide +kernel⟩
theorem jm_466 : Cond.instanceMethod yX5_lapse ∈ lw_W := List.mem_filter.mpr ⟨List.mem_of_getElem? (i := 466) (by decide +kernel), by decide +kernel⟩
theorem jm_467 : Cond.code yX5_lapse cX5_lapse 2 none ∈ lw_W := List.mem_filter.mpr ⟨List.mem_of_getElem? (i := 467) (by decide +kernel), by decide +kernel⟩
theorem jm_468 : Cond.methodLink RX5 107 yX4_endHold ∈ lw_W := List.mem_filter.mpr ⟨List.mem_of_getElem? (i := 468) (by decide +kernel), by decide +kernel⟩
theorem jm_469 : Cond.instanceMethod yX4_endHold ∈ lw_W := List.mem_filter.mpr ⟨List.mem_of_getElem? (i := 469) (by decide +kernel), by decide +kernel⟩
theorem jm_470 : Cond.selects RX4 yX4_endHold yX4_endHold ∈ lw_W := List.mem_filter.mpr ⟨List.mem_of_getElem? (i := 470) (by decide +kernel), by decide +kernel⟩
theorem jm_471 : Cond.code yX4_endHold cX4_endHold 2 none ∈ lw_W := List.mem_filter.mpr ⟨List.mem_of_getElem? (i := 471) (by decide +kernel), by decide +kernel⟩
theorem jm_472 : Cond.methodLink RL 91 yL_cell ∈ lw_W := List.mem_filter.mpr ⟨List.mem_of_getElem? (i := 472) (by decide +kernel), by decide +kernel⟩
theorem jm_473 : Cond.static yL_cell ∈ lw_W := List.mem_filter.mpr ⟨List.mem_of_getElem? (i := 473) (by decide +kernel), by decide +kernel⟩
theorem jm_474 : Cond.code yL_cell cL_cell 2 (some .int) ∈ lw_W := List.mem_filter.mpr ⟨List.mem_of_getElem? (i := 474) (by decide +kernel), by decide +kernel⟩
theorem jm_475 : Cond.constant RL 7 (433494437) ∈ lw_W := List.mem_filter.mpr ⟨List.mem_of_getElem? (i := 475) (by decide +kernel), by decide +kernel⟩
theorem jm_476 : Cond.constant RL 8 (982451653) ∈ lw_W := List.mem_filter.mpr ⟨List.mem_of_getElem? (i := 476) (by decide +kernel), by decide +kernel⟩
theorem jm_477 : Cond.methodLink RL 95 yL_low ∈ lw_W := List.mem_filter.mpr ⟨List.mem_of_getElem? (i := 477) (by decide +kernel), by decide +kernel⟩
theorem jm_478 : Cond.static yL_low ∈ lw_W := List.mem_filter.mpr ⟨List.mem_of_getElem? (i := 478) (by decide +kernel), by decide +kernel⟩
theorem jm_479 : Cond.code yL_low cL_low 2 (some .int) ∈ lw_W := List.mem_filter.mpr ⟨List.mem_of_getElem? (i := 479) (by decide +kernel), by decide +kernel⟩
theorem jm_480 : Cond.constant RL 9 (2147483647) ∈ lw_W := List.mem_filter.mpr ⟨List.mem_of_getElem? (i := 480) (by decide +kernel), by decide +kernel⟩
theorem jm_481 : Cond.methodLink RL 98 yL_put ∈ lw_W := List.mem_filter.mpr ⟨List.mem_of_getElem? (i := 481) (by decide +kernel), by decide +kernel⟩
theorem jm_482 : Cond.static yL_put ∈ lw_W := List.mem_filter.mpr ⟨List.mem_of_getElem? (i := 482) (by decide +kernel), by decide +kernel⟩
theorem jm_483 : Cond.codeWith yL_put cL_put 4 (some .int) [(0, 6, 7, 16), (0, 6, 11, 18)] ∈ lw_W := List.mem_filter.mpr ⟨List.mem_of_getElem? (i := 483) (by decide +kernel), by decide +kernel⟩
theorem jm_486 : Cond.methodLink RL 10 yX6_put ∈ lw_W := List.mem_filter.mpr ⟨List.mem_of_getElem? (i := 486) (by decide +kernel), by decide +kernel⟩
theorem jm_487 : Cond.instanceMethod yX6_put ∈ lw_W := List.mem_filter.mpr ⟨List.mem_of_getElem? (i := 487) (by decide +kernel), by decide +kernel⟩
theorem jm_488 : Cond.selects RX6 yX6_put yX6_put ∈ lw_W := List.mem_filter.mpr ⟨List.mem_of_getElem? (i := 488) (by decide +kernel), by decide +kernel⟩
theorem jm_489 : Cond.code yX6_put cX6_put 3 (some .int) ∈ lw_W := List.mem_filter.mpr ⟨List.mem_of_getElem? (i := 489) (by decide +kernel), by decide +kernel⟩
theorem jm_490 : Cond.methodLink RX6 41 yX6_requireRoomFor ∈ lw_W := List.mem_filter.mpr ⟨List.mem_of_getElem? (i := 490) (by decide +kernel), by decide +kernel⟩
theorem jm_492 : Cond.instanceMethod yX6_requireRoomFor ∈ lw_W := List.mem_filter.mpr ⟨List.mem_of_getElem? (i := 492) (by decide +kernel), by decide +kernel⟩
theorem jm_493 : Cond.code yX6_requireRoomFor cX6_requireRoomFor 2 none ∈ lw_W := List.mem_filter.mpr ⟨List.mem_of_getElem? (i := 493) (by decide +kernel), by decide +kernel⟩
theorem jm_495 : Cond.methodLink RX6 49 yX5_addRow ∈ lw_W := List.mem_filter.mpr ⟨List.mem_of_getElem? (i := 495) (by decide +kernel), by decide +kernel⟩
theorem jm_496 : Cond.instanceMethod yX5_addRow ∈ lw_W := List.mem_filter.mpr ⟨List.mem_of_getElem? (i := 496) (by decide +kernel), by decide +kernel⟩
theorem jm_497 : Cond.selects RX5 yX5_addRow yX5_addRow ∈ lw_W := List.mem_filter.mpr ⟨List.mem_of_getElem? (i := 497) (by decide +kernel), by decide +kernel⟩
theorem jm_498 : Cond.code yX5_addRow cX5_addRow 3 none ∈ lw_W := List.mem_filter.mpr ⟨List.mem_of_getElem? (i := 498) (by decide +kernel), by decide +kernel⟩
theorem jm_499 : Cond.methodLink RX5 52 yX4_begin ∈ lw_W := List.mem_filter.mpr ⟨List.mem_of_getElem? (i := 499) (by decide +kernel), by decide +kernel⟩
theorem jm_500 : Cond.instanceMethod yX4_begin ∈ lw_W := List.mem_filter.mpr ⟨List.mem_of_getElem? (i := 500) (by decide +kernel), by decide +kernel⟩
theorem jm_501 : Cond.selects RX4 yX4_begin yX4_begin ∈ lw_W := List.mem_filter.mpr ⟨List.mem_of_getElem? (i := 501) (by decide +kernel), by decide +kernel⟩
theorem jm_502 : Cond.code yX4_begin cX4_begin 5 none ∈ lw_W := List.mem_filter.mpr ⟨List.mem_of_getElem? (i := 502) (by decide +kernel), by decide +kernel⟩
theorem jm_503 : Cond.methodLink RL 103 yL_done ∈ lw_W := List.mem_filter.mpr ⟨List.mem_of_getElem? (i := 503) (by decide +kernel), by decide +kernel⟩
theorem jm_504 : Cond.static yL_done ∈ lw_W := List.mem_filter.mpr ⟨List.mem_of_getElem? (i := 504) (by decide +kernel), by decide +kernel⟩
theorem jm_505 : Cond.codeWith yL_done cL_done 4 (some .int) [(0, 6, 7, 23), (0, 6, 11, 18)] ∈ lw_W := List.mem_filter.mpr ⟨List.mem_of_getElem? (i := 505) (by decide +kernel), by decide +kernel⟩
theorem jm_507 : Cond.methodLink RL 20 yX6_done ∈ lw_W := List.mem_filter.mpr ⟨List.mem_of_getElem? (i := 507) (by decide +kernel), by decide +kernel⟩
theorem jm_508 : Cond.instanceMethod yX6_done ∈ lw_W := List.mem_filter.mpr ⟨List.mem_of_getElem? (i := 508) (by decide +kernel), by decide +kernel⟩
theorem jm_509 : Cond.selects RX6 yX6_done yX6_done ∈ lw_W := List.mem_filter.mpr ⟨List.mem_of_getElem? (i := 509) (by decide +kernel), by decide +kernel⟩
theorem jm_510 : Cond.code yX6_done cX6_done 3 (some .int) ∈ lw_W := List.mem_filter.mpr ⟨List.mem_of_getElem? (i := 510) (by decide +kernel), by decide +kernel⟩
theorem jm_511 : Cond.methodLink RX6 57 yX6_requireRow ∈ lw_W := List.mem_filter.mpr ⟨List.mem_of_getElem? (i := 511) (by decide +kernel), by decide +kernel⟩
theorem jm_513 : Cond.instanceMethod yX6_requireRow ∈ lw_W := List.mem_filter.mpr ⟨List.mem_of_getElem? (i := 513) (by decide +kernel), by decide +kernel⟩
theorem jm_514 : Cond.code yX6_requireRow cX6_requireRow 2 none ∈ lw_W := List.mem_filter.mpr ⟨List.mem_of_getElem? (i := 514) (by decide +kernel), by decide +kernel⟩
theorem jm_516 : Cond.methodLink RX6 128 yX6_requireHold ∈ lw_W := List.mem_filter.mpr ⟨List.mem_of_getElem? (i := 516) (by decide +kernel), by decide +kernel⟩
theorem jm_518 : Cond.instanceMethod yX6_requireHold ∈ lw_W := List.mem_filter.mpr ⟨List.mem_of_getElem? (i := 518) (by decide +kernel), by decide +kernel⟩
theorem jm_519 : Cond.code yX6_requireHold cX6_requireHold 3 none ∈ lw_W := List.mem_filter.mpr ⟨List.mem_of_getElem? (i := 519) (by decide +kernel), by decide +kernel⟩
theorem jm_520 : Cond.methodLink RX6 335 yX4_isHeldBy ∈ lw_W := List.mem_filter.mpr ⟨List.mem_of_getElem? (i := 520) (by decide +kernel), by decide +kernel⟩
theorem jm_522 : Cond.methodLink RX6 131 yX4_endHold ∈ lw_W := List.mem_filter.mpr ⟨List.mem_of_getElem? (i := 522) (by decide +kernel), by decide +kernel⟩
theorem jm_523 : Cond.methodLink RL 105 yL_giveBack ∈ lw_W := List.mem_filter.mpr ⟨List.mem_of_getElem? (i := 523) (by decide +kernel), by decide +kernel⟩
theorem jm_524 : Cond.static yL_giveBack ∈ lw_W := List.mem_filter.mpr ⟨List.mem_of_getElem? (i := 524) (by decide +kernel), by decide +kernel⟩
theorem jm_525 : Cond.codeWith yL_giveBack cL_giveBack 4 (some .int) [(0, 6, 7, 23), (0, 6, 11, 18)] ∈ lw_W := List.mem_filter.mpr ⟨List.mem_of_getElem? (i := 525) (by decide +kernel), by decide +kernel⟩
theorem jm_526 : Cond.methodLink RL 25 yX6_giveBack ∈ lw_W := List.mem_filter.mpr ⟨List.mem_of_getElem? (i := 526) (by decide +kernel), by decide +kernel⟩
theorem jm_527 : Cond.instanceMethod yX6_giveBack ∈ lw_W := List.mem_filter.mpr ⟨List.mem_of_getElem? (i := 527) (by decide +kernel), by decide +kernel⟩
theorem jm_528 : Cond.selects RX6 yX6_giveBack yX6_giveBack ∈ lw_W := List.mem_filter.mpr ⟨List.mem_of_getElem? (i := 528) (by decide +kernel), by decide +kernel⟩
theorem jm_529 : Cond.code yX6_giveBack cX6_giveBack 3 (some .int) ∈ lw_W := List.mem_filter.mpr ⟨List.mem_of_getElem? (i := 529) (by decide +kernel), by decide +kernel⟩
theorem jm_530 : Cond.methodLink RL 120 yL_revive ∈ lw_W := List.mem_filter.mpr ⟨List.mem_of_getElem? (i := 530) (by decide +kernel), by decide +kernel⟩
theorem jm_531 : Cond.static yL_revive ∈ lw_W := List.mem_filter.mpr ⟨List.mem_of_getElem? (i := 531) (by decide +kernel), by decide +kernel⟩
theorem jm_532 : Cond.codeWith yL_revive cL_revive 3 (some .int) [(0, 5, 6, 23), (0, 5, 10, 18)] ∈ lw_W := List.mem_filter.mpr ⟨List.mem_of_getElem? (i := 532) (by decide +kernel), by decide +kernel⟩
theorem jm_533 : Cond.methodLink RL 28 yX6_revive ∈ lw_W := List.mem_filter.mpr ⟨List.mem_of_getElem? (i := 533) (by decide +kernel), by decide +kernel⟩
theorem jm_534 : Cond.instanceMethod yX6_revive ∈ lw_W := List.mem_filter.mpr ⟨List.mem_of_getElem? (i := 534) (by decide +kernel), by decide +kernel⟩
theorem jm_535 : Cond.selects RX6 yX6_revive yX6_revive ∈ lw_W := List.mem_filter.mpr ⟨List.mem_of_getElem? (i := 535) (by decide +kernel), by decide +kernel⟩
theorem jm_536 : Cond.code yX6_revive cX6_revive 3 (some .int) ∈ lw_W := List.mem_filter.mpr ⟨List.mem_of_getElem? (i := 536) (by decide +kernel), by decide +kernel⟩
theorem jm_538 : Cond.methodLink RL 118 yL_urge ∈ lw_W := List.mem_filter.mpr ⟨List.mem_of_getElem? (i := 538) (by decide +kernel), by decide +kernel⟩
theorem jm_539 : Cond.static yL_urge ∈ lw_W := List.mem_filter.mpr ⟨List.mem_of_getElem? (i := 539) (by decide +kernel), by decide +kernel⟩
theorem jm_540 : Cond.codeWith yL_urge cL_urge 4 (some .int) [(0, 6, 7, 23), (0, 6, 11, 16), (0, 6, 15, 18)] ∈ lw_W := List.mem_filter.mpr ⟨List.mem_of_getElem? (i := 540) (by decide +kernel), by decide +kernel⟩
theorem jm_541 : Cond.methodLink RL 32 yX6_urge ∈ lw_W := List.mem_filter.mpr ⟨List.mem_of_getElem? (i := 541) (by decide +kernel), by decide +kernel⟩
theorem jm_542 : Cond.instanceMethod yX6_urge ∈ lw_W := List.mem_filter.mpr ⟨List.mem_of_getElem? (i := 542) (by decide +kernel), by decide +kernel⟩
theorem jm_543 : Cond.selects RX6 yX6_urge yX6_urge ∈ lw_W := List.mem_filter.mpr ⟨List.mem_of_getElem? (i := 543) (by decide +kernel), by decide +kernel⟩
theorem jm_544 : Cond.code yX6_urge cX6_urge 4 (some .int) ∈ lw_W := List.mem_filter.mpr ⟨List.mem_of_getElem? (i := 544) (by decide +kernel), by decide +kernel⟩
theorem jm_545 : Cond.methodLink RX6 64 yX4_isOpen ∈ lw_W := List.mem_filter.mpr ⟨List.mem_of_getElem? (i := 545) (by decide +kernel), by decide +kernel⟩
theorem jm_547 : Cond.methodLink RL 41 yL_held ∈ lw_W := List.mem_filter.mpr ⟨List.mem_of_getElem? (i := 547) (by decide +kernel), by decide +kernel⟩
theorem jm_548 : Cond.static yL_held ∈ lw_W := List.mem_filter.mpr ⟨List.mem_of_getElem? (i := 548) (by decide +kernel), by decide +kernel⟩
theorem jm_549 : Cond.code yL_held cL_held 5 (some .int) ∈ lw_W := List.mem_filter.mpr ⟨List.mem_of_getElem? (i := 549) (by decide +kernel), by decide +kernel⟩
theorem jm_550 : Cond.methodLink RL 59 yL_take ∈ lw_W := List.mem_filter.mpr ⟨List.mem_of_getElem? (i := 550) (by decide +kernel), by decide +kernel⟩
theorem jm_551 : Cond.static yL_take ∈ lw_W := List.mem_filter.mpr ⟨List.mem_of_getElem? (i := 551) (by decide +kernel), by decide +kernel⟩
theorem jm_552 : Cond.code yL_take cL_take 8 none ∈ lw_W := List.mem_filter.mpr ⟨List.mem_of_getElem? (i := 552) (by decide +kernel), by decide +kernel⟩
theorem jm_553 : Cond.methodLink RL 45 yL_next ∈ lw_W := List.mem_filter.mpr ⟨List.mem_of_getElem? (i := 553) (by decide +kernel), by decide +kernel⟩
theorem jm_554 : Cond.static yL_next ∈ lw_W := List.mem_filter.mpr ⟨List.mem_of_getElem? (i := 554) (by decide +kernel), by decide +kernel⟩
theorem jm_555 : Cond.code yL_next cL_next 6 (some .int) ∈ lw_W := List.mem_filter.mpr ⟨List.mem_of_getElem? (i := 555) (by decide +kernel), by decide +kernel⟩
theorem jm_556 : Cond.methodLink RL 35 yL_rank ∈ lw_W := List.mem_filter.mpr ⟨List.mem_of_getElem? (i := 556) (by decide +kernel), by decide +kernel⟩
theorem jm_557 : Cond.static yL_rank ∈ lw_W := List.mem_filter.mpr ⟨List.mem_of_getElem? (i := 557) (by decide +kernel), by decide +kernel⟩
theorem jm_558 : Cond.code yL_rank cL_rank 2 (some .int) ∈ lw_W := List.mem_filter.mpr ⟨List.mem_of_getElem? (i := 558) (by decide +kernel), by decide +kernel⟩
theorem jm_559 : Cond.methodLink RL 48 yL_blocked ∈ lw_W := List.mem_filter.mpr ⟨List.mem_of_getElem? (i := 559) (by decide +kernel), by decide +kernel⟩
theorem jm_560 : Cond.static yL_blocked ∈ lw_W := List.mem_filter.mpr ⟨List.mem_of_getElem? (i := 560) (by decide +kernel), by decide +kernel⟩
theorem jm_561 : Cond.code yL_blocked cL_blocked 4 (some .boolean) ∈ lw_W := List.mem_filter.mpr ⟨List.mem_of_getElem? (i := 561) (by decide +kernel), by decide +kernel⟩
theorem jm_562 : Cond.methodLink RL 70 yL_pass ∈ lw_W := List.mem_filter.mpr ⟨List.mem_of_getElem? (i := 562) (by decide +kernel), by decide +kernel⟩
theorem jm_563 : Cond.static yL_pass ∈ lw_W := List.mem_filter.mpr ⟨List.mem_of_getElem? (i := 563) (by decide +kernel), by decide +kernel⟩
theorem jm_564 : Cond.code yL_pass cL_pass 7 (some .int) ∈ lw_W := List.mem_filter.mpr ⟨List.mem_of_getElem? (i := 564) (by decide +kernel), by decide +kernel⟩
theorem jm_565 : Cond.methodLink RL 126 yL_same ∈ lw_W := List.mem_filter.mpr ⟨List.mem_of_getElem? (i := 565) (by decide +kernel), by decide +kernel⟩
theorem jm_566 : Cond.static yL_same ∈ lw_W := List.mem_filter.mpr ⟨List.mem_of_getElem? (i := 566) (by decide +kernel), by decide +kernel⟩
set_option maxRecDepth 100000 in
theorem jm_567 : Cond.code yL_same cL_same 16 (some .boolean) ∈ lw_W := List.mem_filter.mpr ⟨List.mem_of_getElem? (i := 567) (rfl), rfl⟩
theorem jm_568 : Cond.methodLink RL 52 yX6_row ∈ lw_W := List.mem_filter.mpr ⟨List.mem_of_getElem? (i := 568) (by decide +kernel), by decide +kernel⟩
theorem jm_569 : Cond.instanceMethod yX6_row ∈ lw_W := List.mem_filter.mpr ⟨List.mem_of_getElem? (i := 569) (by decide +kernel), by decide +kernel⟩
theorem jm_570 : Cond.selects RX6 yX6_row yX6_row ∈ lw_W := List.mem_filter.mpr ⟨List.mem_of_getElem? (i := 570) (by decide +kernel), by decide +kernel⟩
theorem jm_571 : Cond.code yX6_row cX6_row 4 (some .int) ∈ lw_W := List.mem_filter.mpr ⟨List.mem_of_getElem? (i := 571) (by decide +kernel), by decide +kernel⟩
theorem jm_572 : Cond.methodLink RX6 210 yX5_isBlocked ∈ lw_W := List.mem_filter.mpr ⟨List.mem_of_getElem? (i := 572) (by decide +kernel), by decide +kernel⟩
theorem jm_573 : Cond.methodLink RX6 214 yX5_placeOf ∈ lw_W := List.mem_filter.mpr ⟨List.mem_of_getElem? (i := 573) (by decide +kernel), by decide +kernel⟩
theorem jm_574 : Cond.instanceMethod yX5_placeOf ∈ lw_W := List.mem_filter.mpr ⟨List.mem_of_getElem? (i := 574) (by decide +kernel), by decide +kernel⟩
theorem jm_575 : Cond.selects RX5 yX5_placeOf yX5_placeOf ∈ lw_W := List.mem_filter.mpr ⟨List.mem_of_getElem? (i := 575) (by decide +kernel), by decide +kernel⟩
theorem jm_576 : Cond.code yX5_placeOf cX5_placeOf 4 (some .int) ∈ lw_W := List.mem_filter.mpr ⟨List.mem_of_getElem? (i := 576) (by decide +kernel), by decide +kernel⟩
theorem jm_577 : Cond.methodLink RX5 115 yX5_isAhead ∈ lw_W := List.mem_filter.mpr ⟨List.mem_of_getElem? (i := 577) (by decide +kernel), by decide +kernel⟩
theorem jm_579 : Cond.instanceMethod yX5_isAhead ∈ lw_W := List.mem_filter.mpr ⟨List.mem_of_getElem? (i := 579) (by decide +kernel), by decide +kernel⟩
theorem jm_580 : Cond.code yX5_isAhead cX5_isAhead 3 (some .boolean) ∈ lw_W := List.mem_filter.mpr ⟨List.mem_of_getElem? (i := 580) (by decide +kernel), by decide +kernel⟩
theorem jm_581 : Cond.methodLink RL 55 yL_copy ∈ lw_W := List.mem_filter.mpr ⟨List.mem_of_getElem? (i := 581) (by decide +kernel), by decide +kernel⟩
theorem jm_582 : Cond.static yL_copy ∈ lw_W := List.mem_filter.mpr ⟨List.mem_of_getElem? (i := 582) (by decide +kernel), by decide +kernel⟩
theorem jm_583 : Cond.code yL_copy cL_copy 5 none ∈ lw_W := List.mem_filter.mpr ⟨List.mem_of_getElem? (i := 583) (by decide +kernel), by decide +kernel⟩
theorem jm_584 : Cond.methodLink RL 63 yX6_reader ∈ lw_W := List.mem_filter.mpr ⟨List.mem_of_getElem? (i := 584) (by decide +kernel), by decide +kernel⟩
theorem jm_585 : Cond.instanceMethod yX6_reader ∈ lw_W := List.mem_filter.mpr ⟨List.mem_of_getElem? (i := 585) (by decide +kernel), by decide +kernel⟩
theorem jm_586 : Cond.selects RX6 yX6_reader yX6_reader ∈ lw_W := List.mem_filter.mpr ⟨List.mem_of_getElem? (i := 586) (by decide +kernel), by decide +kernel⟩
theorem jm_587 : Cond.code yX6_reader cX6_reader 4 (some .int) ∈ lw_W := List.mem_filter.mpr ⟨List.mem_of_getElem? (i := 587) (by decide +kernel), by decide +kernel⟩
theorem jm_588 : Cond.methodLink RX6 223 yX5_firstLapseOf ∈ lw_W := List.mem_filter.mpr ⟨List.mem_of_getElem? (i := 588) (by decide +kernel), by decide +kernel⟩
theorem jm_589 : Cond.instanceMethod yX5_firstLapseOf ∈ lw_W := List.mem_filter.mpr ⟨List.mem_of_getElem? (i := 589) (by decide +kernel), by decide +kernel⟩
theorem jm_590 : Cond.selects RX5 yX5_firstLapseOf yX5_firstLapseOf ∈ lw_W := List.mem_filter.mpr ⟨List.mem_of_getElem? (i := 590) (by decide +kernel), by decide +kernel⟩
theorem jm_591 : Cond.code yX5_firstLapseOf cX5_firstLapseOf 4 (some .int) ∈ lw_W := List.mem_filter.mpr ⟨List.mem_of_getElem? (i := 591) (by decide +kernel), by decide +kernel⟩
theorem jm_592 : Cond.methodLink RL 66 yX6_ifTaken ∈ lw_W := List.mem_filter.mpr ⟨List.mem_of_getElem? (i := 592) (by decide +kernel), by decide +kernel⟩
theorem jm_593 : Cond.instanceMethod yX6_ifTaken ∈ lw_W := List.mem_filter.mpr ⟨List.mem_of_getElem? (i := 593) (by decide +kernel), by decide +kernel⟩
theorem jm_594 : Cond.selects RX6 yX6_ifTaken yX6_ifTaken ∈ lw_W := List.mem_filter.mpr ⟨List.mem_of_getElem? (i := 594) (by decide +kernel), by decide +kernel⟩
theorem jm_595 : Cond.code yX6_ifTaken cX6_ifTaken 4 (some .int) ∈ lw_W := List.mem_filter.mpr ⟨List.mem_of_getElem? (i := 595) (by decide +kernel), by decide +kernel⟩
theorem jm_596 : Cond.methodLink RL 73 yX6_ifPassed ∈ lw_W := List.mem_filter.mpr ⟨List.mem_of_getElem? (i := 596) (by decide +kernel), by decide +kernel⟩
theorem jm_597 : Cond.instanceMethod yX6_ifPassed ∈ lw_W := List.mem_filter.mpr ⟨List.mem_of_getElem? (i := 597) (by decide +kernel), by decide +kernel⟩
theorem jm_598 : Cond.selects RX6 yX6_ifPassed yX6_ifPassed ∈ lw_W := List.mem_filter.mpr ⟨List.mem_of_getElem? (i := 598) (by decide +kernel), by decide +kernel⟩
theorem jm_599 : Cond.code yX6_ifPassed cX6_ifPassed 4 (some .int) ∈ lw_W := List.mem_filter.mpr ⟨List.mem_of_getElem? (i := 599) (by decide +kernel), by decide +kernel⟩
theorem jm_600 : Cond.methodLink RX6 255 yX5_holdsEndedBy ∈ lw_W := List.mem_filter.mpr ⟨List.mem_of_getElem? (i := 600) (by decide +kernel), by decide +kernel⟩
theorem jm_601 : Cond.instanceMethod yX5_holdsEndedBy ∈ lw_W := List.mem_filter.mpr ⟨List.mem_of_getElem? (i := 601) (by decide +kernel), by decide +kernel⟩
theorem jm_602 : Cond.selects RX5 yX5_holdsEndedBy yX5_holdsEndedBy ∈ lw_W := List.mem_filter.mpr ⟨List.mem_of_getElem? (i := 602) (by decide +kernel), by decide +kernel⟩
theorem jm_603 : Cond.code yX5_holdsEndedBy cX5_holdsEndedBy 4 (some .int) ∈ lw_W := List.mem_filter.mpr ⟨List.mem_of_getElem? (i := 603) (by decide +kernel), by decide +kernel⟩
theorem jm_604 : Cond.methodLink RX6 258 yX5_deadBy ∈ lw_W := List.mem_filter.mpr ⟨List.mem_of_getElem? (i := 604) (by decide +kernel), by decide +kernel⟩
theorem jm_605 : Cond.instanceMethod yX5_deadBy ∈ lw_W := List.mem_filter.mpr ⟨List.mem_of_getElem? (i := 605) (by decide +kernel), by decide +kernel⟩
theorem jm_606 : Cond.selects RX5 yX5_deadBy yX5_deadBy ∈ lw_W := List.mem_filter.mpr ⟨List.mem_of_getElem? (i := 606) (by decide +kernel), by decide +kernel⟩
theorem jm_607 : Cond.code yX5_deadBy cX5_deadBy 4 (some .int) ∈ lw_W := List.mem_filter.mpr ⟨List.mem_of_getElem? (i := 607) (by decide +kernel), by decide +kernel⟩
theorem jm_608 : Cond.methodLink RX5 111 yX5_rowsIn ∈ lw_W := List.mem_filter.mpr ⟨List.mem_of_getElem? (i := 608) (by decide +kernel), by decide +kernel⟩
theorem jm_609 : Cond.instanceMethod yX5_rowsIn ∈ lw_W := List.mem_filter.mpr ⟨List.mem_of_getElem? (i := 609) (by decide +kernel), by decide +kernel⟩
theorem jm_610 : Cond.selects RX5 yX5_rowsIn yX5_rowsIn ∈ lw_W := List.mem_filter.mpr ⟨List.mem_of_getElem? (i := 610) (by decide +kernel), by decide +kernel⟩
theorem jm_611 : Cond.code yX5_rowsIn cX5_rowsIn 4 (some .int) ∈ lw_W := List.mem_filter.mpr ⟨List.mem_of_getElem? (i := 611) (by decide +kernel), by decide +kernel⟩
theorem jm_612 : Cond.methodLink RL 76 yX6_freest ∈ lw_W := List.mem_filter.mpr ⟨List.mem_of_getElem? (i := 612) (by decide +kernel), by decide +kernel⟩
theorem jm_613 : Cond.instanceMethod yX6_freest ∈ lw_W := List.mem_filter.mpr ⟨List.mem_of_getElem? (i := 613) (by decide +kernel), by decide +kernel⟩
theorem jm_614 : Cond.selects RX6 yX6_freest yX6_freest ∈ lw_W := List.mem_filter.mpr ⟨List.mem_of_getElem? (i := 614) (by decide +kernel), by decide +kernel⟩
theorem jm_615 : Cond.code yX6_freest cX6_freest 4 (some .int) ∈ lw_W := List.mem_filter.mpr ⟨List.mem_of_getElem? (i := 615) (by decide +kernel), by decide +kernel⟩
theorem jm_616 : Cond.methodLink RL 80 yX6_fairness ∈ lw_W := List.mem_filter.mpr ⟨List.mem_of_getElem? (i := 616) (by decide +kernel), by decide +kernel⟩
theorem jm_617 : Cond.instanceMethod yX6_fairness ∈ lw_W := List.mem_filter.mpr ⟨List.mem_of_getElem? (i := 617) (by decide +kernel), by decide +kernel⟩
theorem jm_618 : Cond.selects RX6 yX6_fairness yX6_fairness ∈ lw_W := List.mem_filter.mpr ⟨List.mem_of_getElem? (i := 618) (by decide +kernel), by decide +kernel⟩
theorem jm_619 : Cond.code yX6_fairness cX6_fairness 1 (some .double) ∈ lw_W := List.mem_filter.mpr ⟨List.mem_of_getElem? (i := 619) (by decide +kernel), by decide +kernel⟩
theorem jm_620 : Cond.methodLink RX6 261 yX5_greatestSkipsWaiting ∈ lw_W := List.mem_filter.mpr ⟨List.mem_of_getElem? (i := 620) (by decide +kernel), by decide +kernel⟩
theorem jm_621 : Cond.instanceMethod yX5_greatestSkipsWaiting ∈ lw_W := List.mem_filter.mpr ⟨List.mem_of_getElem? (i := 621) (by decide +kernel), by decide +kernel⟩
theorem jm_622 : Cond.selects RX5 yX5_greatestSkipsWaiting yX5_greatestSkipsWaiting ∈ lw_W := List.mem_filter.mpr ⟨List.mem_of_getElem? (i := 622) (by decide +kernel), by decide +kernel⟩
theorem jm_623 : Cond.code yX5_greatestSkipsWaiting cX5_greatestSkipsWaiting 3 (some .int) ∈ lw_W := List.mem_filter.mpr ⟨List.mem_of_getElem? (i := 623) (by decide +kernel), by decide +kernel⟩
theorem jm_624 : Cond.methodLink RX5 128 yJ9_max_7cf53 ∈ lw_W := List.mem_filter.mpr ⟨List.mem_of_getElem? (i := 624) (by decide +kernel), by decide +kernel⟩
theorem jm_625 : Cond.static yJ9_max_7cf53 ∈ lw_W := List.mem_filter.mpr ⟨List.mem_of_getElem? (i := 625) (by decide +kernel), by decide +kernel⟩
theorem jm_626 : Cond.code yJ9_max_7cf53 cJ9_max_7cf53 2 (some .int) ∈ lw_W := List.mem_filter.mpr ⟨List.mem_of_getElem? (i := 626) (by decide +kernel), by decide +kernel⟩
theorem jm_627 : Cond.methodLink RL 84 yX6_count ∈ lw_W := List.mem_filter.mpr ⟨List.mem_of_getElem? (i := 627) (by decide +kernel), by decide +kernel⟩
theorem jm_628 : Cond.instanceMethod yX6_count ∈ lw_W := List.mem_filter.mpr ⟨List.mem_of_getElem? (i := 628) (by decide +kernel), by decide +kernel⟩
theorem jm_629 : Cond.selects RX6 yX6_count yX6_count ∈ lw_W := List.mem_filter.mpr ⟨List.mem_of_getElem? (i := 629) (by decide +kernel), by decide +kernel⟩
theorem jm_630 : Cond.code yX6_count cX6_count 2 (some .int) ∈ lw_W := List.mem_filter.mpr ⟨List.mem_of_getElem? (i := 630) (by decide +kernel), by decide +kernel⟩
theorem jm_631 : Cond.methodLink RX6 233 yX5_rowsIn ∈ lw_W := List.mem_filter.mpr ⟨List.mem_of_getElem? (i := 631) (by decide +kernel), by decide +kernel⟩
theorem jm_632 : Cond.methodLink RX6 239 yX5_blockedWaiting ∈ lw_W := List.mem_filter.mpr ⟨List.mem_of_getElem? (i := 632) (by decide +kernel), by decide +kernel⟩
theorem jm_633 : Cond.instanceMethod yX5_blockedWaiting ∈ lw_W := List.mem_filter.mpr ⟨List.mem_of_getElem? (i := 633) (by decide +kernel), by decide +kernel⟩
theorem jm_634 : Cond.selects RX5 yX5_blockedWaiting yX5_blockedWaiting ∈ lw_W := List.mem_filter.mpr ⟨List.mem_of_getElem? (i := 634) (by decide +kernel), by decide +kernel⟩
theorem jm_635 : Cond.code yX5_blockedWaiting cX5_blockedWaiting 3 (some .int) ∈ lw_W := List.mem_filter.mpr ⟨List.mem_of_getElem? (i := 635) (by decide +kernel), by decide +kernel⟩
theorem jm_636 : Cond.methodLink RX6 243 yX5_unlikePairs ∈ lw_W := List.mem_filter.mpr ⟨List.mem_of_getElem? (i := 636) (by decide +kernel), by decide +kernel⟩
theorem jm_637 : Cond.instanceMethod yX5_unlikePairs ∈ lw_W := List.mem_filter.mpr ⟨List.mem_of_getElem? (i := 637) (by decide +kernel), by decide +kernel⟩
theorem jm_638 : Cond.selects RX5 yX5_unlikePairs yX5_unlikePairs ∈ lw_W := List.mem_filter.mpr ⟨List.mem_of_getElem? (i := 638) (by decide +kernel), by decide +kernel⟩
theorem jm_639 : Cond.code yX5_unlikePairs cX5_unlikePairs 3 (some .int) ∈ lw_W := List.mem_filter.mpr ⟨List.mem_of_getElem? (i := 639) (by decide +kernel), by decide +kernel⟩
theorem jm_640 : Cond.methodLink RX5 125 yX5_hasEarlierPair ∈ lw_W := List.mem_filter.mpr ⟨List.mem_of_getElem? (i := 640) (by decide +kernel), by decide +kernel⟩
theorem jm_642 : Cond.instanceMethod yX5_hasEarlierPair ∈ lw_W := List.mem_filter.mpr ⟨List.mem_of_getElem? (i := 642) (by decide +kernel), by decide +kernel⟩
theorem jm_643 : Cond.code yX5_hasEarlierPair cX5_hasEarlierPair 3 (some .boolean) ∈ lw_W := List.mem_filter.mpr ⟨List.mem_of_getElem? (i := 643) (by decide +kernel), by decide +kernel⟩
theorem jm_644 : Cond.methodLink RX6 246 yX5_firstWaiting ∈ lw_W := List.mem_filter.mpr ⟨List.mem_of_getElem? (i := 644) (by decide +kernel), by decide +kernel⟩
theorem jm_645 : Cond.instanceMethod yX5_firstWaiting ∈ lw_W := List.mem_filter.mpr ⟨List.mem_of_getElem? (i := 645) (by decide +kernel), by decide +kernel⟩
theorem jm_646 : Cond.selects RX5 yX5_firstWaiting yX5_firstWaiting ∈ lw_W := List.mem_filter.mpr ⟨List.mem_of_getElem? (i := 646) (by decide +kernel), by decide +kernel⟩
theorem jm_647 : Cond.code yX5_firstWaiting cX5_firstWaiting 2 (some .int) ∈ lw_W := List.mem_filter.mpr ⟨List.mem_of_getElem? (i := 647) (by decide +kernel), by decide +kernel⟩
theorem jm_648 : Cond.methodLink RL 87 yX6_setting ∈ lw_W := List.mem_filter.mpr ⟨List.mem_of_getElem? (i := 648) (by decide +kernel), by decide +kernel⟩
theorem jm_649 : Cond.instanceMethod yX6_setting ∈ lw_W := List.mem_filter.mpr ⟨List.mem_of_getElem? (i := 649) (by decide +kernel), by decide +kernel⟩
theorem jm_650 : Cond.selects RX6 yX6_setting yX6_setting ∈ lw_W := List.mem_filter.mpr ⟨List.mem_of_getElem? (i := 650) (by decide +kernel), by decide +kernel⟩
theorem jm_651 : Cond.code yX6_setting cX6_setting 2 (some .int) ∈ lw_W := List.mem_filter.mpr ⟨List.mem_of_getElem? (i := 651) (by decide +kernel), by decide +kernel⟩
theorem jmAI : Cond.arrayClass .int ∈ lw_W := List.mem_filter.mpr ⟨List.mem_of_getElem? (i := 93) (by decide +kernel), by decide +kernel⟩
theorem jmO : Cond.code objectInit ⟨#[0xb1]⟩ 1 none ∈ lw_W := List.mem_filter.mpr ⟨List.mem_of_getElem? (i := 31) (by decide +kernel), by decide +kernel⟩
end
