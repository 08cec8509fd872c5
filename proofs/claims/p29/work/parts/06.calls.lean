/-! calls, and the whole of it -/
section JC
variable {p : Program} {l : Launch} {e : Env} {R : Room} {s : State} {m : MethodId} {args : Array Value} {below : List Frame} {meth : Method} {c : Code} {Q : State → Prop} {G : jgG} {M : jgM} {D : va_G} {cy : Nat → ClassId} {own : String} {nL hs0 sl0 : Nat}
variable {pc : Nat} {ls : List (Option Value)} {st rest : List Value} {σ : jgS}
/-- from here the exception that is thrown over this frame goes its way -/
def jGoX (p : Program) (l : Launch) (e : Env) (R : Room) (s : State) (m : MethodId) (args : Array Value) (below : List Frame) (meth : Method) (c : Code) (Q : State → Prop) (G : jgG) (D : va_G) (cy : Nat → ClassId) (nL hs0 sl0 : Nat) (pc : Nat) (ls : List (Option Value)) (rest : List Value) (E : String) (σ : jgS) : Prop :=
  ∀ (lsA : Array Slot) (H : Heap) (locs : List Loc) (cells slots : Nat) (q : Nat) (ce : Cell), jlv lsA nL ls → jH D cy G σ H → va_S (jA G) s.heap H locs → jhs σ = hs0 + cells → jsl σ = sl0 + slots → H[q]? = some ce → ce.vm = .none → s.vm.findClass E = some ce.cls → vx_W p l e R s m args below meth c H locs cells slots Q (F0 m pc lsA rest) q
theorem js_pre {As : List Value} {H : Heap} {locs : List Loc} (hB : jB D cy G s) (hH : jH D cy G σ H) (hHb : H.size ≤ jhs σ) (hS : va_S (jA G) s.heap H locs) : PreS s H (jPre D cy G As σ) As :=
  ⟨jPre_blind, fun U hU hW => ⟨rfl, hB.moved hW (by rw [hU]; exact hS.1) (fun a h1 h2 => by rw [hU]; exact hS.2.1 a h1 h2), by rw [hU]; exact hH, by rw [hU]; exact hHb⟩⟩
theorem js_goes {r : jgR} {H : Heap} {lsA : Array Slot} {locs : List Loc} {cells slots : Nat} {a : Array Value} {st0 : List Value} (hlv : jlv lsA nL ls) (hH : jH D cy G σ H) (hS : va_S (jA G) s.heap H locs) (hc : jhs σ = hs0 + cells) (hs : jsl σ = sl0 + slots) (hm1 : jhs σ ≤ jhs r.2) (hm2 : jsl σ ≤ jsl r.2)
    (hr : vx_Run p l e R s m args below meth c H locs cells slots (jhs r.2 - jhs σ) (jsl r.2 - jsl σ) (F0 m pc lsA st0) rest (jPost D cy G r a) (jX D cy G r) (jA G))
    (kv : ∀ v, r.1 = .inl v → jGo p l e R s m args below meth c Q G D cy nL hs0 sl0 (pc + 3) ls (v.toList ++ rest) r.2) (kx : ∀ E, r.1 = .inr E → jGoX p l e R s m args below meth c Q G D cy nL hs0 sl0 pc ls rest E r.2) : W p l e R s m args below meth c H locs cells slots Q (F0 m pc lsA st0) := by
  intro T hT X
  rcases hr T hT X with ⟨v, st₀, t, T', L, h0, X', hL, e1, e2, ⟨v', hrv, hv, hH', hF⟩, st⟩ | ⟨q, st₀, t, T', L, E, ce, h0, X', hL, e1, e2, ⟨hrE, hH', hF⟩, hce, hcv, hcl, st⟩
  · have hvv : v = v' := Outcome.returned.inj hv
    subst hvv
    obtain ⟨-, -, k3⟩ := vx_keep h0 e1 hS (fun q _ h => h) (fun q h => h) hL hF
    rw [← e1] at hH'
    obtain ⟨t2, a1, b1⟩ := kv v hrv lsA T'.heap (locs ++ L) (cells + (jhs r.2 - jhs σ)) (slots + (jsl r.2 - jsl σ)) hlv hH' k3 (by omega) (by omega) T' rfl X'
    exact ⟨t2, st t2 a1, b1⟩
  · obtain ⟨-, -, k3⟩ := vx_keep h0 e1 hS (fun q _ h => h) (fun q h => h) hL hF
    rw [← e1] at hH'
    obtain ⟨t2, a1, b1⟩ := kx E hrE lsA T'.heap (locs ++ L) (cells + (jhs r.2 - jhs σ)) (slots + (jsl r.2 - jsl σ)) q ce hlv hH' k3 (by omega) (by omega) (by rw [e1]; exact hce) hcv hcl T' rfl X'
    exact ⟨t2, st.trans a1, b1⟩
/-- a contract that doesn't throw, in the kit's plain form -/
theorem jMet_plain {y : MethodName} {ws : List Cond} {rm : Room} {Pc : Array Value → State → Prop} {r : jgR} {mc ms : Nat} (hr : ∀ E, r.1 ≠ .inr E) (h : vx_Met l y ws rm Pc (jPost D cy G r) (jX D cy G r) mc ms (jA G)) : Met l y ws rm Pc (jPost D cy G r) mc ms (jA G) := by
  intro p e h1 h2 h3 s m args below h4 h5 h6 h7
  obtain ⟨n, o, q1, q2, q3, q4⟩ := h p e h1 h2 h3 s m args below h4 h5 h6 h7
  refine ⟨n, o, q1, q2, q3, ?_⟩
  rcases q4 with q4 | ⟨q, -, E, ce, L, ⟨hx, -⟩, -⟩
  · exact q4
  · exact absurd hx (hr E)
theorem jargs_split {n : Nat} (h : n ≤ st.length) : st = (jargs st n).reverse ++ st.drop n := by
  unfold jargs
  rw [List.reverse_reverse, List.take_append_drop]
theorem jargs_len {n : Nat} (h : n ≤ st.length) : (jargs st n).length = n := by
  unfold jargs
  rw [List.length_reverse, List.length_take, Nat.min_eq_left h]
/-- words of a plain call -/
theorem jwsPlain {I : jgI} (h : I.2.2.2.2.2.2.2.2.2 = []) : jws I = Cond.code I.2.2.1 I.2.2.2.1 I.2.2.2.2.1 I.2.2.2.2.2.1 :: lw_W := by
  unfold jws jcw
  rw [if_pos h]
theorem jwsWith {I : jgI} (h : I.2.2.2.2.2.2.2.2.2 ≠ []) : jws I = Cond.codeWith I.2.2.1 I.2.2.2.1 I.2.2.2.2.1 I.2.2.2.2.2.1 I.2.2.2.2.2.2.2.2.2 :: lw_W := by
  unfold jws jcw
  rw [if_neg h]
theorem jwsGood {I : jgI} (h : jcw I ∈ lw_W) : ∀ w ∈ jws I, w ∈ lw_W := fun w hw => (List.mem_cons.mp hw).elim (fun e => by rw [e]; exact h) id
theorem jcallB {i : Nat} {I : jgI} {mc ms : Nat} (hts : ∀ w ∈ lw_W, w.before args s = true) (hC : jCok own i I R) (hh : I.2.2.2.2.2.2.2.2.2 = []) (hl : Cond.methodLink own i I.2.2.1 ∈ lw_W) : CallB R s args own i I.2.2.1 I.2.2.2.1 I.2.2.2.2.1 I.2.2.2.2.2.1 (jws I) { frames := I.2.2.2.2.2.2.2.1, cells := mc, slots := ms, locals := I.2.2.2.2.2.2.2.2.1 } mc ms I.2.2.2.2.2.2.1 := by
  obtain ⟨h1, h2, h3, h4, -⟩ := hC
  exact callB_of I.2.2.2.2.2.2.1 hts (jgoodIn (jwsGood h1)) (jwsPlain hh) rfl rfl (hts _ h2) (hts _ hl) h3 h4
theorem js_virtual {i : Nat} {I : jgI} {S : jgSpec} {b : Nat} {As : List Value} {r : jgR} (C : jCx p s m args c M D cy G own nL hs0) (hd : decode M.1 pc = .ok (.invokevirtual i, 3)) (hC : jCok own i I R) (hM : jMet l D cy G I S) (hI : I.1 = 0) (hn : I.2.2.2.2.2.2.1 + 1 ≤ st.length) (hA : jargs st (I.2.2.2.2.2.2.1 + 1) = .ref b :: As) (hin : jin G σ b) (hkd : (G.2.2.2.1 b).1 = I.2.1) (hcat : jcat (st.drop (I.2.2.2.2.2.2.1 + 1)) ≤ 8) (hr : S (.ref b :: As) σ r)
    (hroom : jhs r.2 ≤ hs0 + R.cells ∧ jsl r.2 ≤ sl0 + R.slots)
    (kv : ∀ v, r.1 = .inl v → jGo p l e R s m args below meth c Q G D cy nL hs0 sl0 (pc + 3) ls (v.toList ++ st.drop (I.2.2.2.2.2.2.1 + 1)) r.2) (kx : ∀ E, r.1 = .inr E → jGoX p l e R s m args below meth c Q G D cy nL hs0 sl0 pc ls (st.drop (I.2.2.2.2.2.2.1 + 1)) E r.2) : jGo p l e R s m args below meth c Q G D cy nL hs0 sl0 pc ls st σ := by
  intro lsA H locs cells slots hv hH hS hc hs
  obtain ⟨hx, hb, hml, hown, hts, hB, h0⟩ := C
  obtain ⟨m1, m2, m3⟩ := hM _ _ _ hr
  rcases id hC.2.2.2.2 with ⟨-, w1, w2, w3, hh, h8, rr, hrr, hrn⟩ | ⟨h, -⟩ | ⟨h, -⟩ | ⟨h, -⟩ | ⟨h, -⟩
  · refine js_bound h0 hc fun hHb => ?_
    have hpre := js_pre (As := .ref b :: As) hB hH hHb hS
    obtain ⟨pl, hpl⟩ := js_obj (cy := cy) (H := H) hin hkd h8
    have hrecv := va_recv hB.1 hH.1 hrr hpl
    rw [hrn] at hrecv
    refine js_goes hv hH hS hc hs m1 m2 (vx_runV (As := As) (rest := st.drop (I.2.2.2.2.2.2.1 + 1)) ⟨hx, hb, hml, hown, hts⟩ m3 ⟨jcallB hts hC hh w1, hts _ w2, hts _ w3⟩ ⟨hpre.1, hrecv, hpre.2⟩ rfl ?_ hv.2.1 ?_ (lv_room hcat) hd ⟨by omega, by omega⟩) kv kx
    · have := jargs_len hn
      rw [hA] at this
      simpa using this
    · have := jargs_split hn
      rw [hA, List.reverse_cons, List.append_assoc] at this
      exact this
  all_goals (rw [hI] at h; cases h)
theorem js_static {i : Nat} {I : jgI} {S : jgSpec} {r : jgR} (C : jCx p s m args c M D cy G own nL hs0) (hd : decode M.1 pc = .ok (.invokestatic i, 3)) (hC : jCok own i I R) (hM : jMet l D cy G I S) (hI : I.1 = 1 ∨ I.1 = 4) (hn : I.2.2.2.2.2.2.1 ≤ st.length) (hcat : jcat (st.drop I.2.2.2.2.2.2.1) ≤ 8) (hr : S (jargs st I.2.2.2.2.2.2.1) σ r)
    (hroom : jhs r.2 ≤ hs0 + R.cells ∧ jsl r.2 ≤ sl0 + R.slots)
    (kv : ∀ v, r.1 = .inl v → jGo p l e R s m args below meth c Q G D cy nL hs0 sl0 (pc + 3) ls (v.toList ++ st.drop I.2.2.2.2.2.2.1) r.2) (kx : ∀ E, r.1 = .inr E → jGoX p l e R s m args below meth c Q G D cy nL hs0 sl0 pc ls (st.drop I.2.2.2.2.2.2.1) E r.2) : jGo p l e R s m args below meth c Q G D cy nL hs0 sl0 pc ls st σ := by
  intro lsA H locs cells slots hv hH hS hc hs
  obtain ⟨hx, hb, hml, hown, hts, hB, h0⟩ := C
  obtain ⟨m1, m2, m3⟩ := hM _ _ _ hr
  refine js_bound h0 hc fun hHb => ?_
  have hpre := js_pre (As := jargs st I.2.2.2.2.2.2.1) hB hH hHb hS
  rcases id hC.2.2.2.2 with ⟨h, -⟩ | ⟨-, w1, w2, hh⟩ | ⟨h, -⟩ | ⟨h, -⟩ | ⟨h, w1, w2, hh⟩
  · omega
  · exact js_goes hv hH hS hc hs m1 m2 (vx_runS (As := jargs st I.2.2.2.2.2.2.1) (rest := st.drop I.2.2.2.2.2.2.1) ⟨hx, hb, hml, hown, hts⟩ m3 ⟨jcallB hts hC hh w1, hts _ w2⟩ hpre rfl (jargs_len hn) hv.2.1 (jargs_split hn) (lv_room hcat) hd ⟨by omega, by omega⟩) kv kx
  · omega
  · omega
  · refine js_goes hv hH hS hc hs m1 m2 (vx_runSX (hh := I.2.2.2.2.2.2.2.2.2) (As := jargs st I.2.2.2.2.2.2.1) (rest := st.drop I.2.2.2.2.2.2.1) ⟨hx, hb, hml, hown, hts⟩ m3 (vx_cwSW I.2.2.2.2.2.2.1 hts ?_ (jwsWith hh) rfl rfl hC.2.2.1 hC.2.2.2.1) hpre rfl (jargs_len hn) hv.2.1 (jargs_split hn) (lv_room hcat) hd ⟨by omega, by omega⟩) kv kx
    refine jgoodIn fun w hw => ?_
    unfold va_wsS at hw
    rcases List.mem_append.mp hw with h1 | h1
    · rcases List.mem_cons.mp h1 with rfl | h1
      · exact w1
      · rcases List.mem_cons.mp h1 with rfl | h1
        · exact w2
        · rw [List.mem_singleton.mp h1]
          exact hC.2.1
    · exact jwsGood hC.1 w h1
theorem js_special {i : Nat} {I : jgI} {S : jgSpec} {b : Nat} {As : List Value} {σ' : jgS} (C : jCx p s m args c M D cy G own nL hs0) (hd : decode M.1 pc = .ok (.invokespecial i, 3)) (hC : jCok own i I R) (hM : jMet l D cy G I S) (hI : I.1 = 2 ∨ I.1 = 3) (hn : I.2.2.2.2.2.2.1 + 1 ≤ st.length) (hA : jargs st (I.2.2.2.2.2.2.1 + 1) = .ref b :: As) (hcat : jcat (st.drop (I.2.2.2.2.2.2.1 + 1)) ≤ 8) (hr : S (.ref b :: As) σ (.inl none, σ'))
    (hroom : jhs σ' ≤ hs0 + R.cells ∧ jsl σ' ≤ sl0 + R.slots)
    (kv : jGo p l e R s m args below meth c Q G D cy nL hs0 sl0 (pc + 3) ls (st.drop (I.2.2.2.2.2.2.1 + 1)) σ') : jGo p l e R s m args below meth c Q G D cy nL hs0 sl0 pc ls st σ := by
  intro lsA H locs cells slots hv hH hS hc hs
  obtain ⟨hx, hb, hml, hown, hts, hB, h0⟩ := C
  obtain ⟨m1, m2, m3⟩ := hM _ _ _ hr
  have m4 := jMet_plain (fun E => by intro h; cases h) m3
  dsimp only at m1 m2
  refine js_bound h0 hc fun hHb => ?_
  have hpre := js_pre (As := .ref b :: As) hB hH hHb hS
  have hlen : As.length = I.2.2.2.2.2.2.1 := by
    have := jargs_len hn
    rw [hA] at this
    simpa using this
  have hst : st = As.reverse ++ .ref b :: st.drop (I.2.2.2.2.2.2.1 + 1) := by
    have := jargs_split hn
    rw [hA, List.reverse_cons, List.append_assoc] at this
    exact this
  have go : va_Run p l e R s m args below meth c H locs cells slots (jhs σ' - jhs σ) (jsl σ' - jsl σ) (F0 m pc lsA st) (st.drop (I.2.2.2.2.2.2.1 + 1)) (jPost D cy G (.inl none, σ') (Value.ref b :: As).toArray) (jA G) := by
    rcases id hC.2.2.2.2 with ⟨h, -⟩ | ⟨h, -⟩ | ⟨-, w1, w2, w3, w4, hh⟩ | ⟨-, w1, w2, w3, w4, hh⟩ | ⟨h, -⟩
    · omega
    · omega
    · have hcb := jcallB (mc := jhs σ' - jhs σ) (ms := jsl σ' - jsl σ) hts hC hh w1
      rw [w4] at hcb
      exact va_runI (As := As) (rest := st.drop (I.2.2.2.2.2.2.1 + 1)) ⟨hx, hb, hml, hown, hts⟩ m4 ⟨hcb, w3, hts _ w2⟩ hpre rfl hlen hv.2.1 hst (lv_room hcat) hd ⟨by omega, by omega⟩
    · have hw : jws I = Cond.code I.2.2.1 I.2.2.2.1 I.2.2.2.2.1 none :: lw_W := by rw [jwsPlain hh, w4]
      exact va_runIN (host := RX6) (bytes := I.2.2.2.1) (maxL := I.2.2.2.2.1) (As := As) (rest := st.drop (I.2.2.2.2.2.2.1 + 1)) ⟨hx, hb, hml, hown, hts⟩ m4 ⟨va_cnB I.2.2.2.2.2.2.1 hts (jgoodIn (jwsGood hC.1)) hw rfl rfl (hB.2.2.1.1 _ w1) (hts _ hC.2.1) hC.2.2.1 hC.2.2.2.1, w3, hts _ w2⟩ hpre rfl hlen hv.2.1 hst (lv_room hcat) hd ⟨by omega, by omega⟩
    · omega
  intro T hT X
  obtain ⟨v, st₀, t, T', L, h0, X', hL, e1, e2, ⟨v', hrv, hvv, hH', hF⟩, st1⟩ := go T hT X
  have hvv : v = v' := Outcome.returned.inj hvv
  have hrv : none = v' := Sum.inl.inj hrv
  subst hrv
  subst hvv
  obtain ⟨-, -, k3⟩ := vx_keep h0 e1 hS (fun q _ h => h) (fun q h => h) hL hF
  rw [← e1] at hH'
  obtain ⟨t2, a1, b1⟩ := kv lsA T'.heap (locs ++ L) (cells + (jhs σ' - jhs σ)) (slots + (jsl σ' - jsl σ)) hv hH' k3 (by omega) (by omega) T' rfl X'
  exact ⟨t2, st1 t2 a1, b1⟩
theorem js_objInit {i a : Nat} (C : jCx p s m args c M D cy G own nL hs0) (hd : decode M.1 pc = .ok (.invokespecial i, 3)) (hO : Cond.methodLink own i objectInit ∈ lw_W ∧ Cond.instanceMethod objectInit ∈ lw_W ∧ Cond.code objectInit ⟨#[0xb1]⟩ 1 none ∈ lw_W ∧ 1 ≤ R.frames ∧ 22 ≤ R.locals) (hcat : jcat rest ≤ 8)
    (k : jGo p l e R s m args below meth c Q G D cy nL hs0 sl0 (pc + 3) ls rest σ) : jGo p l e R s m args below meth c Q G D cy nL hs0 sl0 pc ls (.ref a :: rest) σ := by
  intro lsA H locs cells slots hv hH hS hc hs
  obtain ⟨hx, hb, hml, hown, hts, hB, h0⟩ := C
  obtain ⟨o1, o2, o3, o4, o5⟩ := hO
  have hcat : (rest.map fun v => v.category).sum ≤ 8 := hcat
  refine W.objInit hx hb hown (hts _ o1) (hts _ o2) (hts _ o3) rfl (by rw [hml]; exact hv.2.1) rfl hd o4 (by show 2 * 0 + _ + 12 ≤ _; omega) ?_
  exact k lsA H locs cells slots hv hH hS hc hs
theorem js_getstatic {i w : Nat} (C : jCx p s m args c M D cy G own nL hs0) (hd : decode M.1 pc = .ok (.getstatic i, 3)) (hw : Cond.fieldLink own i RX6 (if w = 0 then "LEAST_VALUES" else "GREATEST_VALUES") "[I" ∈ lw_W)
    (k : jGo p l e R s m args below meth c Q G D cy nL hs0 sl0 (pc + 3) ls (.ref (if w = 0 then G.2.1 else G.2.2.1) :: st) σ) : jGo p l e R s m args below meth c Q G D cy nL hs0 sl0 pc ls st σ := by
  intro lsA H locs cells slots hv hH hS hc hs
  obtain ⟨hx, hb, hml, hown, hts, hB, h0⟩ := C
  obtain ⟨z1, z2⟩ := hB.2.2.2.2.2.1
  by_cases h : w = 0
  · rw [if_pos h] at hw k
    exact va_gets hx hb z1 hS hown (hts _ hw) (fun _ h => h) hd (k lsA H locs cells slots hv hH hS hc hs)
  · rw [if_neg h] at hw k
    exact va_gets hx hb z2 hS hown (hts _ hw) (fun _ h => h) hd (k lsA H locs cells slots hv hH hS hc hs)
end JC
