/-! the walk of the law -/
def wk_G (x aL aG b n : Nat) (f : Nat → Int32) : jgG := (x, aL, aG, wkK x, fun a => if a = aL then some (4, jLV) else if a = aG then some (4, jGV) else if a = b then some (n, f) else none)
theorem wk_ne {s : State} {aL aG : Nat} (hL : va_X aL 4 jLV s s.heap) (hG : va_X aG 4 jGV s s.heap) : ¬ aG = aL := by
  intro z
  subst z
  obtain ⟨c1, a1, _, _, _, e1⟩ := hL
  obtain ⟨c2, a2, _, _, _, e2⟩ := hG
  cases a1.symm.trans a2
  have h := (e1 0 (by decide)).symm.trans (e2 0 (by decide))
  revert h
  decide
/-- what the tables say, at the start -/
theorem wk_B {s : State} {b aL aG n : Nat} {f : Nat → Int32} {D : va_G} {cy : Nat → ClassId} (hK : va_K D vwCl (jtys cy) s) (hts : ∀ w ∈ lw_tbl, w.before #[Value.ref b] s = true) (hgv : (Jvm.Cond.and given_1 narrow_1).before #[Value.ref b] s = true) (tL : (Term.static RX6 "LEAST_VALUES" "[I").eval #[Value.ref b] s none [] s = some (.ref aL)) (tG : (Term.static RX6 "GREATEST_VALUES" "[I").eval #[Value.ref b] s none [] s = some (.ref aG)) (hL : va_X aL 4 jLV s s.heap) (hG : va_X aG 4 jGV s s.heap) (hX : va_X b n f s s.heap) : jB D cy (wk_G s.heap.size aL aG b n f) s := by
  have hs := flat_of_before _ hgv
  have hA : ∀ a : Nat, a < s.heap.size → ¬ jA (wk_G s.heap.size aL aG b n f) a := fun a ha => Nat.not_le.mpr ha
  have hU : (Cond.isRef (.static Bundle.tN "UNASSIGNED_STACK" Bundle.steD)).before #[Value.ref b] s = true := hs _ (by decide +kernel)
  have hSS : (Cond.isRef (.static Bundle.tN "SUPPRESSED_SENTINEL" Bundle.listD)).before #[Value.ref b] s = true := hs _ (by decide +kernel)
  have lt : ∀ {a k : Nat} {g : Nat → Int32}, va_X a k g s s.heap → a < s.heap.size := fun ⟨_, h, _⟩ => (Array.getElem?_eq_some_iff.mp h).1
  refine ⟨hK, fun w hw => ?_, ⟨fun q hq => va_Nw.of rfl (hts _ (wk_nest q hq)), fun q hq => va_Nc.of (hs _ (wk_nc q hq))⟩, ⟨va_AO.of (hts _ wk_aR), va_AO.of (hts _ wk_aD), va_AO.of (hts _ wk_aT)⟩, ⟨vx_Zqof (hts _ wk_lU) (hts _ wk_iT) hU hA, vx_Zqof (hts _ wk_lS) (hts _ wk_iT) hSS hA⟩, ⟨va_Zref (hts _ wk_lL) (hts _ wk_i6) tL hA, va_Zref (hts _ wk_lG) (hts _ wk_i6) tG hA⟩, fun a k g ha => ?_, fun q hq => ?_, Nat.le_refl _⟩
  · have hf := List.mem_filter.mp hw
    have h1 := hf.2
    simp only [jface, Bool.and_eq_true] at h1
    exact va_Nw.of h1.1 (hts _ hf.1)
  · have ha : (if a = aL then some (4, jLV) else if a = aG then some (4, jGV) else if a = b then some (n, f) else none) = some (k, g) := ha
    split at ha
    · rename_i z
      cases ha
      rw [z]
      exact ⟨lt hL, hL⟩
    · split at ha
      · rename_i z
        cases ha
        rw [z]
        exact ⟨lt hG, hG⟩
      · split at ha
        · rename_i z
          cases ha
          rw [z]
          exact ⟨lt hX, hX⟩
        · cases ha
  · obtain ⟨w1, w2⟩ := wk_strs q hq
    obtain ⟨sa, _, _, _, e1, _⟩ := Cond.exactly_spec (hs _ w2)
    exact ⟨sa, vk_R.of (hts _ w1) e1⟩
theorem wk_st {l : Launch} (h : l.flags = flags0) : l.stackTraces = false := by
  unfold Launch.stackTraces
  rw [h]
  decide +kernel
set_option maxHeartbeats 4000000 in
/-- the law's pool, in the claim's room -/
theorem wk_po {l : Launch} (hl : l.stackTraces = false) (D : va_G) (cy : Nat → ClassId) (G : jgG) : ∀ q ∈ (M_L_law G).2.1, jPok l D cy G RL room_1 (M_L_law G).2.2.2.2.2 q := by
  have h1 : room_1.frames = 11 := rfl
  have h2 : room_1.locals = 410 := rfl
  exact List.forall_mem_cons.mpr ⟨⟨by decide, (RX6, TX6, 4), rfl, jcls6, jm_24, jm_25, jm_10⟩, List.forall_mem_cons.mpr ⟨⟨⟨jm_549, jm_9, jd_L_held, ⟨by rw [h1]; exact Nat.le_of_ble_eq_true rfl, by rw [h2]; exact Nat.le_of_ble_eq_true rfl⟩, Or.inr (Or.inl ⟨rfl, jm_547, jm_548, rfl⟩)⟩, met_L_held hl D cy G⟩, List.forall_mem_cons.mpr ⟨⟨⟨jm_552, jm_9, jd_L_take, ⟨by rw [h1]; exact Nat.le_of_ble_eq_true rfl, by rw [h2]; exact Nat.le_of_ble_eq_true rfl⟩, Or.inr (Or.inl ⟨rfl, jm_550, jm_551, rfl⟩)⟩, met_L_take hl D cy G⟩, List.forall_mem_cons.mpr ⟨⟨⟨jm_564, jm_9, jd_L_pass, ⟨by rw [h1]; exact Nat.le_of_ble_eq_true rfl, by rw [h2]; exact Nat.le_of_ble_eq_true rfl⟩, Or.inr (Or.inl ⟨rfl, jm_562, jm_563, rfl⟩)⟩, met_L_pass hl D cy G⟩, List.forall_mem_cons.mpr ⟨⟨⟨jm_28, jm_10, jd_X6_init, ⟨by rw [h1]; exact Nat.le_of_ble_eq_true rfl, by rw [h2]; exact Nat.le_of_ble_eq_true rfl⟩, Or.inr (Or.inr (Or.inl ⟨rfl, jm_26, jm_27, rfl, rfl, rfl⟩))⟩, met_X6_init hl D cy G⟩, List.forall_mem_cons.mpr ⟨⟨⟨jm_474, jm_9, jd_L_cell, ⟨by rw [h1]; exact Nat.le_of_ble_eq_true rfl, by rw [h2]; exact Nat.le_of_ble_eq_true rfl⟩, Or.inr (Or.inl ⟨rfl, jm_472, jm_473, rfl⟩)⟩, met_L_cell hl D cy G⟩, List.forall_mem_cons.mpr ⟨⟨⟨jm_479, jm_9, jd_L_low, ⟨by rw [h1]; exact Nat.le_of_ble_eq_true rfl, by rw [h2]; exact Nat.le_of_ble_eq_true rfl⟩, Or.inr (Or.inl ⟨rfl, jm_477, jm_478, rfl⟩)⟩, met_L_low hl D cy G⟩, List.forall_mem_cons.mpr ⟨⟨⟨jm_483, jm_9, jd_L_put, ⟨by rw [h1]; exact Nat.le_of_ble_eq_true rfl, by rw [h2]; exact Nat.le_of_ble_eq_true rfl⟩, Or.inr (Or.inr (Or.inr (Or.inr ⟨rfl, jm_481, jm_482, List.cons_ne_nil _ _⟩)))⟩, met_L_put hl D cy G⟩, List.forall_mem_cons.mpr ⟨⟨⟨jm_370, jm_10, jd_X6_take, ⟨by rw [h1]; exact Nat.le_of_ble_eq_true rfl, by rw [h2]; exact Nat.le_of_ble_eq_true rfl⟩, Or.inl ⟨rfl, jm_367, jm_368, jm_369, rfl, Nat.le_of_ble_eq_true rfl, _, rfl, rfl⟩⟩, met_X6_take hl D cy G⟩, List.forall_mem_cons.mpr ⟨⟨⟨jm_505, jm_9, jd_L_done, ⟨by rw [h1]; exact Nat.le_of_ble_eq_true rfl, by rw [h2]; exact Nat.le_of_ble_eq_true rfl⟩, Or.inr (Or.inr (Or.inr (Or.inr ⟨rfl, jm_503, jm_504, List.cons_ne_nil _ _⟩)))⟩, met_L_done hl D cy G⟩, List.forall_mem_cons.mpr ⟨⟨⟨jm_525, jm_9, jd_L_giveBack, ⟨by rw [h1]; exact Nat.le_of_ble_eq_true rfl, by rw [h2]; exact Nat.le_of_ble_eq_true rfl⟩, Or.inr (Or.inr (Or.inr (Or.inr ⟨rfl, jm_523, jm_524, List.cons_ne_nil _ _⟩)))⟩, met_L_giveBack hl D cy G⟩, List.forall_mem_cons.mpr ⟨⟨⟨jm_439, jm_10, jd_X6_pass, ⟨by rw [h1]; exact Nat.le_of_ble_eq_true rfl, by rw [h2]; exact Nat.le_of_ble_eq_true rfl⟩, Or.inl ⟨rfl, jm_436, jm_437, jm_438, rfl, Nat.le_of_ble_eq_true rfl, _, rfl, rfl⟩⟩, met_X6_pass hl D cy G⟩, List.forall_mem_cons.mpr ⟨⟨⟨jm_430, jm_10, jd_X6_renew, ⟨by rw [h1]; exact Nat.le_of_ble_eq_true rfl, by rw [h2]; exact Nat.le_of_ble_eq_true rfl⟩, Or.inl ⟨rfl, jm_427, jm_428, jm_429, rfl, Nat.le_of_ble_eq_true rfl, _, rfl, rfl⟩⟩, met_X6_renew hl D cy G⟩, List.forall_mem_cons.mpr ⟨⟨⟨jm_264, jm_10, jd_X6_set, ⟨by rw [h1]; exact Nat.le_of_ble_eq_true rfl, by rw [h2]; exact Nat.le_of_ble_eq_true rfl⟩, Or.inl ⟨rfl, jm_261, jm_262, jm_263, rfl, Nat.le_of_ble_eq_true rfl, _, rfl, rfl⟩⟩, met_X6_set hl D cy G⟩, List.forall_mem_cons.mpr ⟨⟨⟨jm_362, jm_10, jd_X6_takes, ⟨by rw [h1]; exact Nat.le_of_ble_eq_true rfl, by rw [h2]; exact Nat.le_of_ble_eq_true rfl⟩, Or.inl ⟨rfl, jm_359, jm_360, jm_361, rfl, Nat.le_of_ble_eq_true rfl, _, rfl, rfl⟩⟩, met_X6_takes hl D cy G⟩, List.forall_mem_cons.mpr ⟨⟨⟨jm_540, jm_9, jd_L_urge, ⟨by rw [h1]; exact Nat.le_of_ble_eq_true rfl, by rw [h2]; exact Nat.le_of_ble_eq_true rfl⟩, Or.inr (Or.inr (Or.inr (Or.inr ⟨rfl, jm_538, jm_539, List.cons_ne_nil _ _⟩)))⟩, met_L_urge hl D cy G⟩, List.forall_mem_cons.mpr ⟨⟨⟨jm_532, jm_9, jd_L_revive, ⟨by rw [h1]; exact Nat.le_of_ble_eq_true rfl, by rw [h2]; exact Nat.le_of_ble_eq_true rfl⟩, Or.inr (Or.inr (Or.inr (Or.inr ⟨rfl, jm_530, jm_531, List.cons_ne_nil _ _⟩)))⟩, met_L_revive hl D cy G⟩, List.forall_mem_cons.mpr ⟨⟨⟨jm_240, jm_10, jd_X6_sweep, ⟨by rw [h1]; exact Nat.le_of_ble_eq_true rfl, by rw [h2]; exact Nat.le_of_ble_eq_true rfl⟩, Or.inl ⟨rfl, jm_237, jm_238, jm_239, rfl, Nat.le_of_ble_eq_true rfl, _, rfl, rfl⟩⟩, met_X6_sweep hl D cy G⟩, List.forall_mem_cons.mpr ⟨⟨⟨jm_567, jm_9, jd_L_same, ⟨by rw [h1]; exact Nat.le_of_ble_eq_true rfl, by rw [h2]; exact Nat.le_of_ble_eq_true rfl⟩, Or.inr (Or.inl ⟨rfl, jm_565, jm_566, rfl⟩)⟩, met_L_same hl D cy G⟩, fun _ h => nomatch h⟩⟩⟩⟩⟩⟩⟩⟩⟩⟩⟩⟩⟩⟩⟩⟩⟩⟩⟩

set_option maxHeartbeats 4000000 in
/-- the law, from its entry -/
theorem wk_walk {p : Program} {e : Env} {s : State} {m : MethodId} {below : List Frame} {meth : Method} {c : Code} (l : Launch) (hflags : l.flags = flags0) {b n : Nat} {f : Nat → Int32} {G : jgG} {D : va_G} {cy : Nat → ClassId} (hx : p.tables.exec = Jvm.exec) (hb : c.code = code) (hr : meth.sig.returnType = ret) (hml : c.maxLocals = 18) (hown : s.vm.findClass RL = some m.cls) (htw : ∀ w ∈ lw_W, w.before #[Value.ref b] s = true) (hlocks : meth.locks = false) (hB : jB D cy G s) (hG1 : G.1 = s.heap.size) (hGK : G.2.2.2.1 = wkK s.heap.size) (hg : (¬ G.1 ≤ G.2.1 ∧ G.2.2.2.2 G.2.1 = some (4, jLV)) ∧ ¬ G.1 ≤ G.2.2.1 ∧ G.2.2.2.2 G.2.2.1 = some (4, jGV)) (hs1 : ¬ G.1 ≤ b) (hs2 : G.2.2.2.2 b = some (n, f)) (hn : n ≤ 260) : W p l e room_1 s m #[Value.ref b] below meth c s.heap [] 0 0 (lw_Z below #[Value.ref b] s) (entryFrame m ([Value.ref b] : List Value).toArray 18) := by
  obtain ⟨k1, k2⟩ := wk_Lx hGK
  have hl := wk_st hflags
  have hJ := kLaw (G := G) (n := n) (f := f) (s := b) (x := s.heap.size) (σ := (fun _ _ => 0, fun _ _ => none, fun _ _ => 0, s.heap.size, s.heap.size, 0)) rfl rfl (by rw [hG1]; exact Nat.le_refl _) k1 k2 hg hs1 hs2 (by omega)
  have C : jCx p s m #[Value.ref b] c (M_L_law G) D cy G RL 18 s.heap.size := ⟨hx, hb, hml, hown, htw, hB, Nat.le_refl _⟩
  have hW0 : jH D cy G (fun _ _ => 0, fun _ _ => none, fun _ _ => 0, s.heap.size, s.heap.size, 0) s.heap := by
    refine ⟨fun k q hk => ?_, by rw [hG1]; exact Nat.le_refl _, Nat.le_refl _⟩
    have e : jad G s.heap.size = [] := by
      unfold jad
      rw [hG1, Nat.sub_self]
      rfl
    rw [jW_at] at hk
    have hk : ((jad G s.heap.size)[k]?).map _ = some q := hk
    rw [e] at hk
    cases hk
  rw [lg_entry_eq]
  refine jr_sound (l := l) (own := RL) (M := M_L_law G) (nL := 18) (hs0 := s.heap.size) (sl0 := 0) (Φ := fun r => r.1 = .inl (some (.int 1)) ∧ jhs r.2 ≤ s.heap.size + 238 + 72 ∧ jsl r.2 ≤ 0 + 2228 + 384) C (wk_po hl D cy G) jmAI (fun h => ?_) (fun r' h => ?_) (fun pc ls σ' _ v h hok => ?_) (fun pc E ls st σ' hE h hcat => ?_) (fun pc ls rest E σ' hE h => ?_) (fun pc t ls rest E σ' hE h => ?_) hJ _ s.heap [] 0 0 (jentry_lv (As := [Value.ref b]) (n := 18) (show 1 ≤ 18 by decide)) hW0 va_S.rf (Nat.add_zero _).symm (Nat.add_zero _).symm
  · cases h
  · obtain ⟨_, h2, h3⟩ := h
    refine ⟨Nat.le_trans h2 ?_, Nat.le_trans h3 ?_⟩
    · rw [Nat.add_assoc]
      exact Nat.add_le_add_left (Nat.le_of_ble_eq_true rfl) _
    · exact Nat.le_of_ble_eq_true rfl
  · obtain ⟨h1, h2, h3⟩ := h
    have h1 : v = some (.int 1) := Sum.inl.inj h1
    subst h1
    intro lsA H locs cells slots hv hH hS hc hs
    have hd : decode code pc = .ok (.ireturn, 1) := by
      rcases hok with ⟨x, ty, h4, h5, h6, h7⟩ | ⟨x, h4, _⟩ | ⟨x, h4, _⟩ | ⟨h4, _⟩
      · exact h7
      · cases h4
      · cases h4
      · cases h4
    have h2 : jhs σ' ≤ s.heap.size + 238 + 72 := h2
    have h3 : jsl σ' ≤ 0 + 2228 + 384 := h3
    have hcc : cells ≤ 600130 := by omega
    have hss : slots ≤ 7301080 := by omega
    refine va_forget (fun q hq => by have h9 := hS.2.2 q hq; rw [← hG1]; exact h9) ?_
    refine W.widen (k := 600130) (n := 7301080) hcc hss ?_
    exact W.base (lw_ret (Drawn.sameBut.refl s.drawn lw_cs) hx hb hr hlocks hd)
  · cases hE
  · cases h.1
  · cases hE

