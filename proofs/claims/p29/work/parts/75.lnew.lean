/-! a method that makes a row of four ints first, also where the heap's size is not known -/
def jGx (G : jgG) (w a : Nat) : jgG := (G.1, G.2.1, G.2.2.1, (fun b => if b < w then G.2.2.2.1 b else if b = a then (8, 4) else (13, 0)), G.2.2.2.2)
def jSx (σ : jgS) (a : Nat) : jgS := (fun b k => if b = a then 0 else σ.1 b k, σ.2.1, σ.2.2.1, a + 1, jhs σ + 1, jsl σ + 4)
theorem jGx_lo {G : jgG} {w a b : Nat} (h : b < w) : (jGx G w a).2.2.2.1 b = G.2.2.2.1 b := if_pos h
theorem jGx_at {G : jgG} {w a : Nat} (h : w ≤ a) : (jGx G w a).2.2.2.1 a = (8, 4) := (if_neg (by omega)).trans (if_pos rfl)
theorem jGx_no {G : jgG} {w a b : Nat} (h : w ≤ b) (h2 : ¬ b = a) : (jGx G w a).2.2.2.1 b = (13, 0) := (if_neg (by omega)).trans (if_neg h2)
theorem jF_k {cy : Nat → ClassId} {G G' : jgG} {σ σ' : jgS} {b : Nat} (hk : G'.2.2.2.1 b = G.2.2.2.1 b) (h1 : σ'.1 b = σ.1 b) (h2 : σ'.2.1 b = σ.2.1 b) : jF cy G' σ' b = jF cy G σ b := by
  unfold jF
  have hf : ∀ ci, jfv ci σ' b = jfv ci σ b := fun ci => by funext k; unfold jfv; rw [h1, h2]
  rw [hk, h1, h2, hf]
/-- the world with the new row -/
theorem jH_ext {D : va_G} {cy : Nat → ClassId} {G : jgG} {σ : jgS} {H H1 : Heap} {a : Nat} (hH : jH D cy G σ H) (ha : H.size = a) (hz : H1.size = a + 1) (ho : ∀ q, q < a → H1[q]? = H[q]?) (he : H1[a]? = some (vp_cell (cy 0) (4, .inl (fun _ => 0)))) : jH D cy (jGx G (jwt σ) a) (jSx σ a) H1 := by
  obtain ⟨a1, a3, a4⟩ := hH
  refine ⟨fun k q hk => ?_, by show G.1 ≤ a + 1; omega, by rw [hz]; exact Nat.le_refl _⟩
  obtain ⟨h1, h2⟩ := jW_ad hk
  obtain ⟨⟨h3, h4⟩, h5⟩ := jad_mem.mp (List.mem_of_getElem? h1)
  have h3 : G.1 ≤ q.1 := h3
  have h4 : q.1 < a + 1 := h4
  by_cases hb : q.1 < jwt σ
  · have hne : ¬ q.1 = a := by omega
    have e : jF cy (jGx G (jwt σ) a) (jSx σ a) q.1 = jF cy G σ q.1 := jF_k (jGx_lo hb) (funext fun j => if_neg hne) rfl
    rw [jGx_lo hb] at h5
    obtain ⟨k', hk'⟩ := jW_get (cy := cy) (G := G) (σ := σ) ⟨h3, hb⟩ h5
    have h6 := (a1 k' _ hk').kept (ho q.1 (by omega))
    have e2 : q = (q.1, jF cy G σ q.1) := Prod.ext rfl (h2.trans e)
    rw [e2]
    exact h6
  · by_cases hba : q.1 = a
    · have e : jF cy (jGx G (jwt σ) a) (jSx σ a) a = .inl (cy 0, 4, .inl (fun _ => 0)) := by
        rw [jF_int (jGx_at (by omega))]
        have e0 : (jSx σ a).1 a = fun _ => 0 := funext fun j => if_pos rfl
        rw [e0]
      have e2 : q = (a, .inl (cy 0, 4, .inl (fun _ => 0))) := Prod.ext hba (by rw [h2, hba]; exact e)
      rw [e2]
      exact he
    · rw [jGx_no (by omega) hba] at h5
      exact absurd h5 (by decide)
/-- the world without it -/
theorem jH_cut {D : va_G} {cy : Nat → ClassId} {G : jgG} {τ υ : jgS} {H : Heap} {w a : Nat} (hw : G.1 ≤ w) (hwa : w ≤ a) (hH : jH D cy (jGx G w a) τ H) (ht : jwt τ = a + 1) (hu : jwt υ = w) (h : ∀ b, b < w → τ.1 b = υ.1 b ∧ τ.2.1 b = υ.2.1 b) : jH D cy G υ H := by
  obtain ⟨a1, a3, a4⟩ := hH
  refine ⟨fun k q hk => ?_, by rw [hu]; exact hw, by rw [hu]; omega⟩
  obtain ⟨h1, h2⟩ := jW_ad hk
  obtain ⟨⟨h3, h4⟩, h5⟩ := jad_mem.mp (List.mem_of_getElem? h1)
  rw [hu] at h4
  obtain ⟨e1, e2⟩ := h q.1 h4
  have e : jF cy G υ q.1 = jF cy (jGx G w a) τ q.1 := jF_k (jGx_lo h4).symm e1.symm e2.symm
  obtain ⟨k', hk'⟩ := jW_get (cy := cy) (G := jGx G w a) (σ := τ) (a := q.1) ⟨h3, by rw [ht]; omega⟩ (by rw [jGx_lo h4]; exact h5)
  have e3 : q = (q.1, jF cy (jGx G w a) τ q.1) := Prod.ext rfl (h2.trans e)
  rw [e3]
  exact a1 k' _ hk'
theorem js_returnN {p : Program} {l : Launch} {e : Env} {R : Room} {s : State} {m : MethodId} {args : Array Value} {below : List Frame} {meth : Method} {c : Code} {G : jgG} {M : jgM} {D : va_G} {cy : Nat → ClassId} {own : String} {nL hs0 sl0 w a pc : Nat} {ls : List (Option Value)} {σ : jgS} {v : Option Value} {mc ms : Nat} {r : jgR} (C : jCx p s m args c M D cy (jGx G w a) own nL hs0) (hok : jretok M pc v) (hr : meth.sig.returnType = M.2.2.2.2.1) (hlocks : meth.locks = false) (hmc : jhs σ ≤ hs0 + mc) (hms : jsl σ ≤ sl0 + ms) (hv : r.1 = .inl v) (hcut : ∀ H, jH D cy (jGx G w a) σ H → jH D cy G r.2 H) :
    jGo p l e R s m args below meth c (vx_MQ below (jPost D cy G r) (jX D cy G r) args s mc ms (jA G)) (jGx G w a) D cy nL hs0 sl0 pc ls v.toList σ := by
  intro lsA H locs cells slots hv2 hH hS hc hs
  obtain ⟨hx, hb, hml, hown, hts, hB, h0⟩ := C
  refine W.widen (k := mc) (n := ms) (by omega) (by omega) (vx_ret ?_)
  have hS' : va_S (jA G) s.heap H locs := hS
  have hq : ∀ t : State, t.heap = H → s.WarmedH t.vm → jPost D cy G r args s (.returned v) t := fun t ht _ => ⟨v, hv, rfl, by rw [ht]; exact hcut H hH, hS'.F ht⟩
  rcases hok with ⟨x, ty, rfl, h1, h2, h3⟩ | ⟨x, rfl, h1, h3⟩ | ⟨x, rfl, h1, h3⟩ | ⟨rfl, h1, h3⟩
  · exact W.zret (v := x) hx hb (hr.trans h1) h2 hq hS.2.2 h3
  · exact W.lret hx hb (hr.trans h1) hq hS.2.2 h3
  · exact W.dret hx hb (hr.trans h1) hq hS.2.2 h3
  · exact W.vret hx hb (hr.trans h1) hq hS.2.2 h3
theorem jr_metN {l : Launch} {D : va_G} {cy : Nat → ClassId} {G : jgG} (M : jgG → jgM) (I : jgI) (S : jgSpec) (own : String) (hown : own = I.2.2.1.cls) (hy : plainName I.2.2.1.cls = true) (hbytes : ∀ G, (M G).1 = I.2.2.2.1) (hret : ∀ G, (M G).2.2.2.2.1 = I.2.2.2.2.2.1) (hhh : I.2.2.2.2.2.2.2.2.2 = []) (hM : ∀ G, (M G).2.2.2.1 = []) (hex : ∀ G, (M G).2.2.1 = []) (hinit : ∀ G, (M G).2.2.2.2.2 = false) (hwI : Cond.arrayClass .int ∈ lw_W)
    (hpo : ∀ (G : jgG) (R : Room), R.frames = I.2.2.2.2.2.2.2.1 → R.locals = I.2.2.2.2.2.2.2.2.1 → ∀ q ∈ (M G).2.1, jPok l D cy G own R (M G).2.2.2.2.2 q)
    (d0 : decode I.2.2.2.1 0 = .ok (.iconst 4, 1)) (d1 : decode I.2.2.2.1 1 = .ok (.newarray .int, 2))
    (hS : ∀ (As : List Value) (σ : jgS) (r : jgR), S As σ r → (jhs r.2 = jhs σ + 1 ∧ jsl r.2 = jsl σ + 4 ∧ jwt r.2 = jwt σ) ∧ (jent As).length ≤ I.2.2.2.2.1 ∧ (∃ v, r.1 = .inl v) ∧ ∀ a, G.1 ≤ jwt σ → jwt σ ≤ a → a ≤ jhs σ → Jr (jGx G (jwt σ) a) (M (jGx G (jwt σ) a)) 3 (jentry As I.2.2.2.2.1) [.ref a] (jSx σ a) (fun r' => r'.1 = r.1 ∧ (jhs r'.2 = jhs r.2 ∧ jsl r'.2 = jsl r.2 ∧ jwt r'.2 = a + 1) ∧ ∀ b, b < jwt σ → r'.2.1 b = r.2.1 b ∧ r'.2.2.1 b = r.2.2.1 b)) : jMet l D cy G I S := by
  intro As σ r hr
  obtain ⟨⟨m1, m2, mw⟩, m3, ⟨v0, hv0⟩, hJ⟩ := hS As σ r hr
  refine ⟨by omega, by omega, ?_⟩
  refine vx_ofW (cc := I.2.2.2.1) (maxL := I.2.2.2.2.1) (ret := I.2.2.2.2.2.1) hy (jwsPlain hhh) ?_
  intro p e s m args below meth c s₁ B hml htab hv
  obtain ⟨rfl, hB, hH, hHb⟩ := hv
  have hts0 := atoms_spec (ws := jws I) B.pre
  have hts : ∀ w ∈ lw_W, w.before As.toArray s = true := fun w h => hts0 w (List.mem_cons_of_mem _ h)
  have hfc : s.vm.findClass own = some m.cls := by rw [hown]; exact findClass_of_methodNamed B.named
  have hw1 : G.1 ≤ jwt σ := hH.2.1
  have hw2 : jwt σ ≤ s.heap.size := hH.2.2
  have hJ := hJ s.heap.size hw1 hw2 hHb
  have C : jCx p s m As.toArray c (M (jGx G (jwt σ) s.heap.size)) D cy (jGx G (jwt σ) s.heap.size) own I.2.2.2.2.1 (jhs σ) := ⟨B.exec, B.bytes.trans (hbytes _).symm, hml, hfc, hts, hB, hHb⟩
  have hlocks := B.notSynchronized
  have hrt : meth.sig.returnType = (M (jGx G (jwt σ) s.heap.size)).2.2.2.2.1 := B.returns.trans (hret _).symm
  rw [lg_entry_eq]
  refine lv_iconst B.exec B.bytes d0 rfl ?_
  refine va_newaK (atype := .int) B.exec B.bytes (hts _ hwI) rfl d1 rfl (by decide) rfl (by decide) (by show 0 + 1 ≤ jhs r.2 - jhs σ; omega) (by show 0 + (Int32.ofInt 4).toNatClampNeg ≤ jsl r.2 - jsl σ; have : (Int32.ofInt 4).toNatClampNeg = 4 := (by decide); omega) rfl fun H1 cA e1 z1 o1 hAr hNm => ?_
  have hcA : cA = cy 0 := Option.some.inj (hNm.symm.trans (hB.1.2 0 _ rfl).2)
  subst hcA
  have hH1 : jH D cy (jGx G (jwt σ) s.heap.size) (jSx σ s.heap.size) H1 := by
    refine jH_ext hH rfl z1 o1 ?_
    rw [e1]
    refine congrArg some ?_
    rw [vp_cell_i]
    rfl
  refine jr_sound (l := l) (own := own) (M := M (jGx G (jwt σ) s.heap.size)) (nL := I.2.2.2.2.1) (hs0 := jhs σ) (sl0 := jsl σ) (Φ := fun r' => r'.1 = r.1 ∧ (jhs r'.2 = jhs r.2 ∧ jsl r'.2 = jsl r.2 ∧ jwt r'.2 = s.heap.size + 1) ∧ ∀ b, b < jwt σ → r'.2.1 b = r.2.1 b ∧ r'.2.2.1 b = r.2.2.1 b) C (hpo _ _ rfl rfl) hwI (fun h => ?_) (fun r' h => ?_) (fun pc ls σ' _ v h hok => ?_) (fun pc E ls st σ' hE h hcat => ?_) (fun pc ls rest E σ' hE h => ?_) (fun pc t ls rest E σ' hE h => ?_) hJ _ H1 [] 1 4 (jentry_lv m3) hH1 ?_ rfl rfl
  · rw [hinit] at h
    cases h
  · show jhs r'.2 ≤ jhs σ + (jhs r.2 - jhs σ) ∧ jsl r'.2 ≤ jsl σ + (jsl r.2 - jsl σ)
    have := h.2.1
    omega
  · obtain ⟨h1, ⟨h2, h3, h4⟩, h5⟩ := h
    dsimp only at h1 h2 h3 h4 h5
    exact js_returnN C hok hrt hlocks (by omega) (by omega) h1.symm (fun H hH => jH_cut hw1 hw2 hH h4 mw h5)
  · rw [hex] at hE
    cases hE
  · have h1 : (Sum.inr E : Option Value ⊕ String) = r.1 := h.1
    rw [hv0] at h1
    cases h1
  · rw [hM] at hE
    cases hE
  · exact js_Sgrown va_S.rf (by omega) o1
