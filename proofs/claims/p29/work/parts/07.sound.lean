section JM
variable {p : Program} {l : Launch} {e : Env} {R : Room} {s : State} {m : MethodId} {args : Array Value} {below : List Frame} {meth : Method} {c : Code} {Q : State → Prop} {G : jgG} {M : jgM} {D : va_G} {cy : Nat → ClassId} {own : String} {nL hs0 sl0 : Nat} {Φ : jgR → Prop}
/-- the heap only grows -/
theorem jr_up {pc : Nat} {ls : List (Option Value)} {st : List Value} {σ : jgS} {ins : Instr} {len : Nat} (hpo : ∀ q ∈ M.2.1, jPok l D cy G own R M.2.2.2.2.2 q) (h : jgOp G M pc ins len ls st σ (fun _ _ _ σ' => ∃ r, Φ r ∧ jhs σ' ≤ jhs r.2 ∧ jsl σ' ≤ jsl r.2) Φ) : ∃ r, Φ r ∧ jhs σ ≤ jhs r.2 ∧ jsl σ ≤ jsl r.2 := by
  have call : ∀ (I : jgI) (S : jgSpec) (i : Nat) (As : List Value) (r : jgR) (rest : List Value), jgfind M.2.1 i = some (jpC I S) → S As σ r → jcall M pc ls rest (fun _ _ _ σ' => ∃ r, Φ r ∧ jhs σ' ≤ jhs r.2 ∧ jsl σ' ≤ jsl r.2) Φ r → ∃ r, Φ r ∧ jhs σ ≤ jhs r.2 ∧ jsl σ ≤ jsl r.2 := by
    intro I S i As r rest hf hS hk
    obtain ⟨m1, m2, -⟩ := (hpo _ (jgfind_mem hf)).2 _ _ _ hS
    unfold jcall at hk
    split at hk
    · obtain ⟨r2, h1, h2, h3⟩ := hk
      exact ⟨r2, h1, by omega, by omega⟩
    · split at hk
      · obtain ⟨r2, h1, h2, h3⟩ := hk 0
        exact ⟨r2, h1, by omega, by omega⟩
      · exact ⟨_, hk, m1, m2⟩
  have tgt : ∀ off, jtgt pc off (fun _ => ∃ r, Φ r ∧ jhs σ ≤ jhs r.2 ∧ jsl σ ≤ jsl r.2) → ∃ r, Φ r ∧ jhs σ ≤ jhs r.2 ∧ jsl σ ≤ jsl r.2 := fun off h => by
    obtain ⟨_, -, h⟩ := h
    exact h
  unfold jgOp at h
  split at h
  case h_46 =>
    obtain ⟨-, x, y, rest, -, t, -, h1, h2⟩ := h
    exact (Classical.em _).elim h1 h2
  case h_47 =>
    obtain ⟨-, x, rest, -, t, -, h1, h2⟩ := h
    exact (Classical.em _).elim h1 h2
  case h_49 =>
    obtain ⟨x, rest, -, h1, h2⟩ := h
    rcases Classical.em (x.toInt < _ ∨ _ < x.toInt) with h3 | h3
    · exact tgt _ (h1 h3)
    · obtain ⟨off, -, h4⟩ := h2 h3
      exact tgt _ h4
  case h_52 =>
    obtain ⟨-, v, a, rest, ci, j, -, -, -, -, h1 | h1⟩ := h
    · obtain ⟨-, x, -, h2⟩ := h1
      exact h2
    · obtain ⟨-, q, -, -, h2⟩ := h1
      exact h2
  case h_59 =>
    obtain ⟨-, n, rest, -, -, -, -, -, r, h1, h2, h3⟩ := h
    exact ⟨r, h1, Nat.le_of_succ_le h2, Nat.le_trans (Nat.le_add_right _ _) h3⟩
  case h_60 =>
    obtain ⟨-, n, rest, j, -, -, -, -, -, -, r, h1, h2, h3⟩ := h
    exact ⟨r, h1, Nat.le_of_succ_le h2, Nat.le_trans (Nat.le_add_right _ _) h3⟩
  case h_61 =>
    obtain ⟨-, h⟩ := h
    split at h
    · exact ⟨_, h.1, Nat.le_succ _, Nat.le_add_right _ _⟩
    · obtain ⟨ci, -, -, -, r, h1, h2, h3⟩ := h
      exact ⟨r, h1, Nat.le_of_succ_le h2, Nat.le_trans (Nat.le_add_right _ _) h3⟩
  case h_66 =>
    obtain ⟨-, I, S, b, As, h1, -, -, -, -, -, -, r, h2, h3⟩ := h
    exact call I S _ _ r _ h1 h2 h3
  case h_67 =>
    obtain ⟨-, h1 | h1⟩ := h
    · obtain ⟨-, a, rest, -, -, h2⟩ := h1
      exact h2
    · obtain ⟨I, S, b, As, h1, -, -, -, -, σ', h2, r, h3, h4, h5⟩ := h1
      obtain ⟨m1, m2, -⟩ := (hpo _ (jgfind_mem h1)).2 _ _ _ h2
      exact ⟨r, h3, Nat.le_trans m1 h4, Nat.le_trans m2 h5⟩
  case h_68 =>
    obtain ⟨-, I, S, h1, -, -, -, r, h2, h3⟩ := h
    exact call I S _ _ r _ h1 h2 h3
  case h_70 =>
    obtain ⟨-, x, ty, -, -, -, h1⟩ := h
    exact ⟨_, h1, Nat.le_refl _, Nat.le_refl _⟩
  case h_71 =>
    obtain ⟨-, x, -, -, h1⟩ := h
    exact ⟨_, h1, Nat.le_refl _, Nat.le_refl _⟩
  case h_72 =>
    obtain ⟨-, x, -, -, h1⟩ := h
    exact ⟨_, h1, Nat.le_refl _, Nat.le_refl _⟩
  case h_73 =>
    obtain ⟨-, -, -, h1⟩ := h
    exact ⟨_, h1, Nat.le_refl _, Nat.le_refl _⟩
  all_goals first | exact h.elim | (repeat (first | exact h | exact tgt _ h | obtain ⟨_, h⟩ := h))
/-- how a method's answer is given -/
def jretok (M : jgM) (pc : Nat) (v : Option Value) : Prop :=
  (∃ x ty, v = some (.int x) ∧ M.2.2.2.2.1 = some ty ∧ narrow ty (.int x) = .int x ∧ decode M.1 pc = .ok (.ireturn, 1)) ∨ (∃ x, v = some (.long x) ∧ M.2.2.2.2.1 = some .long ∧ decode M.1 pc = .ok (.lreturn, 1)) ∨ (∃ x, v = some (.double x) ∧ M.2.2.2.2.1 = some .double ∧ decode M.1 pc = .ok (.dreturn, 1)) ∨ (v = none ∧ M.2.2.2.2.1 = none ∧ decode M.1 pc = .ok (.return_, 1))
set_option maxHeartbeats 4000000 in
theorem jr_sound (C : jCx p s m args c M D cy G own nL hs0) (hpo : ∀ q ∈ M.2.1, jPok l D cy G own R M.2.2.2.2.2 q) (hwI : Cond.arrayClass .int ∈ lw_W) (hin : M.2.2.2.2.2 = true → meth.name = "<init>")
    (hΦ : ∀ r, Φ r → jhs r.2 ≤ hs0 + R.cells ∧ jsl r.2 ≤ sl0 + R.slots)
    (hret : ∀ (pc : Nat) (ls : List (Option Value)) (σ : jgS) (_ : Unit) (v : Option Value), Φ (.inl v, σ) → jretok M pc v → jGo p l e R s m args below meth c Q G D cy nL hs0 sl0 pc ls v.toList σ)
    (hthrow : ∀ (pc : Nat) (E : String) (ls : List (Option Value)) (st : List Value) (σ : jgS), jgx M.2.2.1 pc = some E → Φ (.inr E, jwh σ 6) → jcat st ≤ 8 → jGo p l e R s m args below meth c Q G D cy nL hs0 sl0 pc ls st σ)
    (hout : ∀ (pc : Nat) (ls : List (Option Value)) (rest : List Value) (E : String) (σ : jgS), jghd M.2.2.2.1 pc E = none → Φ (.inr E, σ) → jGoX p l e R s m args below meth c Q G D cy nL hs0 sl0 pc ls rest E σ)
    (hcatch : ∀ (pc t : Nat) (ls : List (Option Value)) (rest : List Value) (E : String) (σ : jgS), jghd M.2.2.2.1 pc E = some t → (∀ q : Nat, jGo p l e R s m args below meth c Q G D cy nL hs0 sl0 t ls [.ref q] σ) → jGoX p l e R s m args below meth c Q G D cy nL hs0 sl0 pc ls rest E σ)
    {pc : Nat} {ls : List (Option Value)} {st : List Value} {σ : jgS} (hJ : Jr G M pc ls st σ Φ) : jGo p l e R s m args below meth c Q G D cy nL hs0 sl0 pc ls st σ := by
  refine (hJ (fun pc ls st σ => (∃ r, Φ r ∧ jhs σ ≤ jhs r.2 ∧ jsl σ ≤ jsl r.2) ∧ jGo p l e R s m args below meth c Q G D cy nL hs0 sl0 pc ls st σ) ?_).2
  clear hJ
  intro pc ls st σ ins len hd h
  refine ⟨jr_up hpo (jgOp_mono (fun _ _ _ _ q => q.1) (fun _ q => q) h), ?_⟩
  have room : ∀ σ' : jgS, (∃ r, Φ r ∧ jhs σ' ≤ jhs r.2 ∧ jsl σ' ≤ jsl r.2) → jhs σ' ≤ hs0 + R.cells ∧ jsl σ' ≤ sl0 + R.slots := fun σ' ⟨r, h1, h2, h3⟩ => ⟨Nat.le_trans h2 (hΦ r h1).1, Nat.le_trans h3 (hΦ r h1).2⟩
  have room0 := room
  have croom : ∀ (r : jgR) (ls : List (Option Value)) (rest : List Value), jcall M pc ls rest (fun pc ls st σ => (∃ r, Φ r ∧ jhs σ ≤ jhs r.2 ∧ jsl σ ≤ jsl r.2) ∧ jGo p l e R s m args below meth c Q G D cy nL hs0 sl0 pc ls st σ) Φ r → jhs r.2 ≤ hs0 + R.cells ∧ jsl r.2 ≤ sl0 + R.slots := by
    intro r ls rest hk
    unfold jcall at hk
    split at hk
    · exact room _ hk.1
    · split at hk
      · exact room _ (hk 0).1
      · exact hΦ (.inr _, r.2) hk
  have cv : ∀ (r : jgR) (ls : List (Option Value)) (rest : List Value), jcall M pc ls rest (fun pc ls st σ => (∃ r, Φ r ∧ jhs σ ≤ jhs r.2 ∧ jsl σ ≤ jsl r.2) ∧ jGo p l e R s m args below meth c Q G D cy nL hs0 sl0 pc ls st σ) Φ r → ∀ v, r.1 = .inl v → jGo p l e R s m args below meth c Q G D cy nL hs0 sl0 (pc + 3) ls (v.toList ++ rest) r.2 := by
    intro r ls rest hk v hv
    unfold jcall at hk
    rw [hv] at hk
    exact hk.2
  have cx : ∀ (r : jgR) (ls : List (Option Value)) (rest : List Value), jcall M pc ls rest (fun pc ls st σ => (∃ r, Φ r ∧ jhs σ ≤ jhs r.2 ∧ jsl σ ≤ jsl r.2) ∧ jGo p l e R s m args below meth c Q G D cy nL hs0 sl0 pc ls st σ) Φ r → ∀ E, r.1 = .inr E → jGoX p l e R s m args below meth c Q G D cy nL hs0 sl0 pc ls rest E r.2 := by
    intro r ls rest hk E hv
    unfold jcall at hk
    rw [hv] at hk
    dsimp only at hk
    split at hk
    · rename_i t ht
      exact hcatch pc t ls rest E _ ht (fun q => (hk q).2)
    · rename_i ht
      exact hout pc ls rest E _ ht hk
  unfold jgOp at h
  split at h
  case h_1 =>
    obtain ⟨rfl, x, h1, h2⟩ := h
    exact js_aload_n C hd h1 h2.2
  case h_2 =>
    obtain ⟨rfl, x, h1, h2⟩ := h
    exact js_aload C hd h1 h2.2
  case h_3 =>
    obtain ⟨rfl, x, h1, h2⟩ := h
    exact js_iload_n C hd h1 h2.2
  case h_4 =>
    obtain ⟨rfl, x, h1, h2⟩ := h
    exact js_iload C hd h1 h2.2
  case h_5 =>
    obtain ⟨rfl, x, h1, h2⟩ := h
    exact js_lload_n C hd h1 h2.2
  case h_6 =>
    obtain ⟨rfl, x, h1, h2⟩ := h
    exact js_lload C hd h1 h2.2
  case h_7 =>
    obtain ⟨rfl, x, h1, h2⟩ := h
    exact js_dload_n C hd h1 h2.2
  case h_8 =>
    obtain ⟨rfl, x, h1, h2⟩ := h
    exact js_dload C hd h1 h2.2
  case h_9 =>
    obtain ⟨rfl, -, h2⟩ := h
    exact fun lsA H locs cells slots hv hH hS hc hs => lv_iconst C.1 C.2.1 hd rfl (h2 lsA H locs cells slots hv hH hS hc hs)
  case h_10 =>
    obtain ⟨rfl, -, h2⟩ := h
    exact fun lsA H locs cells slots hv hH hS hc hs => lv_bipush C.1 C.2.1 hd rfl (h2 lsA H locs cells slots hv hH hS hc hs)
  case h_11 =>
    obtain ⟨rfl, -, h2⟩ := h
    exact fun lsA H locs cells slots hv hH hS hc hs => lv_sipush C.1 C.2.1 hd rfl (h2 lsA H locs cells slots hv hH hS hc hs)
  case h_12 =>
    obtain ⟨rfl, -, h2⟩ := h
    exact fun lsA H locs cells slots hv hH hS hc hs => lv_lconst C.1 C.2.1 hd rfl (h2 lsA H locs cells slots hv hH hS hc hs)
  case h_13 =>
    obtain ⟨rfl, -, h2⟩ := h
    rename_i n
    rcases (show n = 0 ∨ n = 1 by omega) with rfl | rfl
    · exact fun lsA H locs cells slots hv hH hS hc hs => lv_dconst0 C.1 C.2.1 hd (h2 lsA H locs cells slots hv hH hS hc hs)
    · exact fun lsA H locs cells slots hv hH hS hc hs => lv_dconst1 C.1 C.2.1 hd (h2 lsA H locs cells slots hv hH hS hc hs)
  case h_14 =>
    obtain ⟨rfl, x, h1, -, h2⟩ := h
    obtain ⟨x', ex, hw⟩ := hpo _ (jgfind_mem h1)
    cases ex
    exact fun lsA H locs cells slots hv hH hS hc hs => lv_ldc C.1 C.2.1 C.2.2.2.1 (C.2.2.2.2.1 _ hw) hd (h2 lsA H locs cells slots hv hH hS hc hs)
  case h_15 =>
    obtain ⟨rfl, x, rest, rfl, h1, h3, h2⟩ := h
    exact js_istore_n C hd h1 h3 h2.2
  case h_16 =>
    obtain ⟨rfl, x, rest, rfl, h1, h3, h2⟩ := h
    exact js_istore C hd h1 h3 h2.2
  case h_17 =>
    obtain ⟨rfl, x, rest, rfl, h1, h3, h2⟩ := h
    exact js_astore_n C hd h1 h3 h2.2
  case h_18 =>
    obtain ⟨rfl, x, rest, rfl, h1, h3, h2⟩ := h
    exact js_astore C hd h1 h3 h2.2
  case h_19 =>
    obtain ⟨rfl, x, rest, rfl, h1, h3, h2⟩ := h
    exact js_lstore_n C hd h1 h3 h2.2
  case h_20 =>
    obtain ⟨rfl, x, rest, rfl, h1, h3, h2⟩ := h
    exact js_lstore C hd h1 h3 h2.2
  case h_21 =>
    obtain ⟨rfl, x, rest, rfl, h1, h3, h2⟩ := h
    exact js_dstore_n C hd h1 h3 h2.2
  case h_22 =>
    obtain ⟨rfl, x, rest, rfl, h1, h3, h2⟩ := h
    exact js_dstore C hd h1 h3 h2.2
  case h_23 =>
    obtain ⟨rfl, x, h1, h3, h4, h2⟩ := h
    exact js_iinc C hd h1 h3 h4 h2.2
  case h_24 =>
    obtain ⟨rfl, x, y, rest, rfl, -, h2⟩ := h
    exact fun lsA H locs cells slots hv hH hS hc hs => lv_iadd C.1 C.2.1 hd (h2 lsA H locs cells slots hv hH hS hc hs)
  case h_25 =>
    obtain ⟨rfl, x, y, rest, rfl, -, h2⟩ := h
    exact fun lsA H locs cells slots hv hH hS hc hs => lv_isub C.1 C.2.1 hd (h2 lsA H locs cells slots hv hH hS hc hs)
  case h_26 =>
    obtain ⟨rfl, x, y, rest, rfl, -, h2⟩ := h
    exact fun lsA H locs cells slots hv hH hS hc hs => lv_imul C.1 C.2.1 hd (h2 lsA H locs cells slots hv hH hS hc hs)
  case h_27 =>
    obtain ⟨rfl, x, y, rest, rfl, h1, -, h2⟩ := h
    exact fun lsA H locs cells slots hv hH hS hc hs => lv_irem C.1 C.2.1 hd h1 (h2 lsA H locs cells slots hv hH hS hc hs)
  case h_28 =>
    obtain ⟨rfl, x, y, rest, rfl, -, h2⟩ := h
    exact fun lsA H locs cells slots hv hH hS hc hs => lv_iand C.1 C.2.1 hd (h2 lsA H locs cells slots hv hH hS hc hs)
  case h_29 =>
    obtain ⟨rfl, x, y, rest, rfl, -, h2⟩ := h
    exact fun lsA H locs cells slots hv hH hS hc hs => lv_ior C.1 C.2.1 hd (h2 lsA H locs cells slots hv hH hS hc hs)
  case h_30 =>
    obtain ⟨rfl, x, y, rest, rfl, -, h2⟩ := h
    exact fun lsA H locs cells slots hv hH hS hc hs => lv_ishl C.1 C.2.1 hd (h2 lsA H locs cells slots hv hH hS hc hs)
  case h_31 =>
    obtain ⟨rfl, x, y, rest, rfl, -, h2⟩ := h
    exact fun lsA H locs cells slots hv hH hS hc hs => lv_ishr C.1 C.2.1 hd (h2 lsA H locs cells slots hv hH hS hc hs)
  case h_32 =>
    obtain ⟨rfl, x, y, rest, rfl, -, h2⟩ := h
    exact fun lsA H locs cells slots hv hH hS hc hs => lv_ladd C.1 C.2.1 hd (h2 lsA H locs cells slots hv hH hS hc hs)
  case h_33 =>
    obtain ⟨rfl, x, y, rest, rfl, -, h2⟩ := h
    exact fun lsA H locs cells slots hv hH hS hc hs => lv_lsub C.1 C.2.1 hd (h2 lsA H locs cells slots hv hH hS hc hs)
  case h_34 =>
    obtain ⟨rfl, x, y, rest, rfl, -, h2⟩ := h
    exact fun lsA H locs cells slots hv hH hS hc hs => lv_lmul C.1 C.2.1 hd (h2 lsA H locs cells slots hv hH hS hc hs)
  case h_35 =>
    obtain ⟨rfl, x, y, rest, rfl, h1, -, h2⟩ := h
    exact fun lsA H locs cells slots hv hH hS hc hs => lv_lrem C.1 C.2.1 hd h1 (h2 lsA H locs cells slots hv hH hS hc hs)
  case h_36 =>
    obtain ⟨rfl, x, y, rest, rfl, -, h2⟩ := h
    exact fun lsA H locs cells slots hv hH hS hc hs => lv_lshl C.1 C.2.1 hd rfl (h2 lsA H locs cells slots hv hH hS hc hs)
  case h_37 =>
    obtain ⟨rfl, x, rest, rfl, -, h2⟩ := h
    exact fun lsA H locs cells slots hv hH hS hc hs => lv_i2l C.1 C.2.1 hd rfl (h2 lsA H locs cells slots hv hH hS hc hs)
  case h_38 =>
    obtain ⟨rfl, x, rest, rfl, -, h2⟩ := h
    exact fun lsA H locs cells slots hv hH hS hc hs => lv_i2d C.1 C.2.1 hd (h2 lsA H locs cells slots hv hH hS hc hs)
  case h_39 =>
    obtain ⟨rfl, x, rest, rfl, -, h2⟩ := h
    exact fun lsA H locs cells slots hv hH hS hc hs => lv_d2l C.1 C.2.1 hd (h2 lsA H locs cells slots hv hH hS hc hs)
  case h_40 =>
    obtain ⟨rfl, x, y, rest, rfl, -, h2⟩ := h
    exact fun lsA H locs cells slots hv hH hS hc hs => W.lcmp C.1 C.2.1 hd (h2 lsA H locs cells slots hv hH hS hc hs)
  case h_41 =>
    obtain ⟨rfl, x, y, rest, rfl, -, h2⟩ := h
    exact fun lsA H locs cells slots hv hH hS hc hs => lv_dcmp C.1 C.2.1 hd (h2 lsA H locs cells slots hv hH hS hc hs)
  case h_42 =>
    obtain ⟨rfl, x, y, rest, rfl, h1, -, h2⟩ := h
    exact fun lsA H locs cells slots hv hH hS hc hs => lv_dadd C.1 C.2.1 hd h1 (h2 lsA H locs cells slots hv hH hS hc hs)
  case h_43 =>
    obtain ⟨rfl, x, y, rest, rfl, h1, -, h2⟩ := h
    exact fun lsA H locs cells slots hv hH hS hc hs => lv_dsub C.1 C.2.1 hd h1 (h2 lsA H locs cells slots hv hH hS hc hs)
  case h_44 =>
    obtain ⟨rfl, x, y, rest, rfl, h1, -, h2⟩ := h
    exact fun lsA H locs cells slots hv hH hS hc hs => lv_dmul C.1 C.2.1 hd h1 (h2 lsA H locs cells slots hv hH hS hc hs)
  case h_45 =>
    obtain ⟨rfl, x, y, rest, rfl, h1, -, h2⟩ := h
    exact fun lsA H locs cells slots hv hH hS hc hs => lv_ddiv C.1 C.2.1 hd h1 (h2 lsA H locs cells slots hv hH hS hc hs)
  case h_46 =>
    obtain ⟨rfl, x, y, rest, rfl, t, ht, h1, h2⟩ := h
    exact js_if_icmp C hd ht (fun q => (h1 q).2) (fun q => (h2 q).2)
  case h_47 =>
    obtain ⟨rfl, x, rest, rfl, t, ht, h1, h2⟩ := h
    exact js_ifCond C hd ht (fun q => (h1 q).2) (fun q => (h2 q).2)
  case h_48 =>
    obtain ⟨rfl, t, ht, -, h2⟩ := h
    exact fun lsA H locs cells slots hv hH hS hc hs => lv_goto C.1 C.2.1 hd ht (h2 lsA H locs cells slots hv hH hS hc hs)
  case h_49 =>
    obtain ⟨x, rest, rfl, h1, h2⟩ := h
    rcases Classical.em (x.toInt < _ ∨ _ < x.toInt) with h3 | h3
    · obtain ⟨t, ht, -, h4⟩ := h1 h3
      exact fun lsA H locs cells slots hv hH hS hc hs => lv_tableOut C.1 C.2.1 hd h3 ht (h4 lsA H locs cells slots hv hH hS hc hs)
    · obtain ⟨off, ho, t, ht, -, h4⟩ := h2 h3
      exact fun lsA H locs cells slots hv hH hS hc hs => lv_tableIn C.1 C.2.1 hd (fun q => h3 (Or.inl q)) (fun q => h3 (Or.inr q)) ho ht (h4 lsA H locs cells slots hv hH hS hc hs)
  case h_50 =>
    obtain ⟨hp, x, rest, rfl, t, ht, -, h2⟩ := h
    exact fun lsA H locs cells slots hv hH hS hc hs => lv_lookup C.1 C.2.1 hd hp rfl ht (h2 lsA H locs cells slots hv hH hS hc hs)
  case h_51 =>
    obtain ⟨rfl, a, rest, ci, j, rfl, h1, h3, h4, h2⟩ := h
    obtain ⟨r, w1, w2, w3, w4, w5, -⟩ := hpo _ (jgfind_mem h1)
    exact js_getfield C hd w1 w2 w3 w4 w5 h3 h4 h2.2
  case h_52 =>
    obtain ⟨rfl, v, a, rest, ci, j, rfl, h1, h3, h4, h2⟩ := h
    obtain ⟨r, w1, w2, w3, w4, w5, w6⟩ := hpo _ (jgfind_mem h1)
    rcases h2 with ⟨t1, x, rfl, h2⟩ | ⟨t1, q, rfl, t2, h2⟩
    · exact js_putI C hd w1 w2 w3 w4 w5 h3 h4 t1 h2.2
    · exact js_putR C hd w1 w2 w3 w4 w5 h3 h4 t1 (hin t2) (w6 t2) h2.2
  case h_53 =>
    obtain ⟨rfl, i, a, rest, n, f, rfl, h1, h3, h2⟩ := h
    exact js_iaload C hd h1 h3 h2.2
  case h_54 =>
    obtain ⟨rfl, x, i, a, rest, n, rfl, h1, h3, h4, h2⟩ := h
    exact js_iastore C hd h1 h3 h4 h2.2
  case h_55 =>
    obtain ⟨rfl, v, w, u, rest, rfl, h1, h3, h4, -, h2⟩ := h
    exact fun lsA H locs cells slots hv hH hS hc hs => lv_dup_x2 C.1 C.2.1 hd h1 h3 h4 (h2 lsA H locs cells slots hv hH hS hc hs)
  case h_56 =>
    exact h.elim
  case h_57 =>
    obtain ⟨rfl, i, a, rest, j, n, rfl, h1, h3, h4, h5, h2⟩ := h
    exact js_aaload C hd h1 h3 h4 h5 h2.2
  case h_58 =>
    obtain ⟨rfl, q, i, a, rest, j, n, rfl, h1, h3, h4, h5, h6, h7, h2⟩ := h
    exact js_aastore C hd h1 h3 h4 h5 h6 h7 h2.2
  case h_59 =>
    obtain ⟨rfl, n, rest, rfl, h1, h3, h4, h5, h6, h2⟩ := h
    have hr := room _ h6
    obtain ⟨rfl, h5⟩ := h5
    exact js_newarrayI C hd hwI h1 h3 h4 h5 hr h2
  case h_60 =>
    obtain ⟨rfl, n, rest, j, rfl, h1, h3, h4, h5, h6, h7, h2⟩ := h
    obtain ⟨w1, w2⟩ := hpo _ (jgfind_mem h1)
    exact js_anewarray C hd w1 (w2 _ rfl) h3 h4 h5 h6 (room _ h7) h2
  case h_61 =>
    obtain ⟨rfl, h⟩ := h
    split at h
    · rename_i E hE
      exact hthrow _ E _ _ _ hE h.1 h.2
    · obtain ⟨ci, h1, h3, h4, h5, h2⟩ := h
      obtain ⟨w0, r, w1, w2, w3, w4, w5⟩ := hpo _ (jgfind_mem h1)
      exact js_new C hd w1 w2 w0 w3 w4 w5 h3 h4 (room _ h5) h2
  case h_62 =>
    obtain ⟨rfl, a, rest, n, f, rfl, h1, h2⟩ := h
    exact js_arraylength C hd h1 h2.2
  case h_63 =>
    obtain ⟨rfl, v, rest, rfl, h1, -, h2⟩ := h
    exact fun lsA H locs cells slots hv hH hS hc hs => lv_dup C.1 C.2.1 hd h1 (h2 lsA H locs cells slots hv hH hS hc hs)
  case h_64 =>
    obtain ⟨rfl, v, w, rest, rfl, h1, h3, -, h2⟩ := h
    exact fun lsA H locs cells slots hv hH hS hc hs => lv_dup2_11 C.1 C.2.1 hd h1 h3 (h2 lsA H locs cells slots hv hH hS hc hs)
  case h_65 =>
    obtain ⟨rfl, v, rest, rfl, h1, -, h2⟩ := h
    exact fun lsA H locs cells slots hv hH hS hc hs => lv_pop C.1 C.2.1 hd h1 (h2 lsA H locs cells slots hv hH hS hc hs)
  case h_66 =>
    obtain ⟨rfl, I, S, b, As, h1, h3, h4, h5, h6, h7, h8, r, h9, h2⟩ := h
    obtain ⟨w1, w2⟩ := hpo _ (jgfind_mem h1)
    exact js_virtual C hd w1 w2 h3 h4 h5 h6 h7 h8 h9 (croom _ _ _ h2) (cv _ _ _ h2) (cx _ _ _ h2)
  case h_67 =>
    obtain ⟨rfl, h1 | h1⟩ := h
    · obtain ⟨h1, a, rest, rfl, h3, -, h2⟩ := h1
      exact js_objInit C hd (hpo _ (jgfind_mem h1)) h3 h2
    · obtain ⟨I, S, b, As, h1, h3, h4, h5, h6, σ', h7, h8, h2⟩ := h1
      obtain ⟨w1, w2⟩ := hpo _ (jgfind_mem h1)
      exact js_special C hd w1 w2 h3 h4 h5 h6 h7 (room0 _ h8) h2
  case h_68 =>
    obtain ⟨rfl, I, S, h1, h3, h4, h5, r, h9, h2⟩ := h
    obtain ⟨w1, w2⟩ := hpo _ (jgfind_mem h1)
    exact js_static C hd w1 w2 h3 h4 h5 h9 (croom _ _ _ h2) (cv _ _ _ h2) (cx _ _ _ h2)
  case h_69 =>
    obtain ⟨rfl, w, h1, -, h2⟩ := h
    exact js_getstatic C hd (hpo _ (jgfind_mem h1)) h2
  case h_70 =>
    obtain ⟨rfl, x, ty, rfl, h1, h3, h2⟩ := h
    exact hret _ _ _ () (some (.int x)) h2 (Or.inl ⟨x, ty, rfl, h1, h3, hd⟩)
  case h_71 =>
    obtain ⟨rfl, x, rfl, h1, h2⟩ := h
    exact hret _ _ _ () (some (.long x)) h2 (Or.inr (Or.inl ⟨x, rfl, h1, hd⟩))
  case h_72 =>
    obtain ⟨rfl, x, rfl, h1, h2⟩ := h
    exact hret _ _ _ () (some (.double x)) h2 (Or.inr (Or.inr (Or.inl ⟨x, rfl, h1, hd⟩)))
  case h_73 =>
    obtain ⟨rfl, rfl, h1, h2⟩ := h
    exact hret _ _ _ () none h2 (Or.inr (Or.inr (Or.inr ⟨rfl, h1, hd⟩)))
  case h_74 =>
    exact h.elim
end JM
