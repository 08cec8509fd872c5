/-! the law: what a call comes to -/
def I_L_law : jgI := (0, 99, yL_law, cL_law, 9, (some .boolean), 1, 10, 186, [])
def M_L_law (G : jgG) : jgM := (cL_law, [(8, jpN 6), (79, jpC I_X6_init (S_X6_init G)), (80, jpN 7), (82, jpC I_X7_init (S_X7_init G)), (83, jpC I_L_put (S_L_put G)), (88, jpC I_X7_put (S_X7_put G)), (89, jpC I_X7_thrown (S_X7_thrown G)), (92, jpC I_L_urge (S_L_urge G)), (94, jpC I_X7_urge (S_X7_urge G)), (95, jpC I_L_revive (S_L_revive G)), (98, jpC I_X7_revive (S_X7_revive G)), (99, jpC I_X6_sweep (S_X6_sweep G)), (102, jpC I_X7_sweep (S_X7_sweep G)), (103, jpC I_L_set (S_L_set G)), (105, jpC I_X7_set (S_X7_set G)), (106, jpC I_L_takes (S_L_takes G)), (108, jpC I_X7_takes (S_X7_takes G)), (109, jpC I_L_take (S_L_take G)), (111, jpC I_X7_take (S_X7_take G)), (112, jpC I_L_done (S_L_done G)), (114, jpC I_X7_done (S_X7_done G)), (115, jpC I_L_giveBack (S_L_giveBack G)), (117, jpC I_X7_giveBack (S_X7_giveBack G)), (118, jpC I_L_renew (S_L_renew G)), (120, jpC I_X7_renew (S_X7_renew G)), (121, jpC I_L_pass (S_L_pass G)), (123, jpC I_X7_pass (S_X7_pass G)), (124, jpC I_L_append (S_L_append G)), (126, jpC I_X7_append (S_X7_append G)), (127, jpC I_X6_clearBuffer (S_X6_clearBuffer G)), (130, jpC I_X7_clearBuffer (S_X7_clearBuffer G)), (131, jpC I_X6_firstError (S_X6_firstError G)), (134, jpC I_X7_firstError (S_X7_firstError G)), (135, jpC I_L_putAll (S_L_putAll G)), (138, jpC I_X7_putAll (S_X7_putAll G)), (139, jpC I_L_undo (S_L_undo G)), (141, jpC I_X7_undo (S_X7_undo G)), (142, jpC I_L_row (S_L_row G)), (144, jpC I_X7_row (S_X7_row G)), (145, jpC I_L_reader (S_L_reader G)), (147, jpC I_X7_reader (S_X7_reader G)), (148, jpC I_L_group (S_L_group G)), (151, jpC I_X7_group (S_X7_group G)), (152, jpC I_L_count (S_L_count G)), (154, jpC I_X7_count (S_X7_count G)), (155, jpC I_L_setting (S_L_setting G)), (157, jpC I_X7_setting (S_X7_setting G)), (158, jpC I_L_ifTaken (S_L_ifTaken G)), (160, jpC I_X7_ifTaken (S_X7_ifTaken G)), (161, jpC I_L_ifPassed (S_L_ifPassed G)), (163, jpC I_X7_ifPassed (S_X7_ifPassed G)), (164, jpC I_X6_freest (S_X6_freest G)), (167, jpC I_X7_freest (S_X7_freest G)), (168, jpC I_X6_fairness (S_X6_fairness G)), (172, jpC I_X7_fairness (S_X7_fairness G)), (173, jpC I_X6_digest (S_X6_digest G)), (177, jpC I_X7_digest (S_X7_digest G))], [], [], (some .boolean), false)
theorem lg_self (v : Int64) : lg_cmp v v = 0 := by
  have h1 : v ≤ v := Int64.le_refl v
  exact Int32.le_antisymm ((lg_cmp_le v v).mpr h1) ((lg_cmp_ge v v).mpr h1)
/-- a call later: one cell more at most -/
def kE7 (σ τ : jgS) : Prop := jwt τ = jwt σ ∧ jhs τ ≤ jhs σ + 1 ∧ jsl τ ≤ jsl σ + 6
theorem kE6_7 {σ τ : jgS} (h : kE6 σ τ) : kE7 σ τ := by
  rcases h with h | h
  · exact ⟨by unfold jwt; rw [h], by unfold jhs; rw [h]; omega, by unfold jsl; rw [h]; omega⟩
  · exact ⟨by unfold jwt; rw [h]; rfl, by unfold jhs; rw [h]; exact Nat.le_refl _, by unfold jsl; rw [h]; exact Nat.le_refl _⟩
theorem kE7_22 {σ τ υ : jgS} (h : kE7 σ τ) (e : υ.2.2.2 = τ.2.2.2) : kE7 σ υ := by
  obtain ⟨h1, h2, h3⟩ := h
  exact ⟨by rw [← h1]; unfold jwt; rw [e], by have e2 : jhs υ = jhs τ := by unfold jhs; rw [e]
                                              omega, by have e2 : jsl υ = jsl τ := by unfold jsl; rw [e]
                                                        omega⟩
theorem jMO_eq {G : jgG} {σ τ : jgS} {m : Nat} (h1 : τ.1 = σ.1) (h2 : τ.2.1 = σ.2.1) (hw : jwt τ = jwt σ) (h : jMO G σ m) : jMO G τ m := by
  unfold jMO at *
  rw [h1, h2, hw]
  exact h
theorem kF_jy {G : jgG} {c : Nat} {σ : jgS} {x : Nat} {Y : Nat → Nat → Int64} (hF : kF G c σ x) : kF G c (jyY σ Y) x :=
  kF_ro hF ⟨rfl, rfl⟩ (fun _ _ => rfl) rfl rfl rfl rfl rfl rfl rfl
/-- a call that may throw, made on both sides -/
theorem kStep {G : jgG} {c : Nat} {σ : jgS} {x o : Nat} {ex : List String} {r1 : jgR} {F7 : jgS → jgR} (hF : kF G c σ x) (ho : ja G (jwt σ) o 9 1) (hN : ex.Nodup) (hl : ex.length ≤ 10) (hy : ∀ (τ : jgS) (Y : Nat → Nat → Int64), F7 (jyY τ Y) = kyl (F7 τ) Y) (hr : kRes G (c + 1) σ x ex r1 (F7 r1.2)) : kWp G o ex σ r1 ∧ kFr σ r1.2 x ∧ ∃ (t w : Int32) (τ1 τ2 : jgS), kW ex o r1 = (.inl (some (.int t)), τ1) ∧ τ1.1 = r1.2.1 ∧ τ1.2.1 = r1.2.2.1 ∧ kE7 σ τ1 ∧ jMO G τ1 (x + 233) ∧ F7 τ1 = (.inl (some (.int w)), τ2) ∧ τ2.1 (x + 233) 0 = t ∧ (t = 0 → τ2.2.2.1 o 0 = w.toInt64) ∧ kF G (c + 1) τ2 x ∧ kE7 σ τ2 := by
  obtain ⟨hA, hR, h22, hK⟩ := hr
  have h7 := kE6_7 hR.1
  have hM1 := jMO_cg hR (kMO hF)
  obtain ⟨R1, τ⟩ := r1
  generalize hU : F7 τ = U at *
  obtain ⟨U1, τ'⟩ := U
  have e22 : τ'.2.2.2 = τ.2.2.2 := by
    have e : τ'.2 = τ.2 := h22
    rw [e]
  rcases hA with ⟨v, a1, a2, a3⟩ | ⟨E, i, a1, a2, a3, w, a4⟩
  · have a1 : R1 = .inl (some (.int v)) := a1
    have a2 : U1 = .inl (some (.int v)) := a2
    subst a1 a2
    refine ⟨⟨ho, hR.1, Or.inl ⟨v, rfl⟩⟩, hR, 0, v, jwY τ o 0 v.toInt64, jyY τ' (jwY τ o 0 v.toInt64).2.2.1, rfl, rfl, rfl, kE7_22 h7 rfl, jMO_eq (σ := τ) rfl rfl rfl hM1, ?_, a3, fun _ => if_pos ⟨rfl, rfl⟩, kF_jy hK, kE7_22 h7 e22⟩
    have e : jwY τ o 0 v.toInt64 = jyY τ (jwY τ o 0 v.toInt64).2.2.1 := rfl
    have e2 := hy τ (jwY τ o 0 v.toInt64).2.2.1
    rw [hU] at e2
    rw [e]
    exact e2
  · have a1 : R1 = .inr E := a1
    have a4 : U1 = .inl (some (.int w)) := a4
    subst a1 a4
    have hi : i < ex.length := by
      have h := a2
      rw [List.getElem?_eq_some_iff] at h
      exact h.1
    refine ⟨⟨ho, hR.1, Or.inr ⟨E, List.mem_of_getElem? a2, rfl⟩⟩, hR, nI (i + 1), w, τ, τ', ?_, rfl, rfl, h7, hM1, hU, a3, fun z => absurd z (nI_ne0 (by omega) (by omega)), hK, kE7_22 h7 e22⟩
    rw [kW_x, kcode_at hN a2]
/-- a call that throws nothing -/
theorem kStepN {G : jgG} {c : Nat} {σ : jgS} {x : Nat} {r1 r2 : jgR} (hF : kF G c σ x) (hr : kRes G (c + 1) σ x [] r1 r2) : ∃ (w : Int32) (τ1 τ2 : jgS), r1 = (.inl (some (.int w)), τ1) ∧ kFr σ τ1 x ∧ kE7 σ τ1 ∧ jMO G τ1 (x + 233) ∧ r2 = (.inl (some (.int w)), τ2) ∧ kF G (c + 1) τ2 x ∧ kE7 σ τ2 ∧ τ2.2 = τ1.2 := by
  obtain ⟨hA, hR, h22, hK⟩ := hr
  have h7 := kE6_7 hR.1
  have hM1 := jMO_cg hR (kMO hF)
  obtain ⟨R1, τ⟩ := r1
  obtain ⟨U1, τ'⟩ := r2
  have e22 : τ'.2 = τ.2 := h22
  rcases hA with ⟨v, a1, a2, a3⟩ | ⟨E, i, a1, a2, a3, w, a4⟩
  · have a1 : R1 = .inl (some (.int v)) := a1
    have a2 : U1 = .inl (some (.int v)) := a2
    subst a1 a2
    exact ⟨v, τ, τ', rfl, hR, h7, hM1, rfl, hK, kE7_22 h7 (by rw [e22]), e22⟩
  · have a2 : (none : Option String) = some E := a2
    cases a2
theorem kStepV {G : jgG} {c : Nat} {σ : jgS} {x : Nat} {v : Value} {r1 r2 : jgR} (hF : kF G c σ x) (hr : kRe G (c + 1) σ x v r1 r2) : ∃ (τ1 τ2 : jgS), r1 = (.inl (some v), τ1) ∧ kFr σ τ1 x ∧ kE7 σ τ1 ∧ jMO G τ1 (x + 233) ∧ r2 = (.inl (some v), τ2) ∧ kF G (c + 1) τ2 x ∧ kE7 σ τ2 := by
  obtain ⟨a1, a2, hR, h22, hK⟩ := hr
  have h7 := kE6_7 hR.1
  have hM1 := jMO_cg hR (kMO hF)
  obtain ⟨R1, τ⟩ := r1
  obtain ⟨U1, τ'⟩ := r2
  have e22 : τ'.2 = τ.2 := h22
  have a1 : R1 = .inl (some v) := a1
  have a2 : U1 = .inl (some v) := a2
  subst a1 a2
  exact ⟨τ, τ', rfl, hR, h7, hM1, rfl, hK, kE7_22 h7 (by rw [e22])⟩
/-- what holds at the loop's head, c calls made -/
def kJ (G : jgG) (n : Nat) (f : Nat → Int32) (s x o c h0 s0 : Nat) (σ : jgS) : Prop := kF G c σ x ∧ ja G (jwt σ) o 9 1 ∧ (jhs σ ≤ h0 + c ∧ jsl σ ≤ s0 + 6 * c) ∧ ¬ G.1 ≤ s ∧ G.2.2.2.2 s = some (n, f)
theorem kJ_s {G : jgG} {n : Nat} {f : Nat → Int32} {s x o c h0 s0 : Nat} {σ τ : jgS} (h : kJ G n f s x o c h0 s0 σ) (hF : kF G (c + 1) τ x) (hE : kE7 σ τ) : kJ G n f s x o (c + 1) h0 s0 τ := by
  obtain ⟨_, h2, ⟨h3, h4⟩, h5⟩ := h
  obtain ⟨e1, e2, e3⟩ := hE
  exact ⟨hF, by rw [e1]; exact h2, ⟨by omega, by omega⟩, h5⟩
theorem kix {n c : Nat} (hc : 4 * c + 4 ≤ n) (hn : n ≤ 2048) : (nI (4 * c) + 1 = nI (4 * c + 1) ∧ vp_in (nI (4 * c + 1)) n ∧ (nI (4 * c + 1)).toNatClampNeg = 4 * c + 1) ∧ (nI (4 * c) + 2 = nI (4 * c + 2) ∧ vp_in (nI (4 * c + 2)) n ∧ (nI (4 * c + 2)).toNatClampNeg = 4 * c + 2) ∧ (nI (4 * c) + 3 = nI (4 * c + 3) ∧ vp_in (nI (4 * c + 3)) n ∧ (nI (4 * c + 3)).toNatClampNeg = 4 * c + 3) ∧ (vp_in (nI (4 * c)) n ∧ (nI (4 * c)).toNatClampNeg = 4 * c) :=
  ⟨⟨nI_add _ 1, vp_in_nI (by omega) (by omega), nI_clamp (by omega)⟩, ⟨nI_add _ 2, vp_in_nI (by omega) (by omega), nI_clamp (by omega)⟩, ⟨nI_add _ 3, vp_in_nI (by omega) (by omega), nI_clamp (by omega)⟩, vp_in_nI (by omega) (by omega), nI_clamp (by omega)⟩
