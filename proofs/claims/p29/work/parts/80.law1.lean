/-! the law: what it holds at a turn's head -/
def I_L_law : jgI := (0, 99, yL_law, cL_law, 18, (some .boolean), 1, 9, 170, [])
def M_L_law (G : jgG) : jgM := (cL_law, [(11, jpN 6), (41, jpC I_L_held (S_L_held G)), (59, jpC I_L_take (S_L_take G)), (70, jpC I_L_pass (S_L_pass G)), (90, jpC I_X6_init (S_X6_init G)), (91, jpC I_L_cell (S_L_cell G)), (95, jpC I_L_low (S_L_low G)), (98, jpC I_L_put (S_L_put G)), (101, jpC I_X6_take (S_X6_take G)), (103, jpC I_L_done (S_L_done G)), (105, jpC I_L_giveBack (S_L_giveBack G)), (107, jpC I_X6_pass (S_X6_pass G)), (109, jpC I_X6_renew (S_X6_renew G)), (112, jpC I_X6_set (S_X6_set G)), (115, jpC I_X6_takes (S_X6_takes G)), (118, jpC I_L_urge (S_L_urge G)), (120, jpC I_L_revive (S_L_revive G)), (123, jpC I_X6_sweep (S_X6_sweep G)), (126, jpC I_L_same (S_L_same G))], [], [], (some .boolean), false)
theorem jq_dupx2I {G : jgG} {M : jgM} {pc : Nat} {ls : List (Option Value)} {st : List Value} {σ : jgS} {Φ : jgR → Prop} {v i : Int32} {a : Nat} (q : Nat) (hd : decode M.1 pc = .ok (.dup_x2, 1)) (hq : pc + 1 = q) : Jr G M pc ls (.int v :: .int i :: .ref a :: st) σ Φ ↔ Jr G M q ls (.int v :: .int i :: .ref a :: .int v :: st) σ Φ := jq_dupx2 q hd hq rfl rfl rfl
/-- the number that low makes -/
def lln (v : Int32) (N : Nat) : Nat := v.toBitVec.toNat % 2 ^ 31 % N
theorem lln_lt (v : Int32) {N : Nat} (h : 0 < N) : lln v N < N := Nat.mod_lt _ h
theorem llV_n (v : Int32) {N : Nat} (h : 0 < N) (h2 : N < 2 ^ 31) : llV v (nI N) = nI (lln v N) := by
  unfold llV lln
  rw [pk_and v (m := 2147483647) 31 (by decide)]
  exact pk_rem (Nat.mod_lt _ (by decide)) h h2
theorem llV_2 (v : Int32) : llV v 2 = nI (lln v 2) := llV_n v (N := 2) (by decide) (by decide)
theorem llz_2 : ((2 : Int32) = 0) = False := eq_false (by decide)
theorem llV_3 (v : Int32) : llV v 3 = nI (lln v 3) := llV_n v (N := 3) (by decide) (by decide)
theorem llz_3 : ((3 : Int32) = 0) = False := eq_false (by decide)
theorem llV_4 (v : Int32) : llV v 4 = nI (lln v 4) := llV_n v (N := 4) (by decide) (by decide)
theorem llz_4 : ((4 : Int32) = 0) = False := eq_false (by decide)
theorem llV_6 (v : Int32) : llV v 6 = nI (lln v 6) := llV_n v (N := 6) (by decide) (by decide)
theorem llz_6 : ((6 : Int32) = 0) = False := eq_false (by decide)
theorem llV_7 (v : Int32) : llV v 7 = nI (lln v 7) := llV_n v (N := 7) (by decide) (by decide)
theorem llz_7 : ((7 : Int32) = 0) = False := eq_false (by decide)
theorem llV_10 (v : Int32) : llV v 10 = nI (lln v 10) := llV_n v (N := 10) (by decide) (by decide)
theorem llz_10 : ((10 : Int32) = 0) = False := eq_false (by decide)
theorem llV_12 (v : Int32) : llV v 12 = nI (lln v 12) := llV_n v (N := 12) (by decide) (by decide)
theorem llz_12 : ((12 : Int32) = 0) = False := eq_false (by decide)
theorem llV_256 (v : Int32) : llV v 256 = nI (lln v 256) := llV_n v (N := 256) (by decide) (by decide)
theorem llz_256 : ((256 : Int32) = 0) = False := eq_false (by decide)
def lH (G : jgG) (n : Nat) (f : Nat → Int32) (s x : Nat) : Prop := (lP G (x + 238) (x + 233) (x + 234) ∧ lP G (x + 238) (x + 235) (x + 236) ∧ lA G (x + 238) (x + 237) 3) ∧ ¬ G.1 ≤ s ∧ G.2.2.2.2 s = some (n, f) ∧ n < 2147483648
/-- t turns gone -/
def lB (t : Nat) (S : Nat → Int32) : Prop := mN S ≤ 7 ∧ (∃ p, S 1 = nI p ∧ p ≤ t) ∧ ∃ d, S 3 = nI d ∧ d ≤ 6 * t
def lM (G : jgG) (x t c hb sb : Nat) (τ : jgS) (S : Nat → Int32) : Prop := (nF G c τ x S ∧ lB t S) ∧ jwt τ = x + 238 ∧ jhs τ ≤ hb ∧ jsl τ ≤ sb
theorem lB_mono {t u : Nat} {S : Nat → Int32} (h : t ≤ u) (hB : lB t S) : lB u S := by
  obtain ⟨h1, ⟨p, h2, h3⟩, d, h4, h5⟩ := hB
  exact ⟨h1, ⟨p, h2, by omega⟩, d, h4, by omega⟩
theorem nF_lw {G : jgG} {c x : Nat} {σ : jgS} {S U : Nat → Int32} (hF : nF G c σ x S) : nF G c (lw σ (x + 233) (x + 234) U) x S := nF_cg hF (kE_2 rfl) (fun a ha => funext fun k => lw_ne (by omega) (by omega)) (lw_ne (by omega) (by omega))
theorem lOr_B {G : jgG} {c x t : Nat} {σ : jgS} {S : Nat → Int32} (hF : nF G c σ x S) (hc : c ≤ 1000) (hB : lB t S) (ht : t ≤ 24) : lOr S := by
  obtain ⟨h7, ⟨p, hp, hp2⟩, _⟩ := hB
  obtain ⟨hO, p', T, D, q1, q2, _, _, _, _, hr, hm, hi⟩ := hF.2.2
  have e : nI p' = nI p := q1.symm.trans hp
  have e2 := (nI_eq (by omega) (by omega)).mp e
  refine ⟨⟨hO.1, h7⟩, fun j hj => (hr j hj).2.1, fun j hj => ⟨(hm j hj).1, ?_⟩, hi⟩
  have h1 := (hm j hj).2
  omega
theorem lCall {G : jgG} {d x : Nat} {F : jgR} {v : Int32} {σ : jgS} {S S' : Nat → Int32} (h : ∃ τ, F = (.inl (some (.int v)), τ) ∧ nF G d τ x S' ∧ nU (lw σ (x + 233) (x + 234) S) τ x) : ∃ τ, F = (.inl (some (.int v)), lw τ (x + 233) (x + 234) S) ∧ nF G d τ x S' ∧ τ.2 = σ.2 := by
  obtain ⟨τ, e, hF, h2, hr⟩ := h
  have hQR : ¬ (x + 233) = (x + 234) := by omega
  have eS : lS τ (x + 233) (x + 234) = S := by
    show lj (τ.1 (x + 233)) (τ.1 (x + 234)) = S
    rw [hr _ (by omega), hr _ (by omega)]
    exact lw_S hQR
  exact ⟨τ, e.trans (congrArg (fun z => ((.inl (some (.int v)), z) : jgR)) ((lw_self hQR).symm.trans (congrArg (lw τ (x + 233) (x + 234)) eS))), hF, h2⟩
theorem lz_S {τ : jgS} {x : Nat} {L : jLS} {Y : Nat → Int32} {t : Int32 × Int32 × Int32} : lS (lz τ x L Y t) (x + 233) (x + 234) = lS τ (x + 233) (x + 234) := by
  show lj ((lz τ x L Y t).1 (x + 233)) ((lz τ x L Y t).1 (x + 234)) = lj (τ.1 (x + 233)) (τ.1 (x + 234))
  rw [show (lz τ x L Y t).1 (x + 233) = τ.1 (x + 233) from funext fun k => lz_ne (by omega) (by omega) (by omega) (by omega), show (lz τ x L Y t).1 (x + 234) = τ.1 (x + 234) from funext fun k => lz_ne (by omega) (by omega) (by omega) (by omega)]
theorem lSame {G : jgG} {x t c hb sb : Nat} {τ : jgS} {S : Nat → Int32} (hM : lM G x t c hb sb τ S) : ∃ υ, Ff_L_same G x (x + 233) (x + 234) (x + 235) (x + 236) (x + 237) (lw τ (x + 233) (x + 234) S) = (.inl (some (.int 1)), lw υ (x + 233) (x + 234) S) ∧ lM G x t c (hb + 1) (sb + 4) υ S := by
  obtain ⟨⟨hF, hB⟩, hw, h1, h2⟩ := hM
  have hQR : ¬ (x + 233) = (x + 234) := by omega
  refine ⟨jwh (lsF (lw τ (x + 233) (x + 234) S) x) 4, ?_, ⟨nF_h (nF_cg (nF_lw (U := S) hF) (kE_2 rfl) (fun a ha => funext fun k => lz_ne (by omega) (by omega) (by omega) (by omega)) (lz_ne (by omega) (by omega) (by omega) (by omega))), hB⟩, hw, ?_, ?_⟩
  · unfold Ff_L_same
    refine congrArg (fun z => ((.inl (some (.int 1)), z) : jgR)) ?_
    have eS : lS (jwh (lsF (lw τ (x + 233) (x + 234) S) x) 4) (x + 233) (x + 234) = S := (lz_S (τ := lw τ (x + 233) (x + 234) S)).trans (lw_S hQR)
    exact (lw_self hQR).symm.trans (congrArg (lw _ (x + 233) (x + 234)) eS)
  · show jhs τ + 1 ≤ _
    omega
  · show jsl τ + 4 ≤ _
    omega
