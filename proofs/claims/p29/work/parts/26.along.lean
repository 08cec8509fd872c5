/-! the order for taking -/
theorem jct_sub {p q : Nat → Prop} [DecidablePred p] [DecidablePred q] {n : Nat} (h : ∀ i, i < n → p i → q i) : jct p n ≤ jct q n := by
  induction n with
  | zero => exact Nat.le_refl _
  | succ n ih =>
    have h1 := ih fun i hi => h i (by omega)
    by_cases hp : p n
    · rw [jct_y hp, jct_y (h n (by omega) hp)]; omega
    · rw [jct_n hp]
      exact Nat.le_trans h1 (jct_mono q (by omega))
theorem jct_one {p q : Nat → Prop} [DecidablePred p] [DecidablePred q] {n a : Nat} (ha : a < n) (h1 : ¬ p a) (h2 : q a) (h : ∀ i, i < n → ¬ i = a → (p i ↔ q i)) : jct q n = jct p n + 1 := by
  induction n with
  | zero => omega
  | succ n ih =>
    by_cases e : a = n
    · subst e
      rw [jct_y h2, jct_n h1, jct_cg fun i hi => (h i (by omega) (by omega)).symm]
    · have h3 := ih (by omega) fun i hi => h i (by omega)
      by_cases hp : p n
      · rw [jct_y hp, jct_y ((h n (by omega) (by omega)).mp hp), h3]
      · rw [jct_n hp, jct_n fun z => hp ((h n (by omega) (by omega)).mpr z), h3]
/-- how many open rows of the first n stand ahead of rank t, index i -/
def jpos (o : Nat → Prop) [DecidablePred o] (rk : Nat → Nat) (n t i : Nat) : Nat := jct (fun j => o j ∧ (rk j < t ∨ rk j = t ∧ j < i)) n
theorem jpos_s {o : Nat → Prop} [DecidablePred o] {rk : Nat → Nat} {n t i : Nat} (hi : i < n) (ho : o i) (hr : rk i = t) : jpos o rk n t (i + 1) = jpos o rk n t i + 1 := by
  refine jct_one hi (fun q => ?_) ⟨ho, by omega⟩ (fun j _ hj => ?_)
  · omega
  · exact ⟨fun q => ⟨q.1, by omega⟩, fun q => ⟨q.1, by omega⟩⟩
theorem jpos_n {o : Nat → Prop} [DecidablePred o] {rk : Nat → Nat} {n t i : Nat} (h : ¬ (rk i = t ∧ o i)) : jpos o rk n t (i + 1) = jpos o rk n t i := by
  refine jct_cg fun j _ => ?_
  by_cases e : j = i
  · subst e
    exact ⟨fun q => ⟨q.1, by rcases q.2 with w | w; exact Or.inl w; exact absurd ⟨w.1, q.1⟩ h⟩, fun q => ⟨q.1, by omega⟩⟩
  · exact ⟨fun q => ⟨q.1, by omega⟩, fun q => ⟨q.1, by omega⟩⟩
theorem jpos_t {o : Nat → Prop} [DecidablePred o] {rk : Nat → Nat} {n t : Nat} : jpos o rk n t n = jpos o rk n (t + 1) 0 :=
  jct_cg fun j _ => ⟨fun q => ⟨q.1, by omega⟩, fun q => ⟨q.1, by omega⟩⟩
theorem jpos_0 {o : Nat → Prop} [DecidablePred o] {rk : Nat → Nat} {n : Nat} : jpos o rk n 0 0 = 0 := by
  have : ∀ n, jpos o rk n 0 0 = 0 := by
    intro n
    induction n with
    | zero => rfl
    | succ n ih => exact (jct_n (by omega)).trans ih
  exact this n
theorem jpos_all {o : Nat → Prop} [DecidablePred o] {rk : Nat → Nat} {n T : Nat} (h : ∀ j, j < n → rk j < T) : jpos o rk n T 0 = jct o n :=
  jct_cg fun j hj => ⟨fun q => q.1, fun q => ⟨q, Or.inl (h j hj)⟩⟩
theorem jpos_mono {o : Nat → Prop} [DecidablePred o] {rk : Nat → Nat} {n t i t' i' : Nat} (h : t < t' ∨ t = t' ∧ i ≤ i') : jpos o rk n t i ≤ jpos o rk n t' i' :=
  jct_sub fun j _ q => ⟨q.1, by omega⟩
/-- the k-th in the order -/
def jord (o : Nat → Prop) [DecidablePred o] (rk : Nat → Nat) (n k : Nat) : Nat := match jfs (fun i => o i ∧ jpos o rk n (rk i) i = k) n with
  | some i => i
  | none => 0
theorem jfs_some {p : Nat → Prop} [DecidablePred p] : ∀ {n i : Nat}, jfs p n = some i → i < n ∧ p i ∧ ∀ j, j < i → ¬ p j
  | 0, i, h => by cases h
  | n + 1, i, h => by
    unfold jfs at h
    split at h
    · rename_i k hk
      obtain ⟨h1, h2, h3⟩ := jfs_some hk
      cases h
      exact ⟨by omega, h2, h3⟩
    · rename_i hk
      split at h
      · rename_i hp
        cases h
        refine ⟨by omega, hp, fun j hj => ?_⟩
        have : ∀ m, jfs p m = none → ∀ j, j < m → ¬ p j := by
          intro m
          induction m with
          | zero => intro _ j hj; omega
          | succ m ih =>
            intro hm j hj
            unfold jfs at hm
            split at hm
            · cases hm
            · rename_i hm'
              split at hm
              · cases hm
              · rename_i hpm
                by_cases e : j = m
                · subst e; exact hpm
                · exact ih hm' j (by omega)
        exact this n hk j hj
      · cases h
theorem jfs_no {p : Nat → Prop} [DecidablePred p] : ∀ {n : Nat}, jfs p n = none → ∀ j, j < n → ¬ p j := by
  intro m
  induction m with
  | zero => intro _ j hj; omega
  | succ m ih =>
    intro hm j hj
    unfold jfs at hm
    split at hm
    · cases hm
    · rename_i hm'
      split at hm
      · cases hm
      · rename_i hpm
        by_cases e : j = m
        · subst e; exact hpm
        · exact ih hm' j (by omega)
theorem jpos_inj {o : Nat → Prop} [DecidablePred o] {rk : Nat → Nat} {n i j : Nat} (hi : i < n) (hj : j < n) (oi : o i) (oj : o j) (h : jpos o rk n (rk i) i = jpos o rk n (rk j) j) : i = j := by
  have h1 := jpos_s (rk := rk) hi oi rfl
  have h2 := jpos_s (rk := rk) hj oj rfl
  by_cases a : rk i < rk j ∨ rk i = rk j ∧ i < j
  · have := jpos_mono (o := o) (rk := rk) (n := n) (t := rk i) (i := i + 1) (t' := rk j) (i' := j) (by omega)
    omega
  · by_cases b : rk j < rk i ∨ rk j = rk i ∧ j < i
    · have := jpos_mono (o := o) (rk := rk) (n := n) (t := rk j) (i := j + 1) (t' := rk i) (i' := i) (by omega)
      omega
    · omega
theorem jord_at {o : Nat → Prop} [DecidablePred o] {rk : Nat → Nat} {n i : Nat} (hi : i < n) (oi : o i) : jord o rk n (jpos o rk n (rk i) i) = i := by
  unfold jord
  split
  · rename_i k hk
    obtain ⟨h1, h2, -⟩ := jfs_some hk
    exact jpos_inj h1 hi h2.1 oi h2.2
  · rename_i hk
    exact absurd ⟨oi, rfl⟩ (jfs_no hk i hi)
/-- frozen from where the turns do nothing -/
theorem jfd_fr {S : Type} {f : Nat → S → S} {q : S → Prop} (hf : ∀ k s, q s → f k s = s) {s : S} {k : Nat} (h : q (jfd f k s)) : ∀ {m}, k ≤ m → jfd f m s = jfd f k s := by
  intro m hm
  obtain ⟨d, rfl⟩ : ∃ d, m = k + d := ⟨m - k, by omega⟩
  clear hm
  induction d with
  | zero => rfl
  | succ d ih =>
    show f (k + d) (jfd f (k + d) s) = _
    rw [ih]
    exact hf _ _ h
/-! SkipRows$Look.along -/
/-- taken, takenRows, skipped, skippedRows, first -/
abbrev jLS : Type := Int32 × Int32 × Int32 × Int32 × Int32
def jL0 : jLS := (0, 0, 0, 0, -1)
def jLm (s : jLS) (x c : Int32) : jLS := if c = 0 then (s.1, s.2.1, s.2.2.1 ||| (1 <<< (x &&& 31)), s.2.2.2.1 + 1, s.2.2.2.2) else (s.1 ||| (1 <<< (x &&& 31)), s.2.1 + 1, s.2.2.1, s.2.2.2.1, if s.2.1 = 0 then x else s.2.2.2.2)
/-- the look's fields -/
def jwL (σ : jgS) (L : Nat) (s : jLS) : jgS := (fun a k => if a = L ∧ k < 5 then (if k = 0 then s.1 else if k = 1 then s.2.1 else if k = 2 then s.2.2.1 else if k = 3 then s.2.2.2.1 else s.2.2.2.2) else σ.1 a k, σ.2)
theorem jwL_2 (σ : jgS) (L : Nat) (s : jLS) : (jwL σ L s).2 = σ.2 := rfl
theorem jwL_wt (σ : jgS) (L : Nat) (s : jLS) : jwt (jwL σ L s) = jwt σ := id rfl
theorem jwL_1 (σ : jgS) (L : Nat) (s : jLS) : (jwL σ L s).1 L 1 = s.2.1 := if_pos ⟨rfl, by decide⟩
theorem jwL_out {σ : jgS} {L : Nat} {s : jLS} {a k : Nat} (h : ¬ a = L) : (jwL σ L s).1 a k = σ.1 a k := if_neg (by omega)
theorem jwL_k {x1 x2 : jgS} {L : Nat} (h2 : x1.2 = x2.2) (ho : ∀ a k, ¬ (a = L ∧ k < 5) → x1.1 a k = x2.1 a k) (h0 : x1.1 L 0 = x2.1 L 0) (h1 : x1.1 L 1 = x2.1 L 1) (h3 : x1.1 L 2 = x2.1 L 2) (h4 : x1.1 L 3 = x2.1 L 3) (h5 : x1.1 L 4 = x2.1 L 4) : x1 = x2 := by
  refine Prod.ext (funext fun a => funext fun k => ?_) h2
  by_cases c : a = L ∧ k < 5
  · obtain ⟨rfl, hk⟩ := c
    rcases (show k = 0 ∨ k = 1 ∨ k = 2 ∨ k = 3 ∨ k = 4 by omega) with rfl | rfl | rfl | rfl | rfl
    · exact h0
    · exact h1
    · exact h3
    · exact h4
    · exact h5
  · exact ho a k c
theorem jwL_f (G : jgG) (σ : jgS) (L : Nat) : Ff_X2_forget G L σ = (.inl none, jwL σ L jL0) := by
  refine congrArg (Prod.mk _) (jwL_k (L := L) rfl (fun a k h => ?_) ?_ ?_ ?_ ?_ ?_)
  · have e : (jwL σ L jL0).1 a k = σ.1 a k := if_neg h
    rw [e]
    simp only [jI_wI]
    rw [if_neg (by omega), if_neg (by omega), if_neg (by omega), if_neg (by omega), if_neg (by omega)]
  all_goals simp [jI_wI, jwL, jL0]
theorem jwL_m (G : jgG) (σ : jgS) (L : Nat) (s : jLS) (x c : Int32) : Ff_X2_meet G L x c (jwL σ L s) = (.inl none, jwL σ L (jLm s x c)) := by
  unfold Ff_X2_meet
  by_cases h1 : c = 0
  · rw [if_pos h1]
    refine congrArg (Prod.mk _) (jwL_k (L := L) rfl (fun a k h => ?_) ?_ ?_ ?_ ?_ ?_)
    · have e : ∀ s, (jwL σ L s).1 a k = σ.1 a k := fun s => if_neg h
      rw [e]
      simp only [jI_wI]
      rw [if_neg (by omega), if_neg (by omega), e]
    all_goals simp [jI_wI, jwL, jLm, h1]
  · rw [if_neg h1]
    by_cases h2 : s.2.1 = 0
    · rw [if_pos (show (jwL σ L s).1 L 1 = 0 from (jwL_1 σ L s).trans h2)]
      refine congrArg (Prod.mk _) (jwL_k (L := L) rfl (fun a k h => ?_) ?_ ?_ ?_ ?_ ?_)
      · have e : ∀ s, (jwL σ L s).1 a k = σ.1 a k := fun s => if_neg h
        rw [e]
        simp only [jI_wI]
        rw [if_neg (by omega), if_neg (by omega), if_neg (by omega), e]
      all_goals simp [jI_wI, jwL, jLm, h1, h2]
    · rw [if_neg (show ¬ (jwL σ L s).1 L 1 = 0 from fun q => h2 ((jwL_1 σ L s).symm.trans q))]
      refine congrArg (Prod.mk _) (jwL_k (L := L) rfl (fun a k h => ?_) ?_ ?_ ?_ ?_ ?_)
      · have e : ∀ s, (jwL σ L s).1 a k = σ.1 a k := fun s => if_neg h
        rw [e]
        simp only [jI_wI]
        rw [if_neg (by omega), if_neg (by omega), e]
      all_goals simp [jI_wI, jwL, jLm, h1, h2]
/-- the rank of a row by its urgency -/
def jrk (σ : jgS) (h j : Nat) : Nat := 9 - (σ.1 (h + 4 + j) 1).toNatClampNeg
def jroom (σ : jgS) (h : Nat) (r m : Int32) : Int32 := if σ.1 (h + 3) 3 - nI (jct (fun i => (σ.1 (h + 4 + i) 4 = 1 ∧ σ.1 (h + 4 + i) 5 = r)) (jn σ h)) < m then σ.1 (h + 3) 3 - nI (jct (fun i => (σ.1 (h + 4 + i) 4 = 1 ∧ σ.1 (h + 4 + i) 5 = r)) (jn σ h)) else m
def jLst (σ : jgS) (h : Nat) (r : Nat) (m : Int32) (k : Nat) (s : jLS) : jLS := if s.2.1 < m then jLm s (nI (jord (fun j => (σ.1 (h + 4 + j) 4 = 0 ∨ σ.1 (h + 4 + j) 4 = 1)) (jrk σ h) (jn σ h) (k))) (jCan σ h r (jord (fun j => (σ.1 (h + 4 + j) 4 = 0 ∨ σ.1 (h + 4 + j) 4 = 1)) (jrk σ h) (jn σ h) (k))) else s
def jLG (σ : jgS) (h r : Nat) (m : Int32) (k : Nat) : jLS := jfd (jLst σ h r m) k jL0
theorem jLst_no {σ : jgS} {h r : Nat} {m : Int32} {k : Nat} {s : jLS} (hs : ¬ s.2.1 < m) : jLst σ h r m k s = s := if_neg hs
theorem jLG_s {σ : jgS} {h r : Nat} {m : Int32} {k : Nat} : jLG σ h r m (k + 1) = jLst σ h r m k (jLG σ h r m k) := rfl
theorem jLG_fr {σ : jgS} {h r : Nat} {m : Int32} {k k' : Nat} (hk : k ≤ k') (hm : ¬ (jLG σ h r m k).2.1 < m) : jLG σ h r m k' = jLG σ h r m k := by
  obtain ⟨d, rfl⟩ : ∃ d, k' = k + d := ⟨k' - k, by omega⟩
  clear hk
  induction d with
  | zero => rfl
  | succ d ih => rw [← Nat.add_assoc, jLG_s, ih, jLst_no hm]
theorem jBlk_cg {σ τ : jgS} {h i : Nat} (hi : i < 24) (hc : ∀ a k, h ≤ a → a < h + 32 → τ.1 a k = σ.1 a k) : jBlk τ h i = jBlk σ h i := by
  unfold jBlk
  rw [hc (h + 3) 2 (by omega) (by omega)]
  rw [jct_cg (q := fun j => (σ.1 (h + 4 + j) 0 = σ.1 (h + 4 + i) 0 ∧ (σ.1 (h + 4 + j) 4 = 0 ∨ σ.1 (h + 4 + j) 4 = 1)))]
  intro j hj
  simp only [hc (h + 4 + j) _ (by omega) (by omega), hc (h + 4 + i) _ (by omega) (by omega)]
theorem jCan_cg {σ τ : jgS} {h r i : Nat} (hr : r < 4) (hi : i < 24) (hc : ∀ a k, h ≤ a → a < h + 32 → τ.1 a k = σ.1 a k) : jCan τ h r i = jCan σ h r i := by
  unfold jCan
  rw [jBlk_cg hi hc, hc (h + 4 + i) 4 (by omega) (by omega), hc (h + 4 + i) 0 (by omega) (by omega), hc (h + 28 + r) 0 (by omega) (by omega)]
theorem jwL_T {G : jgG} {σ : jgS} {h L : Nat} {s : jLS} (hL : h + 32 ≤ L) (hT : jT G σ h) : jT G (jwL σ L s) h := by
  obtain ⟨h1, h2, h3⟩ := hT
  have e : jn (jwL σ L s) h = jn σ h := by unfold jn; rw [jwL_out (by omega)]
  exact ⟨h1, by rw [e, jwL_out (by omega)]; exact h2, by rw [e]; exact h3⟩
theorem jwL_hold (G : jgG) {σ : jgS} {h L : Nat} {s : jLS} (r : Int32) (hL : h + 32 ≤ L) (hn : jn σ h ≤ 24) : Ff_X5_holdsOf G h r (jwL σ L s) = (.inl (some (.int (nI (jct (fun i => (σ.1 (h + 4 + i) 4 = 1 ∧ σ.1 (h + 4 + i) 5 = r)) (jn σ h))))), jwL σ L s) := by
  unfold Ff_X5_holdsOf
  have e : jn (jwL σ L s) h = jn σ h := by unfold jn; rw [jwL_out (by omega)]
  rw [e, jct_cg (q := fun i => (σ.1 (h + 4 + i) 4 = 1 ∧ σ.1 (h + 4 + i) 5 = r))]
  intro i hi
  rw [jwL_out (by omega), jwL_out (by omega)]
def Pp_X2_along (G : jgG) (L : Nat) (h : Nat) (r : Int32) (m : Int32) (σ : jgS) : Prop := jT G σ h ∧ jo G (jwt σ) L 2 ∧ h + 32 ≤ L ∧ vp_in r 4 ∧ (∀ j, j < jn σ h → vp_in (σ.1 (h + 4 + j) 1) 10)
def Ff_X2_along (G : jgG) (L : Nat) (h : Nat) (r : Int32) (m : Int32) (σ : jgS) : jgR := (.inl none, jwL σ L (jLG σ h r.toNatClampNeg (jroom σ h r m) (jct (fun j => (σ.1 (h + 4 + j) 4 = 0 ∨ σ.1 (h + 4 + j) 4 = 1)) (jn σ h))))
def P_X2_along (G : jgG) (As : List Value) (σ : jgS) : Prop := ∃ L : Nat, ∃ h : Nat, ∃ r : Int32, ∃ m : Int32, As = [.ref L, .ref h, .int r, .int m] ∧ Pp_X2_along G L h r m σ
def F_X2_along (G : jgG) (As : List Value) (σ : jgS) : jgR := Ff_X2_along G (jaR As 0) (jaR As 1) (jaI As 2) (jaI As 3) σ
def S_X2_along (G : jgG) : jgSpec := jsp (P_X2_along G) (F_X2_along G)
theorem PX_X2_along {G : jgG} {L : Nat} {h : Nat} {r : Int32} {m : Int32} {σ : jgS} : P_X2_along G [.ref L, .ref h, .int r, .int m] σ ↔ Pp_X2_along G L h r m σ := by unfold P_X2_along; simp [and_assoc]
theorem FX_X2_along {G : jgG} {L : Nat} {h : Nat} {r : Int32} {m : Int32} {σ : jgS} : F_X2_along G [.ref L, .ref h, .int r, .int m] σ = Ff_X2_along G L h r m σ := rfl
def I_X2_along : jgI := (0, 2, yX2_along, cX2_along, 7, none, 3, 3, 64, [])
theorem jd_X2_along : I_X2_along.2.2.1.cls ≠ "java/lang/invoke/MethodHandle" ∧ I_X2_along.2.2.1.cls ≠ "java/lang/invoke/VarHandle" ∧ (parseMethodDescriptor I_X2_along.2.2.1.desc).map (fun d => d.parameters.length) = some I_X2_along.2.2.2.2.2.2.1 := ⟨by decide +kernel, by decide +kernel, by decide +kernel⟩
def M_X2_along (G : jgG) : jgM := (cX2_along, [(9, jpC I_X2_forget (S_X2_forget G)), (14, jpF 5 2), (20, jpC I_X5_holdsOf (S_X5_holdsOf G)), (24, jpC I_J9_min_7cf53 (S_J9_min_7cf53 G)), (30, jpF 2 1), (34, jpF 5 3), (37, jpF 5 0), (41, jpF 4 1), (46, jpC I_X4_isOpen (S_X4_isOpen G)), (50, jpC I_X5_canTake (S_X5_canTake G)), (54, jpC I_X2_meet (S_X2_meet G))], [], [], none, false)
theorem lp2_X2_along {G : jgG} {L h q t : Nat} {m M : Int32} {σ : jgS} {Φ : jgR → Prop} (hp : Pp_X2_along G L h (nI q) m σ) (hq : q < 4) (ht : t < 10)
    (hnext : ∀ o, Jr G (M_X2_along G) 26 [some (.ref L), some (.ref h), some (.int (nI q)), some (.int m), some (.int M), some (.int (nI (9 - t) + (-1))), o] [] (jwL σ L (jLG σ h q M (jpos (fun j => (σ.1 (h + 4 + j) 4 = 0 ∨ σ.1 (h + 4 + j) 4 = 1)) (jrk σ h) (jn σ h) (t + 1) (0)))) Φ) :
    Jr G (M_X2_along G) 43 [some (.ref L), some (.ref h), some (.int (nI q)), some (.int m), some (.int M), some (.int (nI (9 - t))), some (.int 0)] [] (jwL σ L (jLG σ h q M (jpos (fun j => (σ.1 (h + 4 + j) 4 = 0 ∨ σ.1 (h + 4 + j) 4 = 1)) (jrk σ h) (jn σ h) (t) (0)))) Φ := by
  obtain ⟨hp, hL, hL32, hr, hu⟩ := hp
  have hT : jT G σ h := hp
  obtain ⟨⟨t0, ⟨t1, t2, t3⟩, ⟨⟨a1, k1⟩, ⟨a2, k2⟩, ⟨a3, k3⟩⟩, tr, td⟩, hn, hn24⟩ := hp
  have o_h : ∀ s k, (jwL σ L s).1 h k = σ.1 h k := fun s k => jwL_out (by omega)
  refine jloop (P := fun i => Jr G (M_X2_along G) 43 [some (.ref L), some (.ref h), some (.int (nI q)), some (.int m), some (.int M), some (.int (nI (9 - t))), some (.int (nI i))] [] (jwL σ L (jLG σ h q M (jpos (fun j => (σ.1 (h + 4 + j) 4 = 0 ∨ σ.1 (h + 4 + j) 4 = 1)) (jrk σ h) (jn σ h) (t) (i)))) Φ) (n := jn σ h) ?_ (fun i hlt ih => ?_)
  · show Jr G (M_X2_along G) 43 _ _ _ _
    rw [jpos_t]
    simp only [jq_aload0 (M := M_X2_along G) 1 dX2_along_0 rfl, jq_virt0 (M := M_X2_along G) I_X2_forget 2 dX2_along_1 rfl rfl rfl rfl, jq_iload3 (M := M_X2_along G) 5 dX2_along_4 rfl, jq_aload1 (M := M_X2_along G) 6 dX2_along_5 rfl, jq_getR (M := M_X2_along G) 5 2 9 dX2_along_6 rfl rfl rfl, jq_iconst (M := M_X2_along G) 3 10 dX2_along_9 (by decide) rfl, jq_iald (M := M_X2_along G) 11 dX2_along_10 rfl, jq_aload1 (M := M_X2_along G) 12 dX2_along_11 rfl, jq_iload2 (M := M_X2_along G) 13 dX2_along_12 rfl, jq_virt1 (M := M_X2_along G) I_X5_holdsOf 5 dX2_along_13 rfl rfl rfl rfl, jq_isub (M := M_X2_along G) 17 dX2_along_16 rfl, jq_stat2 (M := M_X2_along G) I_J9_min_7cf53 dX2_along_17 rfl (Or.inl rfl) rfl, jq_istoreW4 (M := M_X2_along G) 22 dX2_along_20 rfl, jq_bipush (M := M_X2_along G) 9 24 dX2_along_22 (by decide) rfl, jq_istoreW5 (M := M_X2_along G) 26 dX2_along_24 rfl, jq_if_lt (M := M_X2_along G) 114 31 dX2_along_28 (by decide) rfl, jq_aload0 (M := M_X2_along G) 32 dX2_along_31 rfl, jq_getI (M := M_X2_along G) 2 1 35 dX2_along_32 rfl rfl rfl, jq_iloadW4 (M := M_X2_along G) 37 dX2_along_35 rfl, jq_icmp_ge (M := M_X2_along G) 114 40 dX2_along_37 (by decide) rfl, jq_iconst (M := M_X2_along G) 0 41 dX2_along_40 (by decide) rfl, jq_istoreW6 (M := M_X2_along G) 43 dX2_along_41 rfl, jq_iloadW6 (M := M_X2_along G) 45 dX2_along_43 rfl, jq_aload1 (M := M_X2_along G) 46 dX2_along_45 rfl, jq_getI (M := M_X2_along G) 5 3 49 dX2_along_46 rfl rfl rfl, jq_icmp_ge (M := M_X2_along G) 108 52 dX2_along_49 (by decide) rfl, jq_aload0 (M := M_X2_along G) 53 dX2_along_52 rfl, jq_getI (M := M_X2_along G) 2 1 56 dX2_along_53 rfl rfl rfl, jq_iloadW4 (M := M_X2_along G) 58 dX2_along_56 rfl, jq_icmp_ge (M := M_X2_along G) 108 61 dX2_along_58 (by decide) rfl, jq_aload1 (M := M_X2_along G) 62 dX2_along_61 rfl, jq_getR (M := M_X2_along G) 5 0 65 dX2_along_62 rfl rfl rfl, jq_iloadW6 (M := M_X2_along G) 67 dX2_along_65 rfl, jq_aald (M := M_X2_along G) 68 dX2_along_67 rfl, jq_getI (M := M_X2_along G) 4 1 71 dX2_along_68 rfl rfl rfl, jq_iloadW5 (M := M_X2_along G) 73 dX2_along_71 rfl, jq_icmp_ne (M := M_X2_along G) 102 76 dX2_along_73 (by decide) rfl, jq_aload1 (M := M_X2_along G) 77 dX2_along_76 rfl, jq_getR (M := M_X2_along G) 5 0 80 dX2_along_77 rfl rfl rfl, jq_iloadW6 (M := M_X2_along G) 82 dX2_along_80 rfl, jq_aald (M := M_X2_along G) 83 dX2_along_82 rfl, jq_virt0 (M := M_X2_along G) I_X4_isOpen 4 dX2_along_83 rfl rfl rfl rfl, jq_if_eq (M := M_X2_along G) 102 89 dX2_along_86 (by decide) rfl, jq_aload0 (M := M_X2_along G) 90 dX2_along_89 rfl, jq_iloadW6 (M := M_X2_along G) 92 dX2_along_90 rfl, jq_aload1 (M := M_X2_along G) 93 dX2_along_92 rfl, jq_iload2 (M := M_X2_along G) 94 dX2_along_93 rfl, jq_iloadW6 (M := M_X2_along G) 96 dX2_along_94 rfl, jq_virt2 (M := M_X2_along G) I_X5_canTake 5 dX2_along_96 rfl rfl rfl rfl, jq_virt2 (M := M_X2_along G) I_X2_meet 2 dX2_along_99 rfl rfl rfl rfl, jq_iinc6 (M := M_X2_along G) 1 105 dX2_along_102 (by decide) rfl, jq_goto (M := M_X2_along G) 43 dX2_along_105 (by decide), jq_iinc5 (M := M_X2_along G) (-1) 111 dX2_along_108 (by decide) rfl, jq_goto (M := M_X2_along G) 26 dX2_along_111 (by decide), jq_ret (M := M_X2_along G) dX2_along_114 rfl, eq_self, jref_10, jref_11, jref_12, jk_v, jk_n, jcat_nil, jcat_i, jcat_r, jcat_l, jcat_d, jc2_i, jc2_r, jc2_n, jc1_i, jc1_r, jrf_some, jwtq_wI, jwtq_wh, jR_wI, jI_wh, jR_wh, List.cons.injEq, Value.int.injEq, Value.ref.injEq, Value.long.injEq, Value.double.injEq, true_and, and_true, and_self, Nat.reduceAdd, Nat.reduceLeDiff, if_true, if_false, ite_true, ite_false, jc1q_i, jc1q_r, jc1q_l, jwtq_wR, jwtq_wY, jI_wI, Nat.reduceEqDiff, and_false, false_and, not_false_eq_true, not_true_eq_false, t0, t1, t2, t3, a1, k1, a2, k2, a3, k3, hn, jwL_2, jwL_wt, o_h, Int32.le_refl]
    exact hnext _
  · show Jr G (M_X2_along G) 43 _ _ _ _
    rw [← nI_1] at ih
    have hc : ¬ nI (jn σ h) ≤ nI i := nI_ge hlt (by omega)
    have hv : vp_in (nI i) 24 := vp_in_nI (by omega) (by decide)
    have hcl : (nI i).toNatClampNeg = i := nI_clamp (by omega)
    have hvn : vp_in (nI i) (jn σ h) := vp_in_nI (by omega) (by omega)
    have o_r : ∀ s k, (jwL σ L s).1 (h + 4 + i) k = σ.1 (h + 4 + i) k := fun s k => jwL_out (by omega)
    have hqc : (nI q).toNatClampNeg = q := nI_clamp (by omega)
    by_cases hb : (jLG σ h q M (jpos (fun j => (σ.1 (h + 4 + j) 4 = 0 ∨ σ.1 (h + 4 + j) 4 = 1)) (jrk σ h) (jn σ h) (t) (i))).2.1 < M
    · obtain ⟨v, hv10, ev⟩ := vp_in_of (hu i hlt) (by decide)
      have erk : jrk σ h i = 9 - v := by unfold jrk; rw [ev, nI_clamp (by omega)]
      by_cases hr9 : v = 9 - t
      · have hrt : jrk σ h i = t := by omega
        have ev2 : σ.1 (h + 4 + i) 1 = nI (9 - t) := by rw [ev, hr9]
        by_cases ho : (σ.1 (h + 4 + i) 4 = 0 ∨ σ.1 (h + 4 + i) 4 = 1)
        · have hcan : ∀ s, jCan (jwL σ L s) h q i = jCan σ h q i := fun s => jCan_cg hq (by omega) fun a k h1 h2 => jwL_out (by omega)
          rw [jpos_s (o := fun j => (σ.1 (h + 4 + j) 4 = 0 ∨ σ.1 (h + 4 + j) 4 = 1)) (rk := jrk σ h) hlt ho hrt, jLG_s] at ih
          have e1 : jord (fun j => (σ.1 (h + 4 + j) 4 = 0 ∨ σ.1 (h + 4 + j) 4 = 1)) (jrk σ h) (jn σ h) (jpos (fun j => (σ.1 (h + 4 + j) 4 = 0 ∨ σ.1 (h + 4 + j) 4 = 1)) (jrk σ h) (jn σ h) (t) (i)) = i := by
            have := jord_at (o := fun j => (σ.1 (h + 4 + j) 4 = 0 ∨ σ.1 (h + 4 + j) 4 = 1)) (rk := jrk σ h) hlt ho
            rwa [hrt] at this
          unfold jLst at ih
          rw [if_pos hb, e1] at ih
          rw [jq_iloadW6 (M := M_X2_along G) 45 dX2_along_43 rfl]
          simp only [jq_aload0 (M := M_X2_along G) 1 dX2_along_0 rfl, jq_virt0 (M := M_X2_along G) I_X2_forget 2 dX2_along_1 rfl rfl rfl rfl, jq_iload3 (M := M_X2_along G) 5 dX2_along_4 rfl, jq_aload1 (M := M_X2_along G) 6 dX2_along_5 rfl, jq_getR (M := M_X2_along G) 5 2 9 dX2_along_6 rfl rfl rfl, jq_iconst (M := M_X2_along G) 3 10 dX2_along_9 (by decide) rfl, jq_iald (M := M_X2_along G) 11 dX2_along_10 rfl, jq_aload1 (M := M_X2_along G) 12 dX2_along_11 rfl, jq_iload2 (M := M_X2_along G) 13 dX2_along_12 rfl, jq_virt1 (M := M_X2_along G) I_X5_holdsOf 5 dX2_along_13 rfl rfl rfl rfl, jq_isub (M := M_X2_along G) 17 dX2_along_16 rfl, jq_stat2 (M := M_X2_along G) I_J9_min_7cf53 dX2_along_17 rfl (Or.inl rfl) rfl, jq_istoreW4 (M := M_X2_along G) 22 dX2_along_20 rfl, jq_bipush (M := M_X2_along G) 9 24 dX2_along_22 (by decide) rfl, jq_istoreW5 (M := M_X2_along G) 26 dX2_along_24 rfl, jq_if_lt (M := M_X2_along G) 114 31 dX2_along_28 (by decide) rfl, jq_aload0 (M := M_X2_along G) 32 dX2_along_31 rfl, jq_getI (M := M_X2_along G) 2 1 35 dX2_along_32 rfl rfl rfl, jq_iloadW4 (M := M_X2_along G) 37 dX2_along_35 rfl, jq_icmp_ge (M := M_X2_along G) 114 40 dX2_along_37 (by decide) rfl, jq_iconst (M := M_X2_along G) 0 41 dX2_along_40 (by decide) rfl, jq_istoreW6 (M := M_X2_along G) 43 dX2_along_41 rfl, jq_aload1 (M := M_X2_along G) 46 dX2_along_45 rfl, jq_getI (M := M_X2_along G) 5 3 49 dX2_along_46 rfl rfl rfl, jq_icmp_ge (M := M_X2_along G) 108 52 dX2_along_49 (by decide) rfl, jq_aload0 (M := M_X2_along G) 53 dX2_along_52 rfl, jq_getI (M := M_X2_along G) 2 1 56 dX2_along_53 rfl rfl rfl, jq_iloadW4 (M := M_X2_along G) 58 dX2_along_56 rfl, jq_icmp_ge (M := M_X2_along G) 108 61 dX2_along_58 (by decide) rfl, jq_aload1 (M := M_X2_along G) 62 dX2_along_61 rfl, jq_getR (M := M_X2_along G) 5 0 65 dX2_along_62 rfl rfl rfl, jq_iloadW6 (M := M_X2_along G) 67 dX2_along_65 rfl, jq_aald (M := M_X2_along G) 68 dX2_along_67 rfl, jq_getI (M := M_X2_along G) 4 1 71 dX2_along_68 rfl rfl rfl, jq_iloadW5 (M := M_X2_along G) 73 dX2_along_71 rfl, jq_icmp_ne (M := M_X2_along G) 102 76 dX2_along_73 (by decide) rfl, jq_aload1 (M := M_X2_along G) 77 dX2_along_76 rfl, jq_getR (M := M_X2_along G) 5 0 80 dX2_along_77 rfl rfl rfl, jq_iloadW6 (M := M_X2_along G) 82 dX2_along_80 rfl, jq_aald (M := M_X2_along G) 83 dX2_along_82 rfl, jq_virt0 (M := M_X2_along G) I_X4_isOpen 4 dX2_along_83 rfl rfl rfl rfl, jq_if_eq (M := M_X2_along G) 102 89 dX2_along_86 (by decide) rfl, jq_aload0 (M := M_X2_along G) 90 dX2_along_89 rfl, jq_iloadW6 (M := M_X2_along G) 92 dX2_along_90 rfl, jq_aload1 (M := M_X2_along G) 93 dX2_along_92 rfl, jq_iload2 (M := M_X2_along G) 94 dX2_along_93 rfl, jq_iloadW6 (M := M_X2_along G) 96 dX2_along_94 rfl, jq_virt2 (M := M_X2_along G) I_X5_canTake 5 dX2_along_96 rfl rfl rfl rfl, jq_virt2 (M := M_X2_along G) I_X2_meet 2 dX2_along_99 rfl rfl rfl rfl, jq_iinc6 (M := M_X2_along G) 1 105 dX2_along_102 (by decide) rfl, jq_goto (M := M_X2_along G) 43 dX2_along_105 (by decide), jq_iinc5 (M := M_X2_along G) (-1) 111 dX2_along_108 (by decide) rfl, jq_goto (M := M_X2_along G) 26 dX2_along_111 (by decide), jq_ret (M := M_X2_along G) dX2_along_114 rfl, eq_self, jref_10, jref_11, jref_12, jk_v, jk_n, jcat_nil, jcat_i, jcat_r, jcat_l, jcat_d, jc2_i, jc2_r, jc2_n, jc1_i, jc1_r, jrf_some, jwtq_wI, jwtq_wh, jR_wI, jI_wh, jR_wh, List.cons.injEq, Value.int.injEq, Value.ref.injEq, Value.long.injEq, Value.double.injEq, true_and, and_true, and_self, Nat.reduceAdd, Nat.reduceLeDiff, if_true, if_false, ite_true, ite_false, jc1q_i, jc1q_r, jc1q_l, jwtq_wR, jwtq_wY, jI_wI, Nat.reduceEqDiff, and_false, false_and, not_false_eq_true, not_true_eq_false, t0, t1, t2, t3, a1, k1, a2, k2, a3, k3, hn, jwL_2, jwL_wt, o_h, o_r, jwL_1, hL, hc, ji_le, hb, tr i (by omega), hc, hv, hcl, ev2, PX_X4_isOpen, FX_X4_isOpen, Pp_X4_isOpen, Ff_X4_isOpen, PX_X5_canTake, FX_X5_canTake, Pp_X5_canTake, Ff_X5_canTake, PX_X2_meet, FX_X2_meet, Pp_X2_meet, jwL_m, jb_0, ho, hL, hr, hvn, hqc, jwL_T hL32 hT, (jwL_T (s := jLG σ h q M (jpos (fun j => (σ.1 (h + 4 + j) 4 = 0 ∨ σ.1 (h + 4 + j) 4 = 1)) (jrk σ h) (jn σ h) (t) (i))) hL32 hT), hcan, show jn (jwL σ L (jLG σ h q M (jpos (fun j => (σ.1 (h + 4 + j) 4 = 0 ∨ σ.1 (h + 4 + j) 4 = 1)) (jrk σ h) (jn σ h) (t) (i)))) h = jn σ h from by unfold jn; rw [o_h]]
          exact ih
        · rw [jpos_n (o := fun j => (σ.1 (h + 4 + j) 4 = 0 ∨ σ.1 (h + 4 + j) 4 = 1)) (rk := jrk σ h) (fun z => ho z.2)] at ih
          rw [jq_iloadW6 (M := M_X2_along G) 45 dX2_along_43 rfl]
          simp only [jq_aload0 (M := M_X2_along G) 1 dX2_along_0 rfl, jq_virt0 (M := M_X2_along G) I_X2_forget 2 dX2_along_1 rfl rfl rfl rfl, jq_iload3 (M := M_X2_along G) 5 dX2_along_4 rfl, jq_aload1 (M := M_X2_along G) 6 dX2_along_5 rfl, jq_getR (M := M_X2_along G) 5 2 9 dX2_along_6 rfl rfl rfl, jq_iconst (M := M_X2_along G) 3 10 dX2_along_9 (by decide) rfl, jq_iald (M := M_X2_along G) 11 dX2_along_10 rfl, jq_aload1 (M := M_X2_along G) 12 dX2_along_11 rfl, jq_iload2 (M := M_X2_along G) 13 dX2_along_12 rfl, jq_virt1 (M := M_X2_along G) I_X5_holdsOf 5 dX2_along_13 rfl rfl rfl rfl, jq_isub (M := M_X2_along G) 17 dX2_along_16 rfl, jq_stat2 (M := M_X2_along G) I_J9_min_7cf53 dX2_along_17 rfl (Or.inl rfl) rfl, jq_istoreW4 (M := M_X2_along G) 22 dX2_along_20 rfl, jq_bipush (M := M_X2_along G) 9 24 dX2_along_22 (by decide) rfl, jq_istoreW5 (M := M_X2_along G) 26 dX2_along_24 rfl, jq_if_lt (M := M_X2_along G) 114 31 dX2_along_28 (by decide) rfl, jq_aload0 (M := M_X2_along G) 32 dX2_along_31 rfl, jq_getI (M := M_X2_along G) 2 1 35 dX2_along_32 rfl rfl rfl, jq_iloadW4 (M := M_X2_along G) 37 dX2_along_35 rfl, jq_icmp_ge (M := M_X2_along G) 114 40 dX2_along_37 (by decide) rfl, jq_iconst (M := M_X2_along G) 0 41 dX2_along_40 (by decide) rfl, jq_istoreW6 (M := M_X2_along G) 43 dX2_along_41 rfl, jq_aload1 (M := M_X2_along G) 46 dX2_along_45 rfl, jq_getI (M := M_X2_along G) 5 3 49 dX2_along_46 rfl rfl rfl, jq_icmp_ge (M := M_X2_along G) 108 52 dX2_along_49 (by decide) rfl, jq_aload0 (M := M_X2_along G) 53 dX2_along_52 rfl, jq_getI (M := M_X2_along G) 2 1 56 dX2_along_53 rfl rfl rfl, jq_iloadW4 (M := M_X2_along G) 58 dX2_along_56 rfl, jq_icmp_ge (M := M_X2_along G) 108 61 dX2_along_58 (by decide) rfl, jq_aload1 (M := M_X2_along G) 62 dX2_along_61 rfl, jq_getR (M := M_X2_along G) 5 0 65 dX2_along_62 rfl rfl rfl, jq_iloadW6 (M := M_X2_along G) 67 dX2_along_65 rfl, jq_aald (M := M_X2_along G) 68 dX2_along_67 rfl, jq_getI (M := M_X2_along G) 4 1 71 dX2_along_68 rfl rfl rfl, jq_iloadW5 (M := M_X2_along G) 73 dX2_along_71 rfl, jq_icmp_ne (M := M_X2_along G) 102 76 dX2_along_73 (by decide) rfl, jq_aload1 (M := M_X2_along G) 77 dX2_along_76 rfl, jq_getR (M := M_X2_along G) 5 0 80 dX2_along_77 rfl rfl rfl, jq_iloadW6 (M := M_X2_along G) 82 dX2_along_80 rfl, jq_aald (M := M_X2_along G) 83 dX2_along_82 rfl, jq_virt0 (M := M_X2_along G) I_X4_isOpen 4 dX2_along_83 rfl rfl rfl rfl, jq_if_eq (M := M_X2_along G) 102 89 dX2_along_86 (by decide) rfl, jq_aload0 (M := M_X2_along G) 90 dX2_along_89 rfl, jq_iloadW6 (M := M_X2_along G) 92 dX2_along_90 rfl, jq_aload1 (M := M_X2_along G) 93 dX2_along_92 rfl, jq_iload2 (M := M_X2_along G) 94 dX2_along_93 rfl, jq_iloadW6 (M := M_X2_along G) 96 dX2_along_94 rfl, jq_virt2 (M := M_X2_along G) I_X5_canTake 5 dX2_along_96 rfl rfl rfl rfl, jq_virt2 (M := M_X2_along G) I_X2_meet 2 dX2_along_99 rfl rfl rfl rfl, jq_iinc6 (M := M_X2_along G) 1 105 dX2_along_102 (by decide) rfl, jq_goto (M := M_X2_along G) 43 dX2_along_105 (by decide), jq_iinc5 (M := M_X2_along G) (-1) 111 dX2_along_108 (by decide) rfl, jq_goto (M := M_X2_along G) 26 dX2_along_111 (by decide), jq_ret (M := M_X2_along G) dX2_along_114 rfl, eq_self, jref_10, jref_11, jref_12, jk_v, jk_n, jcat_nil, jcat_i, jcat_r, jcat_l, jcat_d, jc2_i, jc2_r, jc2_n, jc1_i, jc1_r, jrf_some, jwtq_wI, jwtq_wh, jR_wI, jI_wh, jR_wh, List.cons.injEq, Value.int.injEq, Value.ref.injEq, Value.long.injEq, Value.double.injEq, true_and, and_true, and_self, Nat.reduceAdd, Nat.reduceLeDiff, if_true, if_false, ite_true, ite_false, jc1q_i, jc1q_r, jc1q_l, jwtq_wR, jwtq_wY, jI_wI, Nat.reduceEqDiff, and_false, false_and, not_false_eq_true, not_true_eq_false, t0, t1, t2, t3, a1, k1, a2, k2, a3, k3, hn, jwL_2, jwL_wt, o_h, o_r, jwL_1, hL, hc, ji_le, hb, tr i (by omega), hc, hv, hcl, ev2, PX_X4_isOpen, FX_X4_isOpen, Pp_X4_isOpen, Ff_X4_isOpen, jb_0, ho]
          exact ih
      · have hrt : ¬ jrk σ h i = t := by omega
        have ev2 : ¬ σ.1 (h + 4 + i) 1 = nI (9 - t) := by
          rw [ev]
          exact fun z => hr9 ((nI_eq (by omega) (by omega)).mp z)
        rw [jpos_n (o := fun j => (σ.1 (h + 4 + j) 4 = 0 ∨ σ.1 (h + 4 + j) 4 = 1)) (rk := jrk σ h) (fun z => hrt z.1)] at ih
        rw [jq_iloadW6 (M := M_X2_along G) 45 dX2_along_43 rfl]
        simp only [jq_aload0 (M := M_X2_along G) 1 dX2_along_0 rfl, jq_virt0 (M := M_X2_along G) I_X2_forget 2 dX2_along_1 rfl rfl rfl rfl, jq_iload3 (M := M_X2_along G) 5 dX2_along_4 rfl, jq_aload1 (M := M_X2_along G) 6 dX2_along_5 rfl, jq_getR (M := M_X2_along G) 5 2 9 dX2_along_6 rfl rfl rfl, jq_iconst (M := M_X2_along G) 3 10 dX2_along_9 (by decide) rfl, jq_iald (M := M_X2_along G) 11 dX2_along_10 rfl, jq_aload1 (M := M_X2_along G) 12 dX2_along_11 rfl, jq_iload2 (M := M_X2_along G) 13 dX2_along_12 rfl, jq_virt1 (M := M_X2_along G) I_X5_holdsOf 5 dX2_along_13 rfl rfl rfl rfl, jq_isub (M := M_X2_along G) 17 dX2_along_16 rfl, jq_stat2 (M := M_X2_along G) I_J9_min_7cf53 dX2_along_17 rfl (Or.inl rfl) rfl, jq_istoreW4 (M := M_X2_along G) 22 dX2_along_20 rfl, jq_bipush (M := M_X2_along G) 9 24 dX2_along_22 (by decide) rfl, jq_istoreW5 (M := M_X2_along G) 26 dX2_along_24 rfl, jq_if_lt (M := M_X2_along G) 114 31 dX2_along_28 (by decide) rfl, jq_aload0 (M := M_X2_along G) 32 dX2_along_31 rfl, jq_getI (M := M_X2_along G) 2 1 35 dX2_along_32 rfl rfl rfl, jq_iloadW4 (M := M_X2_along G) 37 dX2_along_35 rfl, jq_icmp_ge (M := M_X2_along G) 114 40 dX2_along_37 (by decide) rfl, jq_iconst (M := M_X2_along G) 0 41 dX2_along_40 (by decide) rfl, jq_istoreW6 (M := M_X2_along G) 43 dX2_along_41 rfl, jq_aload1 (M := M_X2_along G) 46 dX2_along_45 rfl, jq_getI (M := M_X2_along G) 5 3 49 dX2_along_46 rfl rfl rfl, jq_icmp_ge (M := M_X2_along G) 108 52 dX2_along_49 (by decide) rfl, jq_aload0 (M := M_X2_along G) 53 dX2_along_52 rfl, jq_getI (M := M_X2_along G) 2 1 56 dX2_along_53 rfl rfl rfl, jq_iloadW4 (M := M_X2_along G) 58 dX2_along_56 rfl, jq_icmp_ge (M := M_X2_along G) 108 61 dX2_along_58 (by decide) rfl, jq_aload1 (M := M_X2_along G) 62 dX2_along_61 rfl, jq_getR (M := M_X2_along G) 5 0 65 dX2_along_62 rfl rfl rfl, jq_iloadW6 (M := M_X2_along G) 67 dX2_along_65 rfl, jq_aald (M := M_X2_along G) 68 dX2_along_67 rfl, jq_getI (M := M_X2_along G) 4 1 71 dX2_along_68 rfl rfl rfl, jq_iloadW5 (M := M_X2_along G) 73 dX2_along_71 rfl, jq_icmp_ne (M := M_X2_along G) 102 76 dX2_along_73 (by decide) rfl, jq_aload1 (M := M_X2_along G) 77 dX2_along_76 rfl, jq_getR (M := M_X2_along G) 5 0 80 dX2_along_77 rfl rfl rfl, jq_iloadW6 (M := M_X2_along G) 82 dX2_along_80 rfl, jq_aald (M := M_X2_along G) 83 dX2_along_82 rfl, jq_virt0 (M := M_X2_along G) I_X4_isOpen 4 dX2_along_83 rfl rfl rfl rfl, jq_if_eq (M := M_X2_along G) 102 89 dX2_along_86 (by decide) rfl, jq_aload0 (M := M_X2_along G) 90 dX2_along_89 rfl, jq_iloadW6 (M := M_X2_along G) 92 dX2_along_90 rfl, jq_aload1 (M := M_X2_along G) 93 dX2_along_92 rfl, jq_iload2 (M := M_X2_along G) 94 dX2_along_93 rfl, jq_iloadW6 (M := M_X2_along G) 96 dX2_along_94 rfl, jq_virt2 (M := M_X2_along G) I_X5_canTake 5 dX2_along_96 rfl rfl rfl rfl, jq_virt2 (M := M_X2_along G) I_X2_meet 2 dX2_along_99 rfl rfl rfl rfl, jq_iinc6 (M := M_X2_along G) 1 105 dX2_along_102 (by decide) rfl, jq_goto (M := M_X2_along G) 43 dX2_along_105 (by decide), jq_iinc5 (M := M_X2_along G) (-1) 111 dX2_along_108 (by decide) rfl, jq_goto (M := M_X2_along G) 26 dX2_along_111 (by decide), jq_ret (M := M_X2_along G) dX2_along_114 rfl, eq_self, jref_10, jref_11, jref_12, jk_v, jk_n, jcat_nil, jcat_i, jcat_r, jcat_l, jcat_d, jc2_i, jc2_r, jc2_n, jc1_i, jc1_r, jrf_some, jwtq_wI, jwtq_wh, jR_wI, jI_wh, jR_wh, List.cons.injEq, Value.int.injEq, Value.ref.injEq, Value.long.injEq, Value.double.injEq, true_and, and_true, and_self, Nat.reduceAdd, Nat.reduceLeDiff, if_true, if_false, ite_true, ite_false, jc1q_i, jc1q_r, jc1q_l, jwtq_wR, jwtq_wY, jI_wI, Nat.reduceEqDiff, and_false, false_and, not_false_eq_true, not_true_eq_false, t0, t1, t2, t3, a1, k1, a2, k2, a3, k3, hn, jwL_2, jwL_wt, o_h, o_r, jwL_1, hL, hc, ji_le, hb, tr i (by omega), hc, hv, hcl, ev2]
        exact ih
    · have e : jLG σ h q M (jpos (fun j => (σ.1 (h + 4 + j) 4 = 0 ∨ σ.1 (h + 4 + j) 4 = 1)) (jrk σ h) (jn σ h) (t + 1) (0)) = jLG σ h q M (jpos (fun j => (σ.1 (h + 4 + j) 4 = 0 ∨ σ.1 (h + 4 + j) 4 = 1)) (jrk σ h) (jn σ h) (t) (i)) := jLG_fr (jpos_mono (by omega)) hb
      rw [e] at hnext
      rw [jq_iloadW6 (M := M_X2_along G) 45 dX2_along_43 rfl]
      simp only [jq_aload0 (M := M_X2_along G) 1 dX2_along_0 rfl, jq_virt0 (M := M_X2_along G) I_X2_forget 2 dX2_along_1 rfl rfl rfl rfl, jq_iload3 (M := M_X2_along G) 5 dX2_along_4 rfl, jq_aload1 (M := M_X2_along G) 6 dX2_along_5 rfl, jq_getR (M := M_X2_along G) 5 2 9 dX2_along_6 rfl rfl rfl, jq_iconst (M := M_X2_along G) 3 10 dX2_along_9 (by decide) rfl, jq_iald (M := M_X2_along G) 11 dX2_along_10 rfl, jq_aload1 (M := M_X2_along G) 12 dX2_along_11 rfl, jq_iload2 (M := M_X2_along G) 13 dX2_along_12 rfl, jq_virt1 (M := M_X2_along G) I_X5_holdsOf 5 dX2_along_13 rfl rfl rfl rfl, jq_isub (M := M_X2_along G) 17 dX2_along_16 rfl, jq_stat2 (M := M_X2_along G) I_J9_min_7cf53 dX2_along_17 rfl (Or.inl rfl) rfl, jq_istoreW4 (M := M_X2_along G) 22 dX2_along_20 rfl, jq_bipush (M := M_X2_along G) 9 24 dX2_along_22 (by decide) rfl, jq_istoreW5 (M := M_X2_along G) 26 dX2_along_24 rfl, jq_if_lt (M := M_X2_along G) 114 31 dX2_along_28 (by decide) rfl, jq_aload0 (M := M_X2_along G) 32 dX2_along_31 rfl, jq_getI (M := M_X2_along G) 2 1 35 dX2_along_32 rfl rfl rfl, jq_iloadW4 (M := M_X2_along G) 37 dX2_along_35 rfl, jq_icmp_ge (M := M_X2_along G) 114 40 dX2_along_37 (by decide) rfl, jq_iconst (M := M_X2_along G) 0 41 dX2_along_40 (by decide) rfl, jq_istoreW6 (M := M_X2_along G) 43 dX2_along_41 rfl, jq_aload1 (M := M_X2_along G) 46 dX2_along_45 rfl, jq_getI (M := M_X2_along G) 5 3 49 dX2_along_46 rfl rfl rfl, jq_icmp_ge (M := M_X2_along G) 108 52 dX2_along_49 (by decide) rfl, jq_aload0 (M := M_X2_along G) 53 dX2_along_52 rfl, jq_getI (M := M_X2_along G) 2 1 56 dX2_along_53 rfl rfl rfl, jq_iloadW4 (M := M_X2_along G) 58 dX2_along_56 rfl, jq_icmp_ge (M := M_X2_along G) 108 61 dX2_along_58 (by decide) rfl, jq_aload1 (M := M_X2_along G) 62 dX2_along_61 rfl, jq_getR (M := M_X2_along G) 5 0 65 dX2_along_62 rfl rfl rfl, jq_iloadW6 (M := M_X2_along G) 67 dX2_along_65 rfl, jq_aald (M := M_X2_along G) 68 dX2_along_67 rfl, jq_getI (M := M_X2_along G) 4 1 71 dX2_along_68 rfl rfl rfl, jq_iloadW5 (M := M_X2_along G) 73 dX2_along_71 rfl, jq_icmp_ne (M := M_X2_along G) 102 76 dX2_along_73 (by decide) rfl, jq_aload1 (M := M_X2_along G) 77 dX2_along_76 rfl, jq_getR (M := M_X2_along G) 5 0 80 dX2_along_77 rfl rfl rfl, jq_iloadW6 (M := M_X2_along G) 82 dX2_along_80 rfl, jq_aald (M := M_X2_along G) 83 dX2_along_82 rfl, jq_virt0 (M := M_X2_along G) I_X4_isOpen 4 dX2_along_83 rfl rfl rfl rfl, jq_if_eq (M := M_X2_along G) 102 89 dX2_along_86 (by decide) rfl, jq_aload0 (M := M_X2_along G) 90 dX2_along_89 rfl, jq_iloadW6 (M := M_X2_along G) 92 dX2_along_90 rfl, jq_aload1 (M := M_X2_along G) 93 dX2_along_92 rfl, jq_iload2 (M := M_X2_along G) 94 dX2_along_93 rfl, jq_iloadW6 (M := M_X2_along G) 96 dX2_along_94 rfl, jq_virt2 (M := M_X2_along G) I_X5_canTake 5 dX2_along_96 rfl rfl rfl rfl, jq_virt2 (M := M_X2_along G) I_X2_meet 2 dX2_along_99 rfl rfl rfl rfl, jq_iinc6 (M := M_X2_along G) 1 105 dX2_along_102 (by decide) rfl, jq_goto (M := M_X2_along G) 43 dX2_along_105 (by decide), jq_iinc5 (M := M_X2_along G) (-1) 111 dX2_along_108 (by decide) rfl, jq_goto (M := M_X2_along G) 26 dX2_along_111 (by decide), jq_ret (M := M_X2_along G) dX2_along_114 rfl, eq_self, jref_10, jref_11, jref_12, jk_v, jk_n, jcat_nil, jcat_i, jcat_r, jcat_l, jcat_d, jc2_i, jc2_r, jc2_n, jc1_i, jc1_r, jrf_some, jwtq_wI, jwtq_wh, jR_wI, jI_wh, jR_wh, List.cons.injEq, Value.int.injEq, Value.ref.injEq, Value.long.injEq, Value.double.injEq, true_and, and_true, and_self, Nat.reduceAdd, Nat.reduceLeDiff, if_true, if_false, ite_true, ite_false, jc1q_i, jc1q_r, jc1q_l, jwtq_wR, jwtq_wY, jI_wI, Nat.reduceEqDiff, and_false, false_and, not_false_eq_true, not_true_eq_false, t0, t1, t2, t3, a1, k1, a2, k2, a3, k3, hn, jwL_2, jwL_wt, o_h, o_r, jwL_1, hL, hc, ji_le, hb]
      exact hnext _
theorem bd_X2_along (G : jgG) : ∀ (As : List Value) (σ : jgS) (r : jgR), S_X2_along G As σ r → jhs σ ≤ jhs r.2 ∧ jsl σ ≤ jsl r.2 ∧ (jent As).length ≤ I_X2_along.2.2.2.2.1 ∧ Jr G (M_X2_along G) 0 (jentry As I_X2_along.2.2.2.2.1) [] σ (fun r' => r' = r) := by
  rintro As σ r ⟨⟨L, h, r, m, rfl, hp⟩, rfl⟩
  rw [FX_X2_along]
  refine ⟨(by first | exact Nat.le_refl _ | (show _ ≤ _; simp only [F_X2_along, Ff_X2_along]; (repeat' split) <;> first | exact Nat.le_refl _ | exact Nat.le_succ _ | exact Nat.le_add_right _ _)), (by first | exact Nat.le_refl _ | (show _ ≤ _; simp only [F_X2_along, Ff_X2_along]; (repeat' split) <;> first | exact Nat.le_refl _ | exact Nat.le_succ _ | exact Nat.le_add_right _ _)), by simp [jent, Value.category, I_X2_along], ?_⟩
  show Jr G (M_X2_along G) 0 [some (.ref L), some (.ref h), some (.int r), some (.int m), none, none, none] [] σ (fun r' => r' = Ff_X2_along G L h r m σ)
  have hp0 := hp
  obtain ⟨hp, hL, hL32, hr, hu⟩ := hp
  have hT : jT G σ h := hp
  obtain ⟨⟨t0, ⟨t1, t2, t3⟩, ⟨⟨a1, k1⟩, ⟨a2, k2⟩, ⟨a3, k3⟩⟩, tr, td⟩, hn, hn24⟩ := hp
  obtain ⟨q, hq, rfl⟩ := vp_in_of hr (by decide)
  have hqc : (nI q).toNatClampNeg = q := nI_clamp (by omega)
  have o_h : ∀ s k, (jwL σ L s).1 h k = σ.1 h k := fun s k => jwL_out (by omega)
  have o_3 : ∀ s k, (jwL σ L s).1 (h + 3) k = σ.1 (h + 3) k := fun s k => jwL_out (by omega)
  have hs3 : vp_in 3 4 := vp_in_nI (n := 3) (by decide) (by decide)
  have hs3c : (3 : Int32).toNatClampNeg = 3 := by decide
  have hrk : ∀ j, j < jn σ h → jrk σ h j < 10 := fun j hj => by unfold jrk; omega
  simp only [jq_aload0 (M := M_X2_along G) 1 dX2_along_0 rfl, jq_virt0 (M := M_X2_along G) I_X2_forget 2 dX2_along_1 rfl rfl rfl rfl, jq_iload3 (M := M_X2_along G) 5 dX2_along_4 rfl, jq_aload1 (M := M_X2_along G) 6 dX2_along_5 rfl, jq_getR (M := M_X2_along G) 5 2 9 dX2_along_6 rfl rfl rfl, jq_iconst (M := M_X2_along G) 3 10 dX2_along_9 (by decide) rfl, jq_iald (M := M_X2_along G) 11 dX2_along_10 rfl, jq_aload1 (M := M_X2_along G) 12 dX2_along_11 rfl, jq_iload2 (M := M_X2_along G) 13 dX2_along_12 rfl, jq_virt1 (M := M_X2_along G) I_X5_holdsOf 5 dX2_along_13 rfl rfl rfl rfl, jq_isub (M := M_X2_along G) 17 dX2_along_16 rfl, jq_stat2 (M := M_X2_along G) I_J9_min_7cf53 dX2_along_17 rfl (Or.inl rfl) rfl, jq_istoreW4 (M := M_X2_along G) 22 dX2_along_20 rfl, jq_bipush (M := M_X2_along G) 9 24 dX2_along_22 (by decide) rfl, jq_istoreW5 (M := M_X2_along G) 26 dX2_along_24 rfl, jq_if_lt (M := M_X2_along G) 114 31 dX2_along_28 (by decide) rfl, jq_aload0 (M := M_X2_along G) 32 dX2_along_31 rfl, jq_getI (M := M_X2_along G) 2 1 35 dX2_along_32 rfl rfl rfl, jq_iloadW4 (M := M_X2_along G) 37 dX2_along_35 rfl, jq_icmp_ge (M := M_X2_along G) 114 40 dX2_along_37 (by decide) rfl, jq_iconst (M := M_X2_along G) 0 41 dX2_along_40 (by decide) rfl, jq_istoreW6 (M := M_X2_along G) 43 dX2_along_41 rfl, jq_aload1 (M := M_X2_along G) 46 dX2_along_45 rfl, jq_getI (M := M_X2_along G) 5 3 49 dX2_along_46 rfl rfl rfl, jq_icmp_ge (M := M_X2_along G) 108 52 dX2_along_49 (by decide) rfl, jq_aload0 (M := M_X2_along G) 53 dX2_along_52 rfl, jq_getI (M := M_X2_along G) 2 1 56 dX2_along_53 rfl rfl rfl, jq_iloadW4 (M := M_X2_along G) 58 dX2_along_56 rfl, jq_icmp_ge (M := M_X2_along G) 108 61 dX2_along_58 (by decide) rfl, jq_aload1 (M := M_X2_along G) 62 dX2_along_61 rfl, jq_getR (M := M_X2_along G) 5 0 65 dX2_along_62 rfl rfl rfl, jq_iloadW6 (M := M_X2_along G) 67 dX2_along_65 rfl, jq_aald (M := M_X2_along G) 68 dX2_along_67 rfl, jq_getI (M := M_X2_along G) 4 1 71 dX2_along_68 rfl rfl rfl, jq_iloadW5 (M := M_X2_along G) 73 dX2_along_71 rfl, jq_icmp_ne (M := M_X2_along G) 102 76 dX2_along_73 (by decide) rfl, jq_aload1 (M := M_X2_along G) 77 dX2_along_76 rfl, jq_getR (M := M_X2_along G) 5 0 80 dX2_along_77 rfl rfl rfl, jq_iloadW6 (M := M_X2_along G) 82 dX2_along_80 rfl, jq_aald (M := M_X2_along G) 83 dX2_along_82 rfl, jq_virt0 (M := M_X2_along G) I_X4_isOpen 4 dX2_along_83 rfl rfl rfl rfl, jq_if_eq (M := M_X2_along G) 102 89 dX2_along_86 (by decide) rfl, jq_aload0 (M := M_X2_along G) 90 dX2_along_89 rfl, jq_iloadW6 (M := M_X2_along G) 92 dX2_along_90 rfl, jq_aload1 (M := M_X2_along G) 93 dX2_along_92 rfl, jq_iload2 (M := M_X2_along G) 94 dX2_along_93 rfl, jq_iloadW6 (M := M_X2_along G) 96 dX2_along_94 rfl, jq_virt2 (M := M_X2_along G) I_X5_canTake 5 dX2_along_96 rfl rfl rfl rfl, jq_virt2 (M := M_X2_along G) I_X2_meet 2 dX2_along_99 rfl rfl rfl rfl, jq_iinc6 (M := M_X2_along G) 1 105 dX2_along_102 (by decide) rfl, jq_goto (M := M_X2_along G) 43 dX2_along_105 (by decide), jq_iinc5 (M := M_X2_along G) (-1) 111 dX2_along_108 (by decide) rfl, jq_goto (M := M_X2_along G) 26 dX2_along_111 (by decide), jq_ret (M := M_X2_along G) dX2_along_114 rfl, eq_self, jref_10, jref_11, jref_12, jk_v, jk_n, jcat_nil, jcat_i, jcat_r, jcat_l, jcat_d, jc2_i, jc2_r, jc2_n, jc1_i, jc1_r, jrf_some, jwtq_wI, jwtq_wh, jR_wI, jI_wh, jR_wh, List.cons.injEq, Value.int.injEq, Value.ref.injEq, Value.long.injEq, Value.double.injEq, true_and, and_true, and_self, Nat.reduceAdd, Nat.reduceLeDiff, if_true, if_false, ite_true, ite_false, jc1q_i, jc1q_r, jc1q_l, jwtq_wR, jwtq_wY, jI_wI, Nat.reduceEqDiff, and_false, false_and, not_false_eq_true, not_true_eq_false, t0, t1, t2, t3, a1, k1, a2, k2, a3, k3, hn, jwL_2, jwL_wt, jwL_f, o_h, o_3, hL, hs3, hs3c, PX_X2_forget, FX_X2_forget, Pp_X2_forget, PX_X5_holdsOf, FX_X5_holdsOf, Pp_X5_holdsOf, jwL_T hL32 hT, jwL_hold G (nI q) hL32 hn24, PX_J9_min_7cf53, FX_J9_min_7cf53, Pp_J9_min_7cf53, Ff_J9_min_7cf53]
  rw [show (if σ.1 (h + 3) 3 - nI (jct (fun i => (σ.1 (h + 4 + i) 4 = 1 ∧ σ.1 (h + 4 + i) 5 = nI q)) (jn σ h)) < m then σ.1 (h + 3) 3 - nI (jct (fun i => (σ.1 (h + 4 + i) 4 = 1 ∧ σ.1 (h + 4 + i) 5 = nI q)) (jn σ h)) else m) = jroom σ h (nI q) m from rfl]
  have hfin : Ff_X2_along G L h (nI q) m σ = (.inl none, jwL σ L (jLG σ h q (jroom σ h (nI q) m) (jpos (fun j => (σ.1 (h + 4 + j) 4 = 0 ∨ σ.1 (h + 4 + j) 4 = 1)) (jrk σ h) (jn σ h) (10) (0)))) := by
    unfold Ff_X2_along
    rw [hqc, jpos_all hrk]
  generalize jroom σ h (nI q) m = M at *
  have key : ∀ o, Jr G (M_X2_along G) 26 [some (.ref L), some (.ref h), some (.int (nI q)), some (.int m), some (.int M), some (.int 9), o] [] (jwL σ L (jLG σ h q M (jpos (fun j => (σ.1 (h + 4 + j) 4 = 0 ∨ σ.1 (h + 4 + j) 4 = 1)) (jrk σ h) (jn σ h) (0) (0)))) (fun r' => r' = Ff_X2_along G L h (nI q) m σ) := by
    refine jloop (P := fun t => ∀ o, Jr G (M_X2_along G) 26 [some (.ref L), some (.ref h), some (.int (nI q)), some (.int m), some (.int M), some (.int (nI (10 - t) + (-1))), o] [] (jwL σ L (jLG σ h q M (jpos (fun j => (σ.1 (h + 4 + j) 4 = 0 ∨ σ.1 (h + 4 + j) 4 = 1)) (jrk σ h) (jn σ h) (t) (0)))) (fun r' => r' = Ff_X2_along G L h (nI q) m σ)) (n := 10) (fun o => ?_) (fun t hlt ih o => ?_)
    · have e0 : (nI (10 - 10) + (-1) : Int32) < 0 := by decide
      rw [jq_iloadW5 (M := M_X2_along G) 28 dX2_along_26 rfl]
      simp only [jq_aload0 (M := M_X2_along G) 1 dX2_along_0 rfl, jq_virt0 (M := M_X2_along G) I_X2_forget 2 dX2_along_1 rfl rfl rfl rfl, jq_iload3 (M := M_X2_along G) 5 dX2_along_4 rfl, jq_aload1 (M := M_X2_along G) 6 dX2_along_5 rfl, jq_getR (M := M_X2_along G) 5 2 9 dX2_along_6 rfl rfl rfl, jq_iconst (M := M_X2_along G) 3 10 dX2_along_9 (by decide) rfl, jq_iald (M := M_X2_along G) 11 dX2_along_10 rfl, jq_aload1 (M := M_X2_along G) 12 dX2_along_11 rfl, jq_iload2 (M := M_X2_along G) 13 dX2_along_12 rfl, jq_virt1 (M := M_X2_along G) I_X5_holdsOf 5 dX2_along_13 rfl rfl rfl rfl, jq_isub (M := M_X2_along G) 17 dX2_along_16 rfl, jq_stat2 (M := M_X2_along G) I_J9_min_7cf53 dX2_along_17 rfl (Or.inl rfl) rfl, jq_istoreW4 (M := M_X2_along G) 22 dX2_along_20 rfl, jq_bipush (M := M_X2_along G) 9 24 dX2_along_22 (by decide) rfl, jq_istoreW5 (M := M_X2_along G) 26 dX2_along_24 rfl, jq_if_lt (M := M_X2_along G) 114 31 dX2_along_28 (by decide) rfl, jq_aload0 (M := M_X2_along G) 32 dX2_along_31 rfl, jq_getI (M := M_X2_along G) 2 1 35 dX2_along_32 rfl rfl rfl, jq_iloadW4 (M := M_X2_along G) 37 dX2_along_35 rfl, jq_icmp_ge (M := M_X2_along G) 114 40 dX2_along_37 (by decide) rfl, jq_iconst (M := M_X2_along G) 0 41 dX2_along_40 (by decide) rfl, jq_istoreW6 (M := M_X2_along G) 43 dX2_along_41 rfl, jq_aload1 (M := M_X2_along G) 46 dX2_along_45 rfl, jq_getI (M := M_X2_along G) 5 3 49 dX2_along_46 rfl rfl rfl, jq_icmp_ge (M := M_X2_along G) 108 52 dX2_along_49 (by decide) rfl, jq_aload0 (M := M_X2_along G) 53 dX2_along_52 rfl, jq_getI (M := M_X2_along G) 2 1 56 dX2_along_53 rfl rfl rfl, jq_iloadW4 (M := M_X2_along G) 58 dX2_along_56 rfl, jq_icmp_ge (M := M_X2_along G) 108 61 dX2_along_58 (by decide) rfl, jq_aload1 (M := M_X2_along G) 62 dX2_along_61 rfl, jq_getR (M := M_X2_along G) 5 0 65 dX2_along_62 rfl rfl rfl, jq_iloadW6 (M := M_X2_along G) 67 dX2_along_65 rfl, jq_aald (M := M_X2_along G) 68 dX2_along_67 rfl, jq_getI (M := M_X2_along G) 4 1 71 dX2_along_68 rfl rfl rfl, jq_iloadW5 (M := M_X2_along G) 73 dX2_along_71 rfl, jq_icmp_ne (M := M_X2_along G) 102 76 dX2_along_73 (by decide) rfl, jq_aload1 (M := M_X2_along G) 77 dX2_along_76 rfl, jq_getR (M := M_X2_along G) 5 0 80 dX2_along_77 rfl rfl rfl, jq_iloadW6 (M := M_X2_along G) 82 dX2_along_80 rfl, jq_aald (M := M_X2_along G) 83 dX2_along_82 rfl, jq_virt0 (M := M_X2_along G) I_X4_isOpen 4 dX2_along_83 rfl rfl rfl rfl, jq_if_eq (M := M_X2_along G) 102 89 dX2_along_86 (by decide) rfl, jq_aload0 (M := M_X2_along G) 90 dX2_along_89 rfl, jq_iloadW6 (M := M_X2_along G) 92 dX2_along_90 rfl, jq_aload1 (M := M_X2_along G) 93 dX2_along_92 rfl, jq_iload2 (M := M_X2_along G) 94 dX2_along_93 rfl, jq_iloadW6 (M := M_X2_along G) 96 dX2_along_94 rfl, jq_virt2 (M := M_X2_along G) I_X5_canTake 5 dX2_along_96 rfl rfl rfl rfl, jq_virt2 (M := M_X2_along G) I_X2_meet 2 dX2_along_99 rfl rfl rfl rfl, jq_iinc6 (M := M_X2_along G) 1 105 dX2_along_102 (by decide) rfl, jq_goto (M := M_X2_along G) 43 dX2_along_105 (by decide), jq_iinc5 (M := M_X2_along G) (-1) 111 dX2_along_108 (by decide) rfl, jq_goto (M := M_X2_along G) 26 dX2_along_111 (by decide), jq_ret (M := M_X2_along G) dX2_along_114 rfl, eq_self, jref_10, jref_11, jref_12, jk_v, jk_n, jcat_nil, jcat_i, jcat_r, jcat_l, jcat_d, jc2_i, jc2_r, jc2_n, jc1_i, jc1_r, jrf_some, jwtq_wI, jwtq_wh, jR_wI, jI_wh, jR_wh, List.cons.injEq, Value.int.injEq, Value.ref.injEq, Value.long.injEq, Value.double.injEq, true_and, and_true, and_self, Nat.reduceAdd, Nat.reduceLeDiff, if_true, if_false, ite_true, ite_false, jc1q_i, jc1q_r, jc1q_l, jwtq_wR, jwtq_wY, jI_wI, Nat.reduceEqDiff, and_false, false_and, not_false_eq_true, not_true_eq_false, e0, hfin]
    · have e9 : nI (10 - t) + (-1) = nI (9 - t) := by rw [show 10 - t = (9 - t) + 1 by omega]; exact pk_m1 _
      have e0 : ¬ nI (9 - t) < 0 := nI_pos (by omega)
      rw [show 10 - (t + 1) = 9 - t by omega] at ih
      rw [e9, jq_iloadW5 (M := M_X2_along G) 28 dX2_along_26 rfl]
      by_cases hb : (jLG σ h q M (jpos (fun j => (σ.1 (h + 4 + j) 4 = 0 ∨ σ.1 (h + 4 + j) 4 = 1)) (jrk σ h) (jn σ h) (t) (0))).2.1 < M
      · simp only [jq_aload0 (M := M_X2_along G) 1 dX2_along_0 rfl, jq_virt0 (M := M_X2_along G) I_X2_forget 2 dX2_along_1 rfl rfl rfl rfl, jq_iload3 (M := M_X2_along G) 5 dX2_along_4 rfl, jq_aload1 (M := M_X2_along G) 6 dX2_along_5 rfl, jq_getR (M := M_X2_along G) 5 2 9 dX2_along_6 rfl rfl rfl, jq_iconst (M := M_X2_along G) 3 10 dX2_along_9 (by decide) rfl, jq_iald (M := M_X2_along G) 11 dX2_along_10 rfl, jq_aload1 (M := M_X2_along G) 12 dX2_along_11 rfl, jq_iload2 (M := M_X2_along G) 13 dX2_along_12 rfl, jq_virt1 (M := M_X2_along G) I_X5_holdsOf 5 dX2_along_13 rfl rfl rfl rfl, jq_isub (M := M_X2_along G) 17 dX2_along_16 rfl, jq_stat2 (M := M_X2_along G) I_J9_min_7cf53 dX2_along_17 rfl (Or.inl rfl) rfl, jq_istoreW4 (M := M_X2_along G) 22 dX2_along_20 rfl, jq_bipush (M := M_X2_along G) 9 24 dX2_along_22 (by decide) rfl, jq_istoreW5 (M := M_X2_along G) 26 dX2_along_24 rfl, jq_if_lt (M := M_X2_along G) 114 31 dX2_along_28 (by decide) rfl, jq_aload0 (M := M_X2_along G) 32 dX2_along_31 rfl, jq_getI (M := M_X2_along G) 2 1 35 dX2_along_32 rfl rfl rfl, jq_iloadW4 (M := M_X2_along G) 37 dX2_along_35 rfl, jq_icmp_ge (M := M_X2_along G) 114 40 dX2_along_37 (by decide) rfl, jq_iconst (M := M_X2_along G) 0 41 dX2_along_40 (by decide) rfl, jq_istoreW6 (M := M_X2_along G) 43 dX2_along_41 rfl, jq_aload1 (M := M_X2_along G) 46 dX2_along_45 rfl, jq_getI (M := M_X2_along G) 5 3 49 dX2_along_46 rfl rfl rfl, jq_icmp_ge (M := M_X2_along G) 108 52 dX2_along_49 (by decide) rfl, jq_aload0 (M := M_X2_along G) 53 dX2_along_52 rfl, jq_getI (M := M_X2_along G) 2 1 56 dX2_along_53 rfl rfl rfl, jq_iloadW4 (M := M_X2_along G) 58 dX2_along_56 rfl, jq_icmp_ge (M := M_X2_along G) 108 61 dX2_along_58 (by decide) rfl, jq_aload1 (M := M_X2_along G) 62 dX2_along_61 rfl, jq_getR (M := M_X2_along G) 5 0 65 dX2_along_62 rfl rfl rfl, jq_iloadW6 (M := M_X2_along G) 67 dX2_along_65 rfl, jq_aald (M := M_X2_along G) 68 dX2_along_67 rfl, jq_getI (M := M_X2_along G) 4 1 71 dX2_along_68 rfl rfl rfl, jq_iloadW5 (M := M_X2_along G) 73 dX2_along_71 rfl, jq_icmp_ne (M := M_X2_along G) 102 76 dX2_along_73 (by decide) rfl, jq_aload1 (M := M_X2_along G) 77 dX2_along_76 rfl, jq_getR (M := M_X2_along G) 5 0 80 dX2_along_77 rfl rfl rfl, jq_iloadW6 (M := M_X2_along G) 82 dX2_along_80 rfl, jq_aald (M := M_X2_along G) 83 dX2_along_82 rfl, jq_virt0 (M := M_X2_along G) I_X4_isOpen 4 dX2_along_83 rfl rfl rfl rfl, jq_if_eq (M := M_X2_along G) 102 89 dX2_along_86 (by decide) rfl, jq_aload0 (M := M_X2_along G) 90 dX2_along_89 rfl, jq_iloadW6 (M := M_X2_along G) 92 dX2_along_90 rfl, jq_aload1 (M := M_X2_along G) 93 dX2_along_92 rfl, jq_iload2 (M := M_X2_along G) 94 dX2_along_93 rfl, jq_iloadW6 (M := M_X2_along G) 96 dX2_along_94 rfl, jq_virt2 (M := M_X2_along G) I_X5_canTake 5 dX2_along_96 rfl rfl rfl rfl, jq_virt2 (M := M_X2_along G) I_X2_meet 2 dX2_along_99 rfl rfl rfl rfl, jq_iinc6 (M := M_X2_along G) 1 105 dX2_along_102 (by decide) rfl, jq_goto (M := M_X2_along G) 43 dX2_along_105 (by decide), jq_iinc5 (M := M_X2_along G) (-1) 111 dX2_along_108 (by decide) rfl, jq_goto (M := M_X2_along G) 26 dX2_along_111 (by decide), jq_ret (M := M_X2_along G) dX2_along_114 rfl, eq_self, jref_10, jref_11, jref_12, jk_v, jk_n, jcat_nil, jcat_i, jcat_r, jcat_l, jcat_d, jc2_i, jc2_r, jc2_n, jc1_i, jc1_r, jrf_some, jwtq_wI, jwtq_wh, jR_wI, jI_wh, jR_wh, List.cons.injEq, Value.int.injEq, Value.ref.injEq, Value.long.injEq, Value.double.injEq, true_and, and_true, and_self, Nat.reduceAdd, Nat.reduceLeDiff, if_true, if_false, ite_true, ite_false, jc1q_i, jc1q_r, jc1q_l, jwtq_wR, jwtq_wY, jI_wI, Nat.reduceEqDiff, and_false, false_and, not_false_eq_true, not_true_eq_false, e0, ji_le, hb, t0, t1, t2, t3, a1, k1, a2, k2, a3, k3, hn, jwL_2, jwL_wt, jwL_1, hL]
        exact lp2_X2_along hp0 hq hlt ih
      · have e : jLG σ h q M (jpos (fun j => (σ.1 (h + 4 + j) 4 = 0 ∨ σ.1 (h + 4 + j) 4 = 1)) (jrk σ h) (jn σ h) (10) (0)) = jLG σ h q M (jpos (fun j => (σ.1 (h + 4 + j) 4 = 0 ∨ σ.1 (h + 4 + j) 4 = 1)) (jrk σ h) (jn σ h) (t) (0)) := jLG_fr (jpos_mono (by omega)) hb
        rw [e] at hfin
        simp only [jq_aload0 (M := M_X2_along G) 1 dX2_along_0 rfl, jq_virt0 (M := M_X2_along G) I_X2_forget 2 dX2_along_1 rfl rfl rfl rfl, jq_iload3 (M := M_X2_along G) 5 dX2_along_4 rfl, jq_aload1 (M := M_X2_along G) 6 dX2_along_5 rfl, jq_getR (M := M_X2_along G) 5 2 9 dX2_along_6 rfl rfl rfl, jq_iconst (M := M_X2_along G) 3 10 dX2_along_9 (by decide) rfl, jq_iald (M := M_X2_along G) 11 dX2_along_10 rfl, jq_aload1 (M := M_X2_along G) 12 dX2_along_11 rfl, jq_iload2 (M := M_X2_along G) 13 dX2_along_12 rfl, jq_virt1 (M := M_X2_along G) I_X5_holdsOf 5 dX2_along_13 rfl rfl rfl rfl, jq_isub (M := M_X2_along G) 17 dX2_along_16 rfl, jq_stat2 (M := M_X2_along G) I_J9_min_7cf53 dX2_along_17 rfl (Or.inl rfl) rfl, jq_istoreW4 (M := M_X2_along G) 22 dX2_along_20 rfl, jq_bipush (M := M_X2_along G) 9 24 dX2_along_22 (by decide) rfl, jq_istoreW5 (M := M_X2_along G) 26 dX2_along_24 rfl, jq_if_lt (M := M_X2_along G) 114 31 dX2_along_28 (by decide) rfl, jq_aload0 (M := M_X2_along G) 32 dX2_along_31 rfl, jq_getI (M := M_X2_along G) 2 1 35 dX2_along_32 rfl rfl rfl, jq_iloadW4 (M := M_X2_along G) 37 dX2_along_35 rfl, jq_icmp_ge (M := M_X2_along G) 114 40 dX2_along_37 (by decide) rfl, jq_iconst (M := M_X2_along G) 0 41 dX2_along_40 (by decide) rfl, jq_istoreW6 (M := M_X2_along G) 43 dX2_along_41 rfl, jq_aload1 (M := M_X2_along G) 46 dX2_along_45 rfl, jq_getI (M := M_X2_along G) 5 3 49 dX2_along_46 rfl rfl rfl, jq_icmp_ge (M := M_X2_along G) 108 52 dX2_along_49 (by decide) rfl, jq_aload0 (M := M_X2_along G) 53 dX2_along_52 rfl, jq_getI (M := M_X2_along G) 2 1 56 dX2_along_53 rfl rfl rfl, jq_iloadW4 (M := M_X2_along G) 58 dX2_along_56 rfl, jq_icmp_ge (M := M_X2_along G) 108 61 dX2_along_58 (by decide) rfl, jq_aload1 (M := M_X2_along G) 62 dX2_along_61 rfl, jq_getR (M := M_X2_along G) 5 0 65 dX2_along_62 rfl rfl rfl, jq_iloadW6 (M := M_X2_along G) 67 dX2_along_65 rfl, jq_aald (M := M_X2_along G) 68 dX2_along_67 rfl, jq_getI (M := M_X2_along G) 4 1 71 dX2_along_68 rfl rfl rfl, jq_iloadW5 (M := M_X2_along G) 73 dX2_along_71 rfl, jq_icmp_ne (M := M_X2_along G) 102 76 dX2_along_73 (by decide) rfl, jq_aload1 (M := M_X2_along G) 77 dX2_along_76 rfl, jq_getR (M := M_X2_along G) 5 0 80 dX2_along_77 rfl rfl rfl, jq_iloadW6 (M := M_X2_along G) 82 dX2_along_80 rfl, jq_aald (M := M_X2_along G) 83 dX2_along_82 rfl, jq_virt0 (M := M_X2_along G) I_X4_isOpen 4 dX2_along_83 rfl rfl rfl rfl, jq_if_eq (M := M_X2_along G) 102 89 dX2_along_86 (by decide) rfl, jq_aload0 (M := M_X2_along G) 90 dX2_along_89 rfl, jq_iloadW6 (M := M_X2_along G) 92 dX2_along_90 rfl, jq_aload1 (M := M_X2_along G) 93 dX2_along_92 rfl, jq_iload2 (M := M_X2_along G) 94 dX2_along_93 rfl, jq_iloadW6 (M := M_X2_along G) 96 dX2_along_94 rfl, jq_virt2 (M := M_X2_along G) I_X5_canTake 5 dX2_along_96 rfl rfl rfl rfl, jq_virt2 (M := M_X2_along G) I_X2_meet 2 dX2_along_99 rfl rfl rfl rfl, jq_iinc6 (M := M_X2_along G) 1 105 dX2_along_102 (by decide) rfl, jq_goto (M := M_X2_along G) 43 dX2_along_105 (by decide), jq_iinc5 (M := M_X2_along G) (-1) 111 dX2_along_108 (by decide) rfl, jq_goto (M := M_X2_along G) 26 dX2_along_111 (by decide), jq_ret (M := M_X2_along G) dX2_along_114 rfl, eq_self, jref_10, jref_11, jref_12, jk_v, jk_n, jcat_nil, jcat_i, jcat_r, jcat_l, jcat_d, jc2_i, jc2_r, jc2_n, jc1_i, jc1_r, jrf_some, jwtq_wI, jwtq_wh, jR_wI, jI_wh, jR_wh, List.cons.injEq, Value.int.injEq, Value.ref.injEq, Value.long.injEq, Value.double.injEq, true_and, and_true, and_self, Nat.reduceAdd, Nat.reduceLeDiff, if_true, if_false, ite_true, ite_false, jc1q_i, jc1q_r, jc1q_l, jwtq_wR, jwtq_wY, jI_wI, Nat.reduceEqDiff, and_false, false_and, not_false_eq_true, not_true_eq_false, e0, ji_le, hb, t0, t1, t2, t3, a1, k1, a2, k2, a3, k3, hn, jwL_2, jwL_wt, jwL_1, hL, hfin]
  rw [jpos_0] at key
  exact key none
theorem met_X2_along {l : Launch} (hl : l.stackTraces = false) (D : va_G) (cy : Nat → ClassId) (G : jgG) : jMet l D cy G I_X2_along (S_X2_along G) :=
  jr_met hl (M_X2_along G) I_X2_along (S_X2_along G) RX2 rfl (by decide) rfl rfl rfl rfl (fun h => (by cases h)) jmAI (fun R h1 h2 => List.forall_mem_cons.mpr ⟨⟨⟨jm_378, jm_16, jd_X2_forget, ⟨by rw [h1]; exact Nat.le_of_ble_eq_true rfl, by rw [h2]; exact Nat.le_of_ble_eq_true rfl⟩, Or.inl ⟨rfl, jm_375, jm_377, jm_1, rfl, Nat.le_of_ble_eq_true rfl, _, rfl, rfl⟩⟩, met_X2_forget hl D cy G⟩, List.forall_mem_cons.mpr ⟨jpokF (r := (RX5, TX5, 8)) rfl jcls5 (by decide) (by decide) jm_123 (fun h => (by cases h)), List.forall_mem_cons.mpr ⟨⟨⟨jm_382, jm_11, jd_X5_holdsOf, ⟨by rw [h1]; exact Nat.le_of_ble_eq_true rfl, by rw [h2]; exact Nat.le_of_ble_eq_true rfl⟩, Or.inl ⟨rfl, jm_379, jm_380, jm_381, rfl, Nat.le_of_ble_eq_true rfl, _, rfl, rfl⟩⟩, met_X5_holdsOf hl D cy G⟩, List.forall_mem_cons.mpr ⟨⟨⟨jm_389, jm_23, jd_J9_min_7cf53, ⟨by rw [h1]; exact Nat.le_of_ble_eq_true rfl, by rw [h2]; exact Nat.le_of_ble_eq_true rfl⟩, Or.inr (Or.inl ⟨rfl, jm_387, jm_388, rfl⟩)⟩, met_J9_min_7cf53 hl D cy G⟩, List.forall_mem_cons.mpr ⟨jpokF (r := (RX2, TX2, 5)) rfl jcls2 (by decide) (by decide) jm_206 (fun h => (by cases h)), List.forall_mem_cons.mpr ⟨jpokF (r := (RX5, TX5, 8)) rfl jcls5 (by decide) (by decide) jm_127 (fun h => (by cases h)), List.forall_mem_cons.mpr ⟨jpokF (r := (RX5, TX5, 8)) rfl jcls5 (by decide) (by decide) jm_118 (fun h => (by cases h)), List.forall_mem_cons.mpr ⟨jpokF (r := (RX4, TX4, 9)) rfl jcls4 (by decide) (by decide) jm_51 (fun h => (by cases h)), List.forall_mem_cons.mpr ⟨⟨⟨jm_393, jm_12, jd_X4_isOpen, ⟨by rw [h1]; exact Nat.le_of_ble_eq_true rfl, by rw [h2]; exact Nat.le_of_ble_eq_true rfl⟩, Or.inl ⟨rfl, jm_390, jm_391, jm_392, rfl, Nat.le_of_ble_eq_true rfl, _, rfl, rfl⟩⟩, met_X4_isOpen hl D cy G⟩, List.forall_mem_cons.mpr ⟨⟨⟨jm_397, jm_11, jd_X5_canTake, ⟨by rw [h1]; exact Nat.le_of_ble_eq_true rfl, by rw [h2]; exact Nat.le_of_ble_eq_true rfl⟩, Or.inl ⟨rfl, jm_394, jm_395, jm_396, rfl, Nat.le_of_ble_eq_true rfl, _, rfl, rfl⟩⟩, met_X5_canTake hl D cy G⟩, List.forall_mem_cons.mpr ⟨⟨⟨jm_410, jm_16, jd_X2_meet, ⟨by rw [h1]; exact Nat.le_of_ble_eq_true rfl, by rw [h2]; exact Nat.le_of_ble_eq_true rfl⟩, Or.inl ⟨rfl, jm_407, jm_409, jm_2, rfl, Nat.le_of_ble_eq_true rfl, _, rfl, rfl⟩⟩, met_X2_meet hl D cy G⟩, fun _ h => nomatch h⟩⟩⟩⟩⟩⟩⟩⟩⟩⟩⟩) (fun h => absurd rfl h) (fun _ h => nomatch h) (bd_X2_along G)
