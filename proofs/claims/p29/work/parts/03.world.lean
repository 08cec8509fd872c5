/-! The world of a state in the machine's heap, and what the frame of a method knows of it. -/
def jF (cy : Nat → ClassId) (G : jgG) (σ : jgS) (a : Nat) : va_E :=
  if (G.2.2.2.1 a).1 < 8 then .inr ((G.2.2.2.1 a).1, (List.range (jN (G.2.2.2.1 a).1)).map (jfv (G.2.2.2.1 a).1 σ a))
  else if (G.2.2.2.1 a).1 = 8 then .inl (cy 0, (G.2.2.2.1 a).2, .inl (σ.1 a))
  else .inl (cy ((G.2.2.2.1 a).1 - 9), (G.2.2.2.1 a).2, .inr (.inr (.inr (.inr (σ.2.1 a)))))
/-- the addresses of the world: those of kind 13 and above are nobody's -/
def jad (G : jgG) (w : Nat) : List Nat := (List.range' G.1 (w - G.1)).filter (fun a => decide ((G.2.2.2.1 a).1 < 13))
def jW (cy : Nat → ClassId) (G : jgG) (σ : jgS) : va_W := va_pl (jad G (jwt σ)) (jF cy G σ)
abbrev jA (G : jgG) : Nat → Prop := fun q => G.1 ≤ q
def jtys (cy : Nat → ClassId) : List (ClassId × FieldType) := [(cy 0, .int), (cy 1, .object RX4), (cy 2, .object RX3), (cy 3, .object RX5)]
theorem jad_mem {G : jgG} {w a : Nat} : a ∈ jad G w ↔ (G.1 ≤ a ∧ a < w) ∧ (G.2.2.2.1 a).1 < 13 := by
  unfold jad
  rw [List.mem_filter, List.mem_range'_1, decide_eq_true_iff]
  constructor
  · exact fun h => ⟨⟨h.1.1, by omega⟩, h.2⟩
  · exact fun h => ⟨⟨h.1.1, by omega⟩, h.2⟩
theorem jad_nd {G : jgG} {w : Nat} : (jad G w).Nodup := List.Pairwise.filter _ (List.nodup_range' ..)
theorem jW_at (cy : Nat → ClassId) (G : jgG) (σ : jgS) (k : Nat) : (jW cy G σ)[k]? = ((jad G (jwt σ))[k]?).map fun a => (a, jF cy G σ a) := by
  unfold jW va_pl
  rw [List.getElem?_map]
theorem jW_get {cy : Nat → ClassId} {G : jgG} {σ : jgS} {a : Nat} (h : jin G σ a) (hk : (G.2.2.2.1 a).1 < 13) : ∃ k : Nat, (jW cy G σ)[k]? = some (a, jF cy G σ a) := by
  obtain ⟨k, hk⟩ := List.getElem?_of_mem (jad_mem.mpr ⟨h, hk⟩)
  exact ⟨k, by rw [jW_at, hk]; rfl⟩
theorem jad_inj {G : jgG} {w i j a : Nat} (hi : (jad G w)[i]? = some a) (hj : (jad G w)[j]? = some a) : i = j := by
  obtain ⟨h1, e1⟩ := List.getElem?_eq_some_iff.mp hi
  obtain ⟨h2, e2⟩ := List.getElem?_eq_some_iff.mp hj
  exact (List.getElem_inj jad_nd).mp (e1.trans e2.symm)
theorem jW_ad {cy : Nat → ClassId} {G : jgG} {σ : jgS} {k : Nat} {q : Nat × va_E} (h : (jW cy G σ)[k]? = some q) : (jad G (jwt σ))[k]? = some q.1 ∧ q.2 = jF cy G σ q.1 := by
  rw [jW_at] at h
  cases hh : (jad G (jwt σ))[k]? with
  | none => rw [hh] at h; cases h
  | some a => rw [hh] at h; cases h; exact ⟨rfl, rfl⟩
theorem jW_D {cy : Nat → ClassId} {G : jgG} {σ : jgS} : va_D (jA G) (jW cy G σ) := by
  refine ⟨fun i j p q hi hj hpq => ?_, fun k q hk => ?_⟩
  · have h1 := (jW_ad hi).1
    have h2 := (jW_ad hj).1
    rw [hpq] at h1
    exact jad_inj h1 h2
  · have h1 := (jW_ad hk).1
    exact (jad_mem.mp (List.mem_of_getElem? h1)).1.1
theorem jW_set {cy : Nat → ClassId} {G : jgG} {σ σ' : jgS} {a i : Nat} {e e0 : va_E} (h : (jW cy G σ)[i]? = some (a, e0)) (hw : jwt σ' = jwt σ) (he : jF cy G σ' a = e) (ho : ∀ b, b ≠ a → jF cy G σ' b = jF cy G σ b) : (jW cy G σ).set i (a, e) = jW cy G σ' := by
  have h1 := (jW_ad h).1
  refine List.ext_getElem? fun k => ?_
  by_cases hk : k = i
  · subst hk
    rw [List.getElem?_set_self (List.getElem?_eq_some_iff.mp h).1, jW_at, hw, h1]
    show _ = some (a, jF cy G σ' a)
    rw [he]
  · rw [List.getElem?_set_ne (Ne.symm hk), jW_at, jW_at, hw]
    cases hb : (jad G (jwt σ))[k]? with
    | none => rfl
    | some b =>
      have hne : b ≠ a := fun z => hk (by subst z; exact jad_inj hb h1)
      show some (b, jF cy G σ b) = some (b, jF cy G σ' b)
      rw [ho b hne]
theorem jad_push {G : jgG} {w : Nat} (hlo : G.1 ≤ w) (hk : (G.2.2.2.1 w).1 < 13) : jad G (w + 1) = jad G w ++ [w] := by
  unfold jad
  rw [show w + 1 - G.1 = (w - G.1) + 1 by omega, List.range'_1_concat, List.filter_append, show G.1 + (w - G.1) = w by omega]
  simp [hk]
theorem jW_push {cy : Nat → ClassId} {G : jgG} {σ σ' : jgS} {e : va_E} (hlo : G.1 ≤ jwt σ) (hk : (G.2.2.2.1 (jwt σ)).1 < 13) (hw : jwt σ' = jwt σ + 1) (he : jF cy G σ' (jwt σ) = e) (ho : ∀ b, b < jwt σ → jF cy G σ' b = jF cy G σ b) : jW cy G σ ++ [(jwt σ, e)] = jW cy G σ' := by
  unfold jW va_pl
  rw [hw, jad_push hlo hk, List.map_append]
  have e1 : List.map (fun a => (a, jF cy G σ a)) (jad G (jwt σ)) = List.map (fun a => (a, jF cy G σ' a)) (jad G (jwt σ)) := List.map_congr_left fun a ha => by rw [ho a (jad_mem.mp ha).1.2]
  rw [e1, ← he]
  rfl
theorem jF_obj {cy : Nat → ClassId} {G : jgG} {σ : jgS} {a ci : Nat} (h : (G.2.2.2.1 a).1 = ci) (hc : ci < 8) : jF cy G σ a = .inr (ci, (List.range (jN ci)).map (jfv ci σ a)) := by
  subst h
  unfold jF
  rw [if_pos hc]
theorem jF_int {cy : Nat → ClassId} {G : jgG} {σ : jgS} {a n : Nat} (h : G.2.2.2.1 a = (8, n)) : jF cy G σ a = .inl (cy 0, n, .inl (σ.1 a)) := by
  unfold jF
  have e : ((8, n) : Nat × Nat).1 = 8 := rfl
  rw [h, e, if_neg (by decide), if_pos rfl]
theorem jF_ref {cy : Nat → ClassId} {G : jgG} {σ : jgS} {a j n : Nat} (h : G.2.2.2.1 a = (10 + j, n)) : jF cy G σ a = .inl (cy (1 + j), n, .inr (.inr (.inr (.inr (σ.2.1 a))))) := by
  unfold jF
  have e : ((10 + j, n) : Nat × Nat).1 = 10 + j := rfl
  rw [h, e, if_neg (by omega), if_neg (by omega), show 10 + j - 9 = 1 + j by omega]
/-- a cell whose rows are the same in two states is the same -/
theorem jF_same {cy : Nat → ClassId} {G : jgG} {σ σ' : jgS} {b : Nat} (h1 : σ'.1 b = σ.1 b) (h2 : σ'.2.1 b = σ.2.1 b) (h3 : σ'.2.2.1 b = σ.2.2.1 b) : jF cy G σ' b = jF cy G σ b := by
  unfold jF
  have hf : ∀ ci, jfv ci σ' b = jfv ci σ b := fun ci => by funext k; unfold jfv; rw [h1, h2]
  rw [h1, h2, hf]
theorem jwt_I (σ : jgS) (a k : Nat) (x : Int32) : jwt (jwI σ a k x) = jwt σ := rfl
theorem jwt_R (σ : jgS) (a k : Nat) (q : Option Nat) : jwt (jwR σ a k q) = jwt σ := rfl
theorem jwt_Y (σ : jgS) (a k : Nat) (x : Int64) : jwt (jwY σ a k x) = jwt σ := rfl
theorem jFo_I {cy : Nat → ClassId} {G : jgG} {σ : jgS} {a k : Nat} {x : Int32} (b : Nat) (hb : b ≠ a) : jF cy G (jwI σ a k x) b = jF cy G σ b := jF_same (by funext k'; simp [jwI, hb]) rfl rfl
theorem jFo_R {cy : Nat → ClassId} {G : jgG} {σ : jgS} {a k : Nat} {x : Option Nat} (b : Nat) (hb : b ≠ a) : jF cy G (jwR σ a k x) b = jF cy G σ b := jF_same rfl (by funext k'; simp [jwR, hb]) rfl
theorem jFo_Y {cy : Nat → ClassId} {G : jgG} {σ : jgS} {a k : Nat} {x : Int64} (b : Nat) (hb : b ≠ a) : jF cy G (jwY σ a k x) b = jF cy G σ b := jF_same rfl rfl (by funext k'; simp [jwY, hb])
/-- the object's row behind a store -/
theorem jobj_I {ci : Nat} {σ : jgS} {a k : Nat} {x : Int32} (hk : k < jN ci) (ht : jty ci k = true) : ((List.range (jN ci)).map (jfv ci σ a)).set k (.int x) = (List.range (jN ci)).map (jfv ci (jwI σ a k x) a) := by
  refine List.ext_getElem? fun j => ?_
  by_cases hj : j = k
  · subst hj
    rw [List.getElem?_set_self (by simpa using hk)]
    simp [hk, jfv, ht, jwI]
  · rw [List.getElem?_set_ne (Ne.symm hj), List.getElem?_map, List.getElem?_map]
    have : jfv ci (jwI σ a k x) a j = jfv ci σ a j := by simp [jfv, jwI, hj]
    cases h : (List.range (jN ci))[j]? with
    | none => rfl
    | some i =>
      have : i = j := by
        have := (List.getElem?_eq_some_iff.mp h)
        obtain ⟨h1, h2⟩ := this
        simpa using h2.symm
      subst this
      simp [jfv, jwI, hj]
theorem jobj_R {ci : Nat} {σ : jgS} {a k : Nat} {q : Nat} (hk : k < jN ci) (ht : jty ci k = false) : ((List.range (jN ci)).map (jfv ci σ a)).set k (.ref q) = (List.range (jN ci)).map (jfv ci (jwR σ a k (some q)) a) := by
  refine List.ext_getElem? fun j => ?_
  by_cases hj : j = k
  · subst hj
    rw [List.getElem?_set_self (by simpa using hk)]
    simp [hk, jfv, ht, jwR, va_rf]
  · rw [List.getElem?_set_ne (Ne.symm hj), List.getElem?_map, List.getElem?_map]
    cases h : (List.range (jN ci))[j]? with
    | none => rfl
    | some i =>
      have : i = j := by
        obtain ⟨h1, h2⟩ := (List.getElem?_eq_some_iff.mp h)
        simpa using h2.symm
      subst this
      simp [jfv, jwR, hj]
theorem jobj_get {ci : Nat} {σ : jgS} {a k : Nat} (hk : k < jN ci) : ((List.range (jN ci)).map (jfv ci σ a))[k]? = some (jfv ci σ a k) := by
  simp [hk]
/-! the locals -/
def jpairs : Nat → List (Option Value) → List (Nat × Value)
  | _, [] => []
  | n, none :: l => jpairs (n + 1) l
  | n, some v :: l => (n, v) :: jpairs (n + 1) l
theorem jpairs_mem : ∀ (l : List (Option Value)) (n : Nat) (q : Nat × Value), q ∈ jpairs n l ↔ ∃ j, q.1 = n + j ∧ jgl l j = some q.2
  | [], n, q => by simp [jpairs, jgl]
  | none :: l, n, q => by
    rw [jpairs, jpairs_mem l (n + 1) q]
    constructor
    · rintro ⟨j, h1, h2⟩
      exact ⟨j + 1, by omega, h2⟩
    · rintro ⟨j, h1, h2⟩
      cases j with
      | zero => simp [jgl] at h2
      | succ j => exact ⟨j, by omega, h2⟩
  | some v :: l, n, q => by
    rw [jpairs, List.mem_cons, jpairs_mem l (n + 1) q]
    constructor
    · rintro (h | ⟨j, h1, h2⟩)
      · subst h
        exact ⟨0, rfl, rfl⟩
      · exact ⟨j + 1, by omega, h2⟩
    · rintro ⟨j, h1, h2⟩
      cases j with
      | zero =>
        left
        have h2 : v = q.2 := Option.some.inj h2
        rw [h2]
        exact Prod.ext h1 rfl
      | succ j => exact Or.inr ⟨j, by omega, h2⟩
def jlv (lsA : Array Slot) (nL : Nat) (ls : List (Option Value)) : Prop := ls.length = nL ∧ lv_has lsA nL (jpairs 0 ls)
theorem jlv_at {lsA : Array Slot} {nL : Nat} {ls : List (Option Value)} (h : jlv lsA nL ls) {i : Nat} {v : Value} (hi : jgl ls i = some v) : lsA[i]? = some (.val v) :=
  h.2.2.2 (i, v) ((jpairs_mem ls 0 (i, v)).mpr ⟨i, by omega, hi⟩)
theorem jgl_lt : ∀ {ls : List (Option Value)} {i : Nat} {v : Value}, jgl ls i = some v → i < ls.length
  | _ :: _, 0, _, _ => Nat.succ_pos _
  | _ :: l, i + 1, v, h => Nat.succ_lt_succ (jgl_lt (ls := l) h)
theorem jgl_set : ∀ (ls : List (Option Value)) (i j : Nat) (x : Option Value), jgl (ls.set i x) j = if j = i ∧ i < ls.length then x else jgl ls j
  | [], i, j, x => by simp [jgl]
  | v :: l, 0, 0, x => by simp [jgl]
  | v :: l, 0, j + 1, x => by simp [jgl]
  | v :: l, i + 1, 0, x => by simp [jgl]
  | v :: l, i + 1, j + 1, x => by
    show jgl (l.set i x) j = _
    rw [jgl_set l i j x]
    simp [jgl]
theorem jlv_set1 {lsA lsB : Array Slot} {nL i : Nat} {ls : List (Option Value)} {v : Value} (h : jlv lsA nL ls) (hi : i < ls.length) (hok : jgok ls i = true) (hB : lv_has lsB nL ((i, v) :: (jpairs 0 ls).filter (fun q => !(q.1 == i) && !(q.1 + 1 == i && q.2.category == 2)))) : jlv lsB nL (ls.set i (some v)) := by
  refine ⟨by rw [List.length_set]; exact h.1, hB.1, hB.2.1, fun q hq => ?_⟩
  obtain ⟨j, h1, h2⟩ := (jpairs_mem _ 0 q).mp hq
  rw [jgl_set] at h2
  by_cases hj : j = i ∧ i < ls.length
  · rw [if_pos hj] at h2
    refine hB.2.2 q (List.mem_cons.mpr (Or.inl ?_))
    exact Prod.ext (by omega) (Option.some.inj h2).symm
  · rw [if_neg hj] at h2
    have hji : j ≠ i := fun e => hj ⟨e, hi⟩
    refine hB.2.2 q (List.mem_cons.mpr (Or.inr (List.mem_filter.mpr ⟨(jpairs_mem ls 0 q).mpr ⟨j, h1, h2⟩, ?_⟩)))
    have hq1 : q.1 = j := by omega
    rw [hq1]
    by_cases hs : j + 1 = i
    · subst hs
      have hc : jgc2 (jgl ls j) = true := hok
      rw [h2] at hc
      have : q.2.category ≠ 2 := by
        cases hv : q.2 <;> rw [hv] at hc <;> simp_all [jgc2, Value.category]
      simp [hji, this]
    · simp [hji, hs]
theorem jlv_set2 {lsA lsB : Array Slot} {nL i : Nat} {ls : List (Option Value)} {v : Value} (h : jlv lsA nL ls) (hi : i + 1 < ls.length) (hok : jgok ls i = true) (hB : lv_has lsB nL ((i, v) :: (jpairs 0 ls).filter (fun q => !(q.1 == i) && (!(q.1 == i + 1) && !(q.1 + 1 == i && q.2.category == 2))))) : jlv lsB nL ((ls.set i (some v)).set (i + 1) none) := by
  refine ⟨by rw [List.length_set, List.length_set]; exact h.1, hB.1, hB.2.1, fun q hq => ?_⟩
  obtain ⟨j, h1, h2⟩ := (jpairs_mem _ 0 q).mp hq
  rw [jgl_set, jgl_set, List.length_set] at h2
  by_cases hj1 : j = i + 1
  · rw [if_pos ⟨hj1, hi⟩] at h2
    cases h2
  · rw [if_neg (fun e => hj1 e.1)] at h2
    by_cases hj : j = i ∧ i < ls.length
    · rw [if_pos hj] at h2
      refine hB.2.2 q (List.mem_cons.mpr (Or.inl ?_))
      exact Prod.ext (by omega) (Option.some.inj h2).symm
    · rw [if_neg hj] at h2
      have hji : j ≠ i := fun e => hj ⟨e, by omega⟩
      refine hB.2.2 q (List.mem_cons.mpr (Or.inr (List.mem_filter.mpr ⟨(jpairs_mem ls 0 q).mpr ⟨j, h1, h2⟩, ?_⟩)))
      have hq1 : q.1 = j := by omega
      rw [hq1]
      by_cases hs : j + 1 = i
      · subst hs
        have hc : jgc2 (jgl ls j) = true := hok
        rw [h2] at hc
        have : q.2.category ≠ 2 := by
          cases hv : q.2 <;> rw [hv] at hc <;> simp_all [jgc2, Value.category]
        simp [hji, hj1, this]
      · simp [hji, hj1, hs]
