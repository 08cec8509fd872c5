/-! rules: what an instruction does, as equivalences for rewriting -/
section JQ
variable {G : jgG} {M : jgM} {pc : Nat} {ls l : List (Option Value)} {st : List Value} {σ : jgS} {Φ : jgR → Prop}
theorem jwt_wI (σ : jgS) (a k : Nat) (x : Int32) : jwt (jwI σ a k x) = jwt σ := rfl
theorem jwt_wR (σ : jgS) (a k : Nat) (x : Option Nat) : jwt (jwR σ a k x) = jwt σ := rfl
theorem jwt_wY (σ : jgS) (a k : Nat) (x : Int64) : jwt (jwY σ a k x) = jwt σ := rfl
theorem jwt_wh (σ : jgS) (n : Nat) : jwt (jwh σ n) = jwt σ := rfl
theorem jR_wI (σ : jgS) (a k : Nat) (x : Int32) : (jwI σ a k x).2.1 = σ.2.1 := rfl
theorem j2_wI (σ : jgS) (a k : Nat) (x : Int32) : (jwI σ a k x).2 = σ.2 := rfl
theorem jR_wY (σ : jgS) (a k : Nat) (x : Int64) : (jwY σ a k x).2.1 = σ.2.1 := rfl
theorem jI_wY (σ : jgS) (a k : Nat) (x : Int64) : (jwY σ a k x).1 = σ.1 := rfl
theorem jI_wh (σ : jgS) (n : Nat) : (jwh σ n).1 = σ.1 := rfl
theorem jR_wh (σ : jgS) (n : Nat) : (jwh σ n).2.1 = σ.2.1 := rfl
theorem jI_wI (σ : jgS) (a k : Nat) (x : Int32) (b j : Nat) : (jwI σ a k x).1 b j = if b = a ∧ j = k then x else σ.1 b j := rfl
theorem jhs_wI (σ : jgS) (a k : Nat) (x : Int32) : jhs (jwI σ a k x) = jhs σ := rfl
theorem jsl_wI (σ : jgS) (a k : Nat) (x : Int32) : jsl (jwI σ a k x) = jsl σ := rfl
/-- the address is one of the world's, of this kind -/
def jo (G : jgG) (w a ci : Nat) : Prop := (G.1 ≤ a ∧ a < w) ∧ (G.2.2.2.1 a).1 = ci
/-- a row of this kind and length -/
def ja (G : jgG) (w a t n : Nat) : Prop := (G.1 ≤ a ∧ a < w) ∧ G.2.2.2.1 a = (t, n)
theorem jc2_i (x : Int32) : (jgc2 (some (.int x)) = true) = True := eq_self true
theorem jc2_r (x : Nat) : (jgc2 (some (.ref x)) = true) = True := eq_self true
theorem jc2_n : (jgc2 none = true) = True := eq_self true
theorem jcat_nil : jcat [] = 0 := rfl
theorem jcat_i (x : Int32) (l : List Value) : jcat (.int x :: l) = 1 + jcat l := by simp [jcat, Value.category]
theorem jcat_r (x : Nat) (l : List Value) : jcat (.ref x :: l) = 1 + jcat l := by simp [jcat, Value.category]
theorem jcat_l (x : Int64) (l : List Value) : jcat (.long x :: l) = 2 + jcat l := by simp [jcat, Value.category]
theorem jcat_d (x : UInt64) (l : List Value) : jcat (.double x :: l) = 2 + jcat l := by simp [jcat, Value.category]
/-- the kinds of rows of references -/
def jref (t : Nat) : Prop := 10 ≤ t ∧ t < 13
theorem jref_10 : jref 10 = True := eq_true ⟨by decide, by decide⟩
theorem jref_11 : jref 11 = True := eq_true ⟨by decide, by decide⟩
theorem jref_12 : jref 12 = True := eq_true ⟨by decide, by decide⟩
theorem jc1_i (x : Int32) : (Value.int x).category = 1 := rfl
theorem jc1_r (x : Nat) : (Value.ref x).category = 1 := rfl
theorem jrf_some (q : Nat) : va_rf (some q) = .ref q := rfl
theorem jq_iload0 {v : Int32} (q : Nat) (hd : decode M.1 pc = .ok (.iload_n 0, 1)) (hq : pc + 1 = q) : Jr G M pc (some (.int v) :: l) st σ Φ ↔ Jr G M q (some (.int v) :: l) (.int v :: st) σ Φ := by subst hq; rw [jr_step hd]; simp [jgOp, jgl]
theorem jq_iloadW0 {v : Int32} (q : Nat) (hd : decode M.1 pc = .ok (.iload 0, 2)) (hq : pc + 2 = q) : Jr G M pc (some (.int v) :: l) st σ Φ ↔ Jr G M q (some (.int v) :: l) (.int v :: st) σ Φ := by subst hq; rw [jr_step hd]; simp [jgOp, jgl]
theorem jq_iload1 {x0 : Option Value} {v : Int32} (q : Nat) (hd : decode M.1 pc = .ok (.iload_n 1, 1)) (hq : pc + 1 = q) : Jr G M pc (x0 :: some (.int v) :: l) st σ Φ ↔ Jr G M q (x0 :: some (.int v) :: l) (.int v :: st) σ Φ := by subst hq; rw [jr_step hd]; simp [jgOp, jgl]
theorem jq_iloadW1 {x0 : Option Value} {v : Int32} (q : Nat) (hd : decode M.1 pc = .ok (.iload 1, 2)) (hq : pc + 2 = q) : Jr G M pc (x0 :: some (.int v) :: l) st σ Φ ↔ Jr G M q (x0 :: some (.int v) :: l) (.int v :: st) σ Φ := by subst hq; rw [jr_step hd]; simp [jgOp, jgl]
theorem jq_iload2 {x0 x1 : Option Value} {v : Int32} (q : Nat) (hd : decode M.1 pc = .ok (.iload_n 2, 1)) (hq : pc + 1 = q) : Jr G M pc (x0 :: x1 :: some (.int v) :: l) st σ Φ ↔ Jr G M q (x0 :: x1 :: some (.int v) :: l) (.int v :: st) σ Φ := by subst hq; rw [jr_step hd]; simp [jgOp, jgl]
theorem jq_iloadW2 {x0 x1 : Option Value} {v : Int32} (q : Nat) (hd : decode M.1 pc = .ok (.iload 2, 2)) (hq : pc + 2 = q) : Jr G M pc (x0 :: x1 :: some (.int v) :: l) st σ Φ ↔ Jr G M q (x0 :: x1 :: some (.int v) :: l) (.int v :: st) σ Φ := by subst hq; rw [jr_step hd]; simp [jgOp, jgl]
theorem jq_iload3 {x0 x1 x2 : Option Value} {v : Int32} (q : Nat) (hd : decode M.1 pc = .ok (.iload_n 3, 1)) (hq : pc + 1 = q) : Jr G M pc (x0 :: x1 :: x2 :: some (.int v) :: l) st σ Φ ↔ Jr G M q (x0 :: x1 :: x2 :: some (.int v) :: l) (.int v :: st) σ Φ := by subst hq; rw [jr_step hd]; simp [jgOp, jgl]
theorem jq_iloadW3 {x0 x1 x2 : Option Value} {v : Int32} (q : Nat) (hd : decode M.1 pc = .ok (.iload 3, 2)) (hq : pc + 2 = q) : Jr G M pc (x0 :: x1 :: x2 :: some (.int v) :: l) st σ Φ ↔ Jr G M q (x0 :: x1 :: x2 :: some (.int v) :: l) (.int v :: st) σ Φ := by subst hq; rw [jr_step hd]; simp [jgOp, jgl]
theorem jq_iloadW4 {x0 x1 x2 x3 : Option Value} {v : Int32} (q : Nat) (hd : decode M.1 pc = .ok (.iload 4, 2)) (hq : pc + 2 = q) : Jr G M pc (x0 :: x1 :: x2 :: x3 :: some (.int v) :: l) st σ Φ ↔ Jr G M q (x0 :: x1 :: x2 :: x3 :: some (.int v) :: l) (.int v :: st) σ Φ := by subst hq; rw [jr_step hd]; simp [jgOp, jgl]
theorem jq_iloadW5 {x0 x1 x2 x3 x4 : Option Value} {v : Int32} (q : Nat) (hd : decode M.1 pc = .ok (.iload 5, 2)) (hq : pc + 2 = q) : Jr G M pc (x0 :: x1 :: x2 :: x3 :: x4 :: some (.int v) :: l) st σ Φ ↔ Jr G M q (x0 :: x1 :: x2 :: x3 :: x4 :: some (.int v) :: l) (.int v :: st) σ Φ := by subst hq; rw [jr_step hd]; simp [jgOp, jgl]
theorem jq_iloadW6 {x0 x1 x2 x3 x4 x5 : Option Value} {v : Int32} (q : Nat) (hd : decode M.1 pc = .ok (.iload 6, 2)) (hq : pc + 2 = q) : Jr G M pc (x0 :: x1 :: x2 :: x3 :: x4 :: x5 :: some (.int v) :: l) st σ Φ ↔ Jr G M q (x0 :: x1 :: x2 :: x3 :: x4 :: x5 :: some (.int v) :: l) (.int v :: st) σ Φ := by subst hq; rw [jr_step hd]; simp [jgOp, jgl]
theorem jq_iloadW7 {x0 x1 x2 x3 x4 x5 x6 : Option Value} {v : Int32} (q : Nat) (hd : decode M.1 pc = .ok (.iload 7, 2)) (hq : pc + 2 = q) : Jr G M pc (x0 :: x1 :: x2 :: x3 :: x4 :: x5 :: x6 :: some (.int v) :: l) st σ Φ ↔ Jr G M q (x0 :: x1 :: x2 :: x3 :: x4 :: x5 :: x6 :: some (.int v) :: l) (.int v :: st) σ Φ := by subst hq; rw [jr_step hd]; simp [jgOp, jgl]
theorem jq_iloadW8 {x0 x1 x2 x3 x4 x5 x6 x7 : Option Value} {v : Int32} (q : Nat) (hd : decode M.1 pc = .ok (.iload 8, 2)) (hq : pc + 2 = q) : Jr G M pc (x0 :: x1 :: x2 :: x3 :: x4 :: x5 :: x6 :: x7 :: some (.int v) :: l) st σ Φ ↔ Jr G M q (x0 :: x1 :: x2 :: x3 :: x4 :: x5 :: x6 :: x7 :: some (.int v) :: l) (.int v :: st) σ Φ := by subst hq; rw [jr_step hd]; simp [jgOp, jgl]
theorem jq_iloadW9 {x0 x1 x2 x3 x4 x5 x6 x7 x8 : Option Value} {v : Int32} (q : Nat) (hd : decode M.1 pc = .ok (.iload 9, 2)) (hq : pc + 2 = q) : Jr G M pc (x0 :: x1 :: x2 :: x3 :: x4 :: x5 :: x6 :: x7 :: x8 :: some (.int v) :: l) st σ Φ ↔ Jr G M q (x0 :: x1 :: x2 :: x3 :: x4 :: x5 :: x6 :: x7 :: x8 :: some (.int v) :: l) (.int v :: st) σ Φ := by subst hq; rw [jr_step hd]; simp [jgOp, jgl]
theorem jq_iloadW10 {x0 x1 x2 x3 x4 x5 x6 x7 x8 x9 : Option Value} {v : Int32} (q : Nat) (hd : decode M.1 pc = .ok (.iload 10, 2)) (hq : pc + 2 = q) : Jr G M pc (x0 :: x1 :: x2 :: x3 :: x4 :: x5 :: x6 :: x7 :: x8 :: x9 :: some (.int v) :: l) st σ Φ ↔ Jr G M q (x0 :: x1 :: x2 :: x3 :: x4 :: x5 :: x6 :: x7 :: x8 :: x9 :: some (.int v) :: l) (.int v :: st) σ Φ := by subst hq; rw [jr_step hd]; simp [jgOp, jgl]
theorem jq_iloadW11 {x0 x1 x2 x3 x4 x5 x6 x7 x8 x9 x10 : Option Value} {v : Int32} (q : Nat) (hd : decode M.1 pc = .ok (.iload 11, 2)) (hq : pc + 2 = q) : Jr G M pc (x0 :: x1 :: x2 :: x3 :: x4 :: x5 :: x6 :: x7 :: x8 :: x9 :: x10 :: some (.int v) :: l) st σ Φ ↔ Jr G M q (x0 :: x1 :: x2 :: x3 :: x4 :: x5 :: x6 :: x7 :: x8 :: x9 :: x10 :: some (.int v) :: l) (.int v :: st) σ Φ := by subst hq; rw [jr_step hd]; simp [jgOp, jgl]
theorem jq_iloadW12 {x0 x1 x2 x3 x4 x5 x6 x7 x8 x9 x10 x11 : Option Value} {v : Int32} (q : Nat) (hd : decode M.1 pc = .ok (.iload 12, 2)) (hq : pc + 2 = q) : Jr G M pc (x0 :: x1 :: x2 :: x3 :: x4 :: x5 :: x6 :: x7 :: x8 :: x9 :: x10 :: x11 :: some (.int v) :: l) st σ Φ ↔ Jr G M q (x0 :: x1 :: x2 :: x3 :: x4 :: x5 :: x6 :: x7 :: x8 :: x9 :: x10 :: x11 :: some (.int v) :: l) (.int v :: st) σ Φ := by subst hq; rw [jr_step hd]; simp [jgOp, jgl]
theorem jq_iloadW13 {x0 x1 x2 x3 x4 x5 x6 x7 x8 x9 x10 x11 x12 : Option Value} {v : Int32} (q : Nat) (hd : decode M.1 pc = .ok (.iload 13, 2)) (hq : pc + 2 = q) : Jr G M pc (x0 :: x1 :: x2 :: x3 :: x4 :: x5 :: x6 :: x7 :: x8 :: x9 :: x10 :: x11 :: x12 :: some (.int v) :: l) st σ Φ ↔ Jr G M q (x0 :: x1 :: x2 :: x3 :: x4 :: x5 :: x6 :: x7 :: x8 :: x9 :: x10 :: x11 :: x12 :: some (.int v) :: l) (.int v :: st) σ Φ := by subst hq; rw [jr_step hd]; simp [jgOp, jgl]
theorem jq_iloadW14 {x0 x1 x2 x3 x4 x5 x6 x7 x8 x9 x10 x11 x12 x13 : Option Value} {v : Int32} (q : Nat) (hd : decode M.1 pc = .ok (.iload 14, 2)) (hq : pc + 2 = q) : Jr G M pc (x0 :: x1 :: x2 :: x3 :: x4 :: x5 :: x6 :: x7 :: x8 :: x9 :: x10 :: x11 :: x12 :: x13 :: some (.int v) :: l) st σ Φ ↔ Jr G M q (x0 :: x1 :: x2 :: x3 :: x4 :: x5 :: x6 :: x7 :: x8 :: x9 :: x10 :: x11 :: x12 :: x13 :: some (.int v) :: l) (.int v :: st) σ Φ := by subst hq; rw [jr_step hd]; simp [jgOp, jgl]
theorem jq_iloadW15 {x0 x1 x2 x3 x4 x5 x6 x7 x8 x9 x10 x11 x12 x13 x14 : Option Value} {v : Int32} (q : Nat) (hd : decode M.1 pc = .ok (.iload 15, 2)) (hq : pc + 2 = q) : Jr G M pc (x0 :: x1 :: x2 :: x3 :: x4 :: x5 :: x6 :: x7 :: x8 :: x9 :: x10 :: x11 :: x12 :: x13 :: x14 :: some (.int v) :: l) st σ Φ ↔ Jr G M q (x0 :: x1 :: x2 :: x3 :: x4 :: x5 :: x6 :: x7 :: x8 :: x9 :: x10 :: x11 :: x12 :: x13 :: x14 :: some (.int v) :: l) (.int v :: st) σ Φ := by subst hq; rw [jr_step hd]; simp [jgOp, jgl]
theorem jq_iloadW16 {x0 x1 x2 x3 x4 x5 x6 x7 x8 x9 x10 x11 x12 x13 x14 x15 : Option Value} {v : Int32} (q : Nat) (hd : decode M.1 pc = .ok (.iload 16, 2)) (hq : pc + 2 = q) : Jr G M pc (x0 :: x1 :: x2 :: x3 :: x4 :: x5 :: x6 :: x7 :: x8 :: x9 :: x10 :: x11 :: x12 :: x13 :: x14 :: x15 :: some (.int v) :: l) st σ Φ ↔ Jr G M q (x0 :: x1 :: x2 :: x3 :: x4 :: x5 :: x6 :: x7 :: x8 :: x9 :: x10 :: x11 :: x12 :: x13 :: x14 :: x15 :: some (.int v) :: l) (.int v :: st) σ Φ := by subst hq; rw [jr_step hd]; simp [jgOp, jgl]
theorem jq_iloadW17 {x0 x1 x2 x3 x4 x5 x6 x7 x8 x9 x10 x11 x12 x13 x14 x15 x16 : Option Value} {v : Int32} (q : Nat) (hd : decode M.1 pc = .ok (.iload 17, 2)) (hq : pc + 2 = q) : Jr G M pc (x0 :: x1 :: x2 :: x3 :: x4 :: x5 :: x6 :: x7 :: x8 :: x9 :: x10 :: x11 :: x12 :: x13 :: x14 :: x15 :: x16 :: some (.int v) :: l) st σ Φ ↔ Jr G M q (x0 :: x1 :: x2 :: x3 :: x4 :: x5 :: x6 :: x7 :: x8 :: x9 :: x10 :: x11 :: x12 :: x13 :: x14 :: x15 :: x16 :: some (.int v) :: l) (.int v :: st) σ Φ := by subst hq; rw [jr_step hd]; simp [jgOp, jgl]
theorem jq_aload0 {v : Nat} (q : Nat) (hd : decode M.1 pc = .ok (.aload_n 0, 1)) (hq : pc + 1 = q) : Jr G M pc (some (.ref v) :: l) st σ Φ ↔ Jr G M q (some (.ref v) :: l) (.ref v :: st) σ Φ := by subst hq; rw [jr_step hd]; simp [jgOp, jgl]
theorem jq_aloadW0 {v : Nat} (q : Nat) (hd : decode M.1 pc = .ok (.aload 0, 2)) (hq : pc + 2 = q) : Jr G M pc (some (.ref v) :: l) st σ Φ ↔ Jr G M q (some (.ref v) :: l) (.ref v :: st) σ Φ := by subst hq; rw [jr_step hd]; simp [jgOp, jgl]
theorem jq_aload1 {x0 : Option Value} {v : Nat} (q : Nat) (hd : decode M.1 pc = .ok (.aload_n 1, 1)) (hq : pc + 1 = q) : Jr G M pc (x0 :: some (.ref v) :: l) st σ Φ ↔ Jr G M q (x0 :: some (.ref v) :: l) (.ref v :: st) σ Φ := by subst hq; rw [jr_step hd]; simp [jgOp, jgl]
theorem jq_aloadW1 {x0 : Option Value} {v : Nat} (q : Nat) (hd : decode M.1 pc = .ok (.aload 1, 2)) (hq : pc + 2 = q) : Jr G M pc (x0 :: some (.ref v) :: l) st σ Φ ↔ Jr G M q (x0 :: some (.ref v) :: l) (.ref v :: st) σ Φ := by subst hq; rw [jr_step hd]; simp [jgOp, jgl]
theorem jq_aload2 {x0 x1 : Option Value} {v : Nat} (q : Nat) (hd : decode M.1 pc = .ok (.aload_n 2, 1)) (hq : pc + 1 = q) : Jr G M pc (x0 :: x1 :: some (.ref v) :: l) st σ Φ ↔ Jr G M q (x0 :: x1 :: some (.ref v) :: l) (.ref v :: st) σ Φ := by subst hq; rw [jr_step hd]; simp [jgOp, jgl]
theorem jq_aloadW2 {x0 x1 : Option Value} {v : Nat} (q : Nat) (hd : decode M.1 pc = .ok (.aload 2, 2)) (hq : pc + 2 = q) : Jr G M pc (x0 :: x1 :: some (.ref v) :: l) st σ Φ ↔ Jr G M q (x0 :: x1 :: some (.ref v) :: l) (.ref v :: st) σ Φ := by subst hq; rw [jr_step hd]; simp [jgOp, jgl]
theorem jq_aload3 {x0 x1 x2 : Option Value} {v : Nat} (q : Nat) (hd : decode M.1 pc = .ok (.aload_n 3, 1)) (hq : pc + 1 = q) : Jr G M pc (x0 :: x1 :: x2 :: some (.ref v) :: l) st σ Φ ↔ Jr G M q (x0 :: x1 :: x2 :: some (.ref v) :: l) (.ref v :: st) σ Φ := by subst hq; rw [jr_step hd]; simp [jgOp, jgl]
theorem jq_aloadW3 {x0 x1 x2 : Option Value} {v : Nat} (q : Nat) (hd : decode M.1 pc = .ok (.aload 3, 2)) (hq : pc + 2 = q) : Jr G M pc (x0 :: x1 :: x2 :: some (.ref v) :: l) st σ Φ ↔ Jr G M q (x0 :: x1 :: x2 :: some (.ref v) :: l) (.ref v :: st) σ Φ := by subst hq; rw [jr_step hd]; simp [jgOp, jgl]
theorem jq_aloadW4 {x0 x1 x2 x3 : Option Value} {v : Nat} (q : Nat) (hd : decode M.1 pc = .ok (.aload 4, 2)) (hq : pc + 2 = q) : Jr G M pc (x0 :: x1 :: x2 :: x3 :: some (.ref v) :: l) st σ Φ ↔ Jr G M q (x0 :: x1 :: x2 :: x3 :: some (.ref v) :: l) (.ref v :: st) σ Φ := by subst hq; rw [jr_step hd]; simp [jgOp, jgl]
theorem jq_aloadW5 {x0 x1 x2 x3 x4 : Option Value} {v : Nat} (q : Nat) (hd : decode M.1 pc = .ok (.aload 5, 2)) (hq : pc + 2 = q) : Jr G M pc (x0 :: x1 :: x2 :: x3 :: x4 :: some (.ref v) :: l) st σ Φ ↔ Jr G M q (x0 :: x1 :: x2 :: x3 :: x4 :: some (.ref v) :: l) (.ref v :: st) σ Φ := by subst hq; rw [jr_step hd]; simp [jgOp, jgl]
theorem jq_aloadW6 {x0 x1 x2 x3 x4 x5 : Option Value} {v : Nat} (q : Nat) (hd : decode M.1 pc = .ok (.aload 6, 2)) (hq : pc + 2 = q) : Jr G M pc (x0 :: x1 :: x2 :: x3 :: x4 :: x5 :: some (.ref v) :: l) st σ Φ ↔ Jr G M q (x0 :: x1 :: x2 :: x3 :: x4 :: x5 :: some (.ref v) :: l) (.ref v :: st) σ Φ := by subst hq; rw [jr_step hd]; simp [jgOp, jgl]
theorem jq_aloadW7 {x0 x1 x2 x3 x4 x5 x6 : Option Value} {v : Nat} (q : Nat) (hd : decode M.1 pc = .ok (.aload 7, 2)) (hq : pc + 2 = q) : Jr G M pc (x0 :: x1 :: x2 :: x3 :: x4 :: x5 :: x6 :: some (.ref v) :: l) st σ Φ ↔ Jr G M q (x0 :: x1 :: x2 :: x3 :: x4 :: x5 :: x6 :: some (.ref v) :: l) (.ref v :: st) σ Φ := by subst hq; rw [jr_step hd]; simp [jgOp, jgl]
theorem jq_aloadW8 {x0 x1 x2 x3 x4 x5 x6 x7 : Option Value} {v : Nat} (q : Nat) (hd : decode M.1 pc = .ok (.aload 8, 2)) (hq : pc + 2 = q) : Jr G M pc (x0 :: x1 :: x2 :: x3 :: x4 :: x5 :: x6 :: x7 :: some (.ref v) :: l) st σ Φ ↔ Jr G M q (x0 :: x1 :: x2 :: x3 :: x4 :: x5 :: x6 :: x7 :: some (.ref v) :: l) (.ref v :: st) σ Φ := by subst hq; rw [jr_step hd]; simp [jgOp, jgl]
theorem jq_aloadW9 {x0 x1 x2 x3 x4 x5 x6 x7 x8 : Option Value} {v : Nat} (q : Nat) (hd : decode M.1 pc = .ok (.aload 9, 2)) (hq : pc + 2 = q) : Jr G M pc (x0 :: x1 :: x2 :: x3 :: x4 :: x5 :: x6 :: x7 :: x8 :: some (.ref v) :: l) st σ Φ ↔ Jr G M q (x0 :: x1 :: x2 :: x3 :: x4 :: x5 :: x6 :: x7 :: x8 :: some (.ref v) :: l) (.ref v :: st) σ Φ := by subst hq; rw [jr_step hd]; simp [jgOp, jgl]
theorem jq_aloadW10 {x0 x1 x2 x3 x4 x5 x6 x7 x8 x9 : Option Value} {v : Nat} (q : Nat) (hd : decode M.1 pc = .ok (.aload 10, 2)) (hq : pc + 2 = q) : Jr G M pc (x0 :: x1 :: x2 :: x3 :: x4 :: x5 :: x6 :: x7 :: x8 :: x9 :: some (.ref v) :: l) st σ Φ ↔ Jr G M q (x0 :: x1 :: x2 :: x3 :: x4 :: x5 :: x6 :: x7 :: x8 :: x9 :: some (.ref v) :: l) (.ref v :: st) σ Φ := by subst hq; rw [jr_step hd]; simp [jgOp, jgl]
theorem jq_aloadW11 {x0 x1 x2 x3 x4 x5 x6 x7 x8 x9 x10 : Option Value} {v : Nat} (q : Nat) (hd : decode M.1 pc = .ok (.aload 11, 2)) (hq : pc + 2 = q) : Jr G M pc (x0 :: x1 :: x2 :: x3 :: x4 :: x5 :: x6 :: x7 :: x8 :: x9 :: x10 :: some (.ref v) :: l) st σ Φ ↔ Jr G M q (x0 :: x1 :: x2 :: x3 :: x4 :: x5 :: x6 :: x7 :: x8 :: x9 :: x10 :: some (.ref v) :: l) (.ref v :: st) σ Φ := by subst hq; rw [jr_step hd]; simp [jgOp, jgl]
theorem jq_aloadW12 {x0 x1 x2 x3 x4 x5 x6 x7 x8 x9 x10 x11 : Option Value} {v : Nat} (q : Nat) (hd : decode M.1 pc = .ok (.aload 12, 2)) (hq : pc + 2 = q) : Jr G M pc (x0 :: x1 :: x2 :: x3 :: x4 :: x5 :: x6 :: x7 :: x8 :: x9 :: x10 :: x11 :: some (.ref v) :: l) st σ Φ ↔ Jr G M q (x0 :: x1 :: x2 :: x3 :: x4 :: x5 :: x6 :: x7 :: x8 :: x9 :: x10 :: x11 :: some (.ref v) :: l) (.ref v :: st) σ Φ := by subst hq; rw [jr_step hd]; simp [jgOp, jgl]
theorem jq_aloadW13 {x0 x1 x2 x3 x4 x5 x6 x7 x8 x9 x10 x11 x12 : Option Value} {v : Nat} (q : Nat) (hd : decode M.1 pc = .ok (.aload 13, 2)) (hq : pc + 2 = q) : Jr G M pc (x0 :: x1 :: x2 :: x3 :: x4 :: x5 :: x6 :: x7 :: x8 :: x9 :: x10 :: x11 :: x12 :: some (.ref v) :: l) st σ Φ ↔ Jr G M q (x0 :: x1 :: x2 :: x3 :: x4 :: x5 :: x6 :: x7 :: x8 :: x9 :: x10 :: x11 :: x12 :: some (.ref v) :: l) (.ref v :: st) σ Φ := by subst hq; rw [jr_step hd]; simp [jgOp, jgl]
theorem jq_aloadW14 {x0 x1 x2 x3 x4 x5 x6 x7 x8 x9 x10 x11 x12 x13 : Option Value} {v : Nat} (q : Nat) (hd : decode M.1 pc = .ok (.aload 14, 2)) (hq : pc + 2 = q) : Jr G M pc (x0 :: x1 :: x2 :: x3 :: x4 :: x5 :: x6 :: x7 :: x8 :: x9 :: x10 :: x11 :: x12 :: x13 :: some (.ref v) :: l) st σ Φ ↔ Jr G M q (x0 :: x1 :: x2 :: x3 :: x4 :: x5 :: x6 :: x7 :: x8 :: x9 :: x10 :: x11 :: x12 :: x13 :: some (.ref v) :: l) (.ref v :: st) σ Φ := by subst hq; rw [jr_step hd]; simp [jgOp, jgl]
theorem jq_aloadW15 {x0 x1 x2 x3 x4 x5 x6 x7 x8 x9 x10 x11 x12 x13 x14 : Option Value} {v : Nat} (q : Nat) (hd : decode M.1 pc = .ok (.aload 15, 2)) (hq : pc + 2 = q) : Jr G M pc (x0 :: x1 :: x2 :: x3 :: x4 :: x5 :: x6 :: x7 :: x8 :: x9 :: x10 :: x11 :: x12 :: x13 :: x14 :: some (.ref v) :: l) st σ Φ ↔ Jr G M q (x0 :: x1 :: x2 :: x3 :: x4 :: x5 :: x6 :: x7 :: x8 :: x9 :: x10 :: x11 :: x12 :: x13 :: x14 :: some (.ref v) :: l) (.ref v :: st) σ Φ := by subst hq; rw [jr_step hd]; simp [jgOp, jgl]
theorem jq_aloadW16 {x0 x1 x2 x3 x4 x5 x6 x7 x8 x9 x10 x11 x12 x13 x14 x15 : Option Value} {v : Nat} (q : Nat) (hd : decode M.1 pc = .ok (.aload 16, 2)) (hq : pc + 2 = q) : Jr G M pc (x0 :: x1 :: x2 :: x3 :: x4 :: x5 :: x6 :: x7 :: x8 :: x9 :: x10 :: x11 :: x12 :: x13 :: x14 :: x15 :: some (.ref v) :: l) st σ Φ ↔ Jr G M q (x0 :: x1 :: x2 :: x3 :: x4 :: x5 :: x6 :: x7 :: x8 :: x9 :: x10 :: x11 :: x12 :: x13 :: x14 :: x15 :: some (.ref v) :: l) (.ref v :: st) σ Φ := by subst hq; rw [jr_step hd]; simp [jgOp, jgl]
theorem jq_aloadW17 {x0 x1 x2 x3 x4 x5 x6 x7 x8 x9 x10 x11 x12 x13 x14 x15 x16 : Option Value} {v : Nat} (q : Nat) (hd : decode M.1 pc = .ok (.aload 17, 2)) (hq : pc + 2 = q) : Jr G M pc (x0 :: x1 :: x2 :: x3 :: x4 :: x5 :: x6 :: x7 :: x8 :: x9 :: x10 :: x11 :: x12 :: x13 :: x14 :: x15 :: x16 :: some (.ref v) :: l) st σ Φ ↔ Jr G M q (x0 :: x1 :: x2 :: x3 :: x4 :: x5 :: x6 :: x7 :: x8 :: x9 :: x10 :: x11 :: x12 :: x13 :: x14 :: x15 :: x16 :: some (.ref v) :: l) (.ref v :: st) σ Φ := by subst hq; rw [jr_step hd]; simp [jgOp, jgl]
theorem jq_lload0 {v : Int64} (q : Nat) (hd : decode M.1 pc = .ok (.lload_n 0, 1)) (hq : pc + 1 = q) : Jr G M pc (some (.long v) :: l) st σ Φ ↔ Jr G M q (some (.long v) :: l) (.long v :: st) σ Φ := by subst hq; rw [jr_step hd]; simp [jgOp, jgl]
theorem jq_lloadW0 {v : Int64} (q : Nat) (hd : decode M.1 pc = .ok (.lload 0, 2)) (hq : pc + 2 = q) : Jr G M pc (some (.long v) :: l) st σ Φ ↔ Jr G M q (some (.long v) :: l) (.long v :: st) σ Φ := by subst hq; rw [jr_step hd]; simp [jgOp, jgl]
theorem jq_lload1 {x0 : Option Value} {v : Int64} (q : Nat) (hd : decode M.1 pc = .ok (.lload_n 1, 1)) (hq : pc + 1 = q) : Jr G M pc (x0 :: some (.long v) :: l) st σ Φ ↔ Jr G M q (x0 :: some (.long v) :: l) (.long v :: st) σ Φ := by subst hq; rw [jr_step hd]; simp [jgOp, jgl]
theorem jq_lloadW1 {x0 : Option Value} {v : Int64} (q : Nat) (hd : decode M.1 pc = .ok (.lload 1, 2)) (hq : pc + 2 = q) : Jr G M pc (x0 :: some (.long v) :: l) st σ Φ ↔ Jr G M q (x0 :: some (.long v) :: l) (.long v :: st) σ Φ := by subst hq; rw [jr_step hd]; simp [jgOp, jgl]
theorem jq_lload2 {x0 x1 : Option Value} {v : Int64} (q : Nat) (hd : decode M.1 pc = .ok (.lload_n 2, 1)) (hq : pc + 1 = q) : Jr G M pc (x0 :: x1 :: some (.long v) :: l) st σ Φ ↔ Jr G M q (x0 :: x1 :: some (.long v) :: l) (.long v :: st) σ Φ := by subst hq; rw [jr_step hd]; simp [jgOp, jgl]
theorem jq_lloadW2 {x0 x1 : Option Value} {v : Int64} (q : Nat) (hd : decode M.1 pc = .ok (.lload 2, 2)) (hq : pc + 2 = q) : Jr G M pc (x0 :: x1 :: some (.long v) :: l) st σ Φ ↔ Jr G M q (x0 :: x1 :: some (.long v) :: l) (.long v :: st) σ Φ := by subst hq; rw [jr_step hd]; simp [jgOp, jgl]
theorem jq_lload3 {x0 x1 x2 : Option Value} {v : Int64} (q : Nat) (hd : decode M.1 pc = .ok (.lload_n 3, 1)) (hq : pc + 1 = q) : Jr G M pc (x0 :: x1 :: x2 :: some (.long v) :: l) st σ Φ ↔ Jr G M q (x0 :: x1 :: x2 :: some (.long v) :: l) (.long v :: st) σ Φ := by subst hq; rw [jr_step hd]; simp [jgOp, jgl]
theorem jq_lloadW3 {x0 x1 x2 : Option Value} {v : Int64} (q : Nat) (hd : decode M.1 pc = .ok (.lload 3, 2)) (hq : pc + 2 = q) : Jr G M pc (x0 :: x1 :: x2 :: some (.long v) :: l) st σ Φ ↔ Jr G M q (x0 :: x1 :: x2 :: some (.long v) :: l) (.long v :: st) σ Φ := by subst hq; rw [jr_step hd]; simp [jgOp, jgl]
theorem jq_dload0 {v : UInt64} (q : Nat) (hd : decode M.1 pc = .ok (.dload_n 0, 1)) (hq : pc + 1 = q) : Jr G M pc (some (.double v) :: l) st σ Φ ↔ Jr G M q (some (.double v) :: l) (.double v :: st) σ Φ := by subst hq; rw [jr_step hd]; simp [jgOp, jgl]
theorem jq_dloadW0 {v : UInt64} (q : Nat) (hd : decode M.1 pc = .ok (.dload 0, 2)) (hq : pc + 2 = q) : Jr G M pc (some (.double v) :: l) st σ Φ ↔ Jr G M q (some (.double v) :: l) (.double v :: st) σ Φ := by subst hq; rw [jr_step hd]; simp [jgOp, jgl]
theorem jq_dload1 {x0 : Option Value} {v : UInt64} (q : Nat) (hd : decode M.1 pc = .ok (.dload_n 1, 1)) (hq : pc + 1 = q) : Jr G M pc (x0 :: some (.double v) :: l) st σ Φ ↔ Jr G M q (x0 :: some (.double v) :: l) (.double v :: st) σ Φ := by subst hq; rw [jr_step hd]; simp [jgOp, jgl]
theorem jq_dloadW1 {x0 : Option Value} {v : UInt64} (q : Nat) (hd : decode M.1 pc = .ok (.dload 1, 2)) (hq : pc + 2 = q) : Jr G M pc (x0 :: some (.double v) :: l) st σ Φ ↔ Jr G M q (x0 :: some (.double v) :: l) (.double v :: st) σ Φ := by subst hq; rw [jr_step hd]; simp [jgOp, jgl]
theorem jq_dload2 {x0 x1 : Option Value} {v : UInt64} (q : Nat) (hd : decode M.1 pc = .ok (.dload_n 2, 1)) (hq : pc + 1 = q) : Jr G M pc (x0 :: x1 :: some (.double v) :: l) st σ Φ ↔ Jr G M q (x0 :: x1 :: some (.double v) :: l) (.double v :: st) σ Φ := by subst hq; rw [jr_step hd]; simp [jgOp, jgl]
theorem jq_dloadW2 {x0 x1 : Option Value} {v : UInt64} (q : Nat) (hd : decode M.1 pc = .ok (.dload 2, 2)) (hq : pc + 2 = q) : Jr G M pc (x0 :: x1 :: some (.double v) :: l) st σ Φ ↔ Jr G M q (x0 :: x1 :: some (.double v) :: l) (.double v :: st) σ Φ := by subst hq; rw [jr_step hd]; simp [jgOp, jgl]
theorem jq_dload3 {x0 x1 x2 : Option Value} {v : UInt64} (q : Nat) (hd : decode M.1 pc = .ok (.dload_n 3, 1)) (hq : pc + 1 = q) : Jr G M pc (x0 :: x1 :: x2 :: some (.double v) :: l) st σ Φ ↔ Jr G M q (x0 :: x1 :: x2 :: some (.double v) :: l) (.double v :: st) σ Φ := by subst hq; rw [jr_step hd]; simp [jgOp, jgl]
theorem jq_dloadW3 {x0 x1 x2 : Option Value} {v : UInt64} (q : Nat) (hd : decode M.1 pc = .ok (.dload 3, 2)) (hq : pc + 2 = q) : Jr G M pc (x0 :: x1 :: x2 :: some (.double v) :: l) st σ Φ ↔ Jr G M q (x0 :: x1 :: x2 :: some (.double v) :: l) (.double v :: st) σ Φ := by subst hq; rw [jr_step hd]; simp [jgOp, jgl]
theorem jq_istore0 {x0 : Option Value} {v : Int32} (q : Nat) (hd : decode M.1 pc = .ok (.istore_n 0, 1)) (hq : pc + 1 = q) : Jr G M pc (x0 :: l) (.int v :: st) σ Φ ↔ Jr G M q (some (.int v) :: l) st σ Φ := by subst hq; rw [jr_step hd]; simp [jgOp, jgl, jgok]
theorem jq_istoreW0 {x0 : Option Value} {v : Int32} (q : Nat) (hd : decode M.1 pc = .ok (.istore 0, 2)) (hq : pc + 2 = q) : Jr G M pc (x0 :: l) (.int v :: st) σ Φ ↔ Jr G M q (some (.int v) :: l) st σ Φ := by subst hq; rw [jr_step hd]; simp [jgOp, jgl, jgok]
theorem jq_istore1 {x0 x1 : Option Value} {v : Int32} (q : Nat) (hd : decode M.1 pc = .ok (.istore_n 1, 1)) (hq : pc + 1 = q) (h : jgc2 x0 = true) : Jr G M pc (x0 :: x1 :: l) (.int v :: st) σ Φ ↔ Jr G M q (x0 :: some (.int v) :: l) st σ Φ := by subst hq; rw [jr_step hd]; simp [jgOp, jgl, jgok, h]
theorem jq_istoreW1 {x0 x1 : Option Value} {v : Int32} (q : Nat) (hd : decode M.1 pc = .ok (.istore 1, 2)) (hq : pc + 2 = q) (h : jgc2 x0 = true) : Jr G M pc (x0 :: x1 :: l) (.int v :: st) σ Φ ↔ Jr G M q (x0 :: some (.int v) :: l) st σ Φ := by subst hq; rw [jr_step hd]; simp [jgOp, jgl, jgok, h]
theorem jq_istore2 {x0 x1 x2 : Option Value} {v : Int32} (q : Nat) (hd : decode M.1 pc = .ok (.istore_n 2, 1)) (hq : pc + 1 = q) (h : jgc2 x1 = true) : Jr G M pc (x0 :: x1 :: x2 :: l) (.int v :: st) σ Φ ↔ Jr G M q (x0 :: x1 :: some (.int v) :: l) st σ Φ := by subst hq; rw [jr_step hd]; simp [jgOp, jgl, jgok, h]
theorem jq_istoreW2 {x0 x1 x2 : Option Value} {v : Int32} (q : Nat) (hd : decode M.1 pc = .ok (.istore 2, 2)) (hq : pc + 2 = q) (h : jgc2 x1 = true) : Jr G M pc (x0 :: x1 :: x2 :: l) (.int v :: st) σ Φ ↔ Jr G M q (x0 :: x1 :: some (.int v) :: l) st σ Φ := by subst hq; rw [jr_step hd]; simp [jgOp, jgl, jgok, h]
theorem jq_istore3 {x0 x1 x2 x3 : Option Value} {v : Int32} (q : Nat) (hd : decode M.1 pc = .ok (.istore_n 3, 1)) (hq : pc + 1 = q) (h : jgc2 x2 = true) : Jr G M pc (x0 :: x1 :: x2 :: x3 :: l) (.int v :: st) σ Φ ↔ Jr G M q (x0 :: x1 :: x2 :: some (.int v) :: l) st σ Φ := by subst hq; rw [jr_step hd]; simp [jgOp, jgl, jgok, h, (show ((3 : Fin 4) : Nat) = 3 from rfl)]
theorem jq_istoreW3 {x0 x1 x2 x3 : Option Value} {v : Int32} (q : Nat) (hd : decode M.1 pc = .ok (.istore 3, 2)) (hq : pc + 2 = q) (h : jgc2 x2 = true) : Jr G M pc (x0 :: x1 :: x2 :: x3 :: l) (.int v :: st) σ Φ ↔ Jr G M q (x0 :: x1 :: x2 :: some (.int v) :: l) st σ Φ := by subst hq; rw [jr_step hd]; simp [jgOp, jgl, jgok, h, (show ((3 : Fin 4) : Nat) = 3 from rfl)]
theorem jq_istoreW4 {x0 x1 x2 x3 x4 : Option Value} {v : Int32} (q : Nat) (hd : decode M.1 pc = .ok (.istore 4, 2)) (hq : pc + 2 = q) (h : jgc2 x3 = true) : Jr G M pc (x0 :: x1 :: x2 :: x3 :: x4 :: l) (.int v :: st) σ Φ ↔ Jr G M q (x0 :: x1 :: x2 :: x3 :: some (.int v) :: l) st σ Φ := by subst hq; rw [jr_step hd]; simp [jgOp, jgl, jgok, h]
theorem jq_istoreW5 {x0 x1 x2 x3 x4 x5 : Option Value} {v : Int32} (q : Nat) (hd : decode M.1 pc = .ok (.istore 5, 2)) (hq : pc + 2 = q) (h : jgc2 x4 = true) : Jr G M pc (x0 :: x1 :: x2 :: x3 :: x4 :: x5 :: l) (.int v :: st) σ Φ ↔ Jr G M q (x0 :: x1 :: x2 :: x3 :: x4 :: some (.int v) :: l) st σ Φ := by subst hq; rw [jr_step hd]; simp [jgOp, jgl, jgok, h]
theorem jq_istoreW6 {x0 x1 x2 x3 x4 x5 x6 : Option Value} {v : Int32} (q : Nat) (hd : decode M.1 pc = .ok (.istore 6, 2)) (hq : pc + 2 = q) (h : jgc2 x5 = true) : Jr G M pc (x0 :: x1 :: x2 :: x3 :: x4 :: x5 :: x6 :: l) (.int v :: st) σ Φ ↔ Jr G M q (x0 :: x1 :: x2 :: x3 :: x4 :: x5 :: some (.int v) :: l) st σ Φ := by subst hq; rw [jr_step hd]; simp [jgOp, jgl, jgok, h]
theorem jq_istoreW7 {x0 x1 x2 x3 x4 x5 x6 x7 : Option Value} {v : Int32} (q : Nat) (hd : decode M.1 pc = .ok (.istore 7, 2)) (hq : pc + 2 = q) (h : jgc2 x6 = true) : Jr G M pc (x0 :: x1 :: x2 :: x3 :: x4 :: x5 :: x6 :: x7 :: l) (.int v :: st) σ Φ ↔ Jr G M q (x0 :: x1 :: x2 :: x3 :: x4 :: x5 :: x6 :: some (.int v) :: l) st σ Φ := by subst hq; rw [jr_step hd]; simp [jgOp, jgl, jgok, h]
theorem jq_istoreW8 {x0 x1 x2 x3 x4 x5 x6 x7 x8 : Option Value} {v : Int32} (q : Nat) (hd : decode M.1 pc = .ok (.istore 8, 2)) (hq : pc + 2 = q) (h : jgc2 x7 = true) : Jr G M pc (x0 :: x1 :: x2 :: x3 :: x4 :: x5 :: x6 :: x7 :: x8 :: l) (.int v :: st) σ Φ ↔ Jr G M q (x0 :: x1 :: x2 :: x3 :: x4 :: x5 :: x6 :: x7 :: some (.int v) :: l) st σ Φ := by subst hq; rw [jr_step hd]; simp [jgOp, jgl, jgok, h]
theorem jq_istoreW9 {x0 x1 x2 x3 x4 x5 x6 x7 x8 x9 : Option Value} {v : Int32} (q : Nat) (hd : decode M.1 pc = .ok (.istore 9, 2)) (hq : pc + 2 = q) (h : jgc2 x8 = true) : Jr G M pc (x0 :: x1 :: x2 :: x3 :: x4 :: x5 :: x6 :: x7 :: x8 :: x9 :: l) (.int v :: st) σ Φ ↔ Jr G M q (x0 :: x1 :: x2 :: x3 :: x4 :: x5 :: x6 :: x7 :: x8 :: some (.int v) :: l) st σ Φ := by subst hq; rw [jr_step hd]; simp [jgOp, jgl, jgok, h]
theorem jq_istoreW10 {x0 x1 x2 x3 x4 x5 x6 x7 x8 x9 x10 : Option Value} {v : Int32} (q : Nat) (hd : decode M.1 pc = .ok (.istore 10, 2)) (hq : pc + 2 = q) (h : jgc2 x9 = true) : Jr G M pc (x0 :: x1 :: x2 :: x3 :: x4 :: x5 :: x6 :: x7 :: x8 :: x9 :: x10 :: l) (.int v :: st) σ Φ ↔ Jr G M q (x0 :: x1 :: x2 :: x3 :: x4 :: x5 :: x6 :: x7 :: x8 :: x9 :: some (.int v) :: l) st σ Φ := by subst hq; rw [jr_step hd]; simp [jgOp, jgl, jgok, h]
theorem jq_istoreW11 {x0 x1 x2 x3 x4 x5 x6 x7 x8 x9 x10 x11 : Option Value} {v : Int32} (q : Nat) (hd : decode M.1 pc = .ok (.istore 11, 2)) (hq : pc + 2 = q) (h : jgc2 x10 = true) : Jr G M pc (x0 :: x1 :: x2 :: x3 :: x4 :: x5 :: x6 :: x7 :: x8 :: x9 :: x10 :: x11 :: l) (.int v :: st) σ Φ ↔ Jr G M q (x0 :: x1 :: x2 :: x3 :: x4 :: x5 :: x6 :: x7 :: x8 :: x9 :: x10 :: some (.int v) :: l) st σ Φ := by subst hq; rw [jr_step hd]; simp [jgOp, jgl, jgok, h]
theorem jq_istoreW12 {x0 x1 x2 x3 x4 x5 x6 x7 x8 x9 x10 x11 x12 : Option Value} {v : Int32} (q : Nat) (hd : decode M.1 pc = .ok (.istore 12, 2)) (hq : pc + 2 = q) (h : jgc2 x11 = true) : Jr G M pc (x0 :: x1 :: x2 :: x3 :: x4 :: x5 :: x6 :: x7 :: x8 :: x9 :: x10 :: x11 :: x12 :: l) (.int v :: st) σ Φ ↔ Jr G M q (x0 :: x1 :: x2 :: x3 :: x4 :: x5 :: x6 :: x7 :: x8 :: x9 :: x10 :: x11 :: some (.int v) :: l) st σ Φ := by subst hq; rw [jr_step hd]; simp [jgOp, jgl, jgok, h]
theorem jq_istoreW13 {x0 x1 x2 x3 x4 x5 x6 x7 x8 x9 x10 x11 x12 x13 : Option Value} {v : Int32} (q : Nat) (hd : decode M.1 pc = .ok (.istore 13, 2)) (hq : pc + 2 = q) (h : jgc2 x12 = true) : Jr G M pc (x0 :: x1 :: x2 :: x3 :: x4 :: x5 :: x6 :: x7 :: x8 :: x9 :: x10 :: x11 :: x12 :: x13 :: l) (.int v :: st) σ Φ ↔ Jr G M q (x0 :: x1 :: x2 :: x3 :: x4 :: x5 :: x6 :: x7 :: x8 :: x9 :: x10 :: x11 :: x12 :: some (.int v) :: l) st σ Φ := by subst hq; rw [jr_step hd]; simp [jgOp, jgl, jgok, h]
theorem jq_istoreW14 {x0 x1 x2 x3 x4 x5 x6 x7 x8 x9 x10 x11 x12 x13 x14 : Option Value} {v : Int32} (q : Nat) (hd : decode M.1 pc = .ok (.istore 14, 2)) (hq : pc + 2 = q) (h : jgc2 x13 = true) : Jr G M pc (x0 :: x1 :: x2 :: x3 :: x4 :: x5 :: x6 :: x7 :: x8 :: x9 :: x10 :: x11 :: x12 :: x13 :: x14 :: l) (.int v :: st) σ Φ ↔ Jr G M q (x0 :: x1 :: x2 :: x3 :: x4 :: x5 :: x6 :: x7 :: x8 :: x9 :: x10 :: x11 :: x12 :: x13 :: some (.int v) :: l) st σ Φ := by subst hq; rw [jr_step hd]; simp [jgOp, jgl, jgok, h]
theorem jq_istoreW15 {x0 x1 x2 x3 x4 x5 x6 x7 x8 x9 x10 x11 x12 x13 x14 x15 : Option Value} {v : Int32} (q : Nat) (hd : decode M.1 pc = .ok (.istore 15, 2)) (hq : pc + 2 = q) (h : jgc2 x14 = true) : Jr G M pc (x0 :: x1 :: x2 :: x3 :: x4 :: x5 :: x6 :: x7 :: x8 :: x9 :: x10 :: x11 :: x12 :: x13 :: x14 :: x15 :: l) (.int v :: st) σ Φ ↔ Jr G M q (x0 :: x1 :: x2 :: x3 :: x4 :: x5 :: x6 :: x7 :: x8 :: x9 :: x10 :: x11 :: x12 :: x13 :: x14 :: some (.int v) :: l) st σ Φ := by subst hq; rw [jr_step hd]; simp [jgOp, jgl, jgok, h]
theorem jq_istoreW16 {x0 x1 x2 x3 x4 x5 x6 x7 x8 x9 x10 x11 x12 x13 x14 x15 x16 : Option Value} {v : Int32} (q : Nat) (hd : decode M.1 pc = .ok (.istore 16, 2)) (hq : pc + 2 = q) (h : jgc2 x15 = true) : Jr G M pc (x0 :: x1 :: x2 :: x3 :: x4 :: x5 :: x6 :: x7 :: x8 :: x9 :: x10 :: x11 :: x12 :: x13 :: x14 :: x15 :: x16 :: l) (.int v :: st) σ Φ ↔ Jr G M q (x0 :: x1 :: x2 :: x3 :: x4 :: x5 :: x6 :: x7 :: x8 :: x9 :: x10 :: x11 :: x12 :: x13 :: x14 :: x15 :: some (.int v) :: l) st σ Φ := by subst hq; rw [jr_step hd]; simp [jgOp, jgl, jgok, h]
theorem jq_istoreW17 {x0 x1 x2 x3 x4 x5 x6 x7 x8 x9 x10 x11 x12 x13 x14 x15 x16 x17 : Option Value} {v : Int32} (q : Nat) (hd : decode M.1 pc = .ok (.istore 17, 2)) (hq : pc + 2 = q) (h : jgc2 x16 = true) : Jr G M pc (x0 :: x1 :: x2 :: x3 :: x4 :: x5 :: x6 :: x7 :: x8 :: x9 :: x10 :: x11 :: x12 :: x13 :: x14 :: x15 :: x16 :: x17 :: l) (.int v :: st) σ Φ ↔ Jr G M q (x0 :: x1 :: x2 :: x3 :: x4 :: x5 :: x6 :: x7 :: x8 :: x9 :: x10 :: x11 :: x12 :: x13 :: x14 :: x15 :: x16 :: some (.int v) :: l) st σ Φ := by subst hq; rw [jr_step hd]; simp [jgOp, jgl, jgok, h]
theorem jq_astore0 {x0 : Option Value} {v : Nat} (q : Nat) (hd : decode M.1 pc = .ok (.astore_n 0, 1)) (hq : pc + 1 = q) : Jr G M pc (x0 :: l) (.ref v :: st) σ Φ ↔ Jr G M q (some (.ref v) :: l) st σ Φ := by subst hq; rw [jr_step hd]; simp [jgOp, jgl, jgok]
theorem jq_astoreW0 {x0 : Option Value} {v : Nat} (q : Nat) (hd : decode M.1 pc = .ok (.astore 0, 2)) (hq : pc + 2 = q) : Jr G M pc (x0 :: l) (.ref v :: st) σ Φ ↔ Jr G M q (some (.ref v) :: l) st σ Φ := by subst hq; rw [jr_step hd]; simp [jgOp, jgl, jgok]
theorem jq_astore1 {x0 x1 : Option Value} {v : Nat} (q : Nat) (hd : decode M.1 pc = .ok (.astore_n 1, 1)) (hq : pc + 1 = q) (h : jgc2 x0 = true) : Jr G M pc (x0 :: x1 :: l) (.ref v :: st) σ Φ ↔ Jr G M q (x0 :: some (.ref v) :: l) st σ Φ := by subst hq; rw [jr_step hd]; simp [jgOp, jgl, jgok, h]
theorem jq_astoreW1 {x0 x1 : Option Value} {v : Nat} (q : Nat) (hd : decode M.1 pc = .ok (.astore 1, 2)) (hq : pc + 2 = q) (h : jgc2 x0 = true) : Jr G M pc (x0 :: x1 :: l) (.ref v :: st) σ Φ ↔ Jr G M q (x0 :: some (.ref v) :: l) st σ Φ := by subst hq; rw [jr_step hd]; simp [jgOp, jgl, jgok, h]
theorem jq_astore2 {x0 x1 x2 : Option Value} {v : Nat} (q : Nat) (hd : decode M.1 pc = .ok (.astore_n 2, 1)) (hq : pc + 1 = q) (h : jgc2 x1 = true) : Jr G M pc (x0 :: x1 :: x2 :: l) (.ref v :: st) σ Φ ↔ Jr G M q (x0 :: x1 :: some (.ref v) :: l) st σ Φ := by subst hq; rw [jr_step hd]; simp [jgOp, jgl, jgok, h]
theorem jq_astoreW2 {x0 x1 x2 : Option Value} {v : Nat} (q : Nat) (hd : decode M.1 pc = .ok (.astore 2, 2)) (hq : pc + 2 = q) (h : jgc2 x1 = true) : Jr G M pc (x0 :: x1 :: x2 :: l) (.ref v :: st) σ Φ ↔ Jr G M q (x0 :: x1 :: some (.ref v) :: l) st σ Φ := by subst hq; rw [jr_step hd]; simp [jgOp, jgl, jgok, h]
theorem jq_astore3 {x0 x1 x2 x3 : Option Value} {v : Nat} (q : Nat) (hd : decode M.1 pc = .ok (.astore_n 3, 1)) (hq : pc + 1 = q) (h : jgc2 x2 = true) : Jr G M pc (x0 :: x1 :: x2 :: x3 :: l) (.ref v :: st) σ Φ ↔ Jr G M q (x0 :: x1 :: x2 :: some (.ref v) :: l) st σ Φ := by subst hq; rw [jr_step hd]; simp [jgOp, jgl, jgok, h, (show ((3 : Fin 4) : Nat) = 3 from rfl)]
theorem jq_astoreW3 {x0 x1 x2 x3 : Option Value} {v : Nat} (q : Nat) (hd : decode M.1 pc = .ok (.astore 3, 2)) (hq : pc + 2 = q) (h : jgc2 x2 = true) : Jr G M pc (x0 :: x1 :: x2 :: x3 :: l) (.ref v :: st) σ Φ ↔ Jr G M q (x0 :: x1 :: x2 :: some (.ref v) :: l) st σ Φ := by subst hq; rw [jr_step hd]; simp [jgOp, jgl, jgok, h, (show ((3 : Fin 4) : Nat) = 3 from rfl)]
theorem jq_astoreW4 {x0 x1 x2 x3 x4 : Option Value} {v : Nat} (q : Nat) (hd : decode M.1 pc = .ok (.astore 4, 2)) (hq : pc + 2 = q) (h : jgc2 x3 = true) : Jr G M pc (x0 :: x1 :: x2 :: x3 :: x4 :: l) (.ref v :: st) σ Φ ↔ Jr G M q (x0 :: x1 :: x2 :: x3 :: some (.ref v) :: l) st σ Φ := by subst hq; rw [jr_step hd]; simp [jgOp, jgl, jgok, h]
theorem jq_astoreW5 {x0 x1 x2 x3 x4 x5 : Option Value} {v : Nat} (q : Nat) (hd : decode M.1 pc = .ok (.astore 5, 2)) (hq : pc + 2 = q) (h : jgc2 x4 = true) : Jr G M pc (x0 :: x1 :: x2 :: x3 :: x4 :: x5 :: l) (.ref v :: st) σ Φ ↔ Jr G M q (x0 :: x1 :: x2 :: x3 :: x4 :: some (.ref v) :: l) st σ Φ := by subst hq; rw [jr_step hd]; simp [jgOp, jgl, jgok, h]
theorem jq_astoreW6 {x0 x1 x2 x3 x4 x5 x6 : Option Value} {v : Nat} (q : Nat) (hd : decode M.1 pc = .ok (.astore 6, 2)) (hq : pc + 2 = q) (h : jgc2 x5 = true) : Jr G M pc (x0 :: x1 :: x2 :: x3 :: x4 :: x5 :: x6 :: l) (.ref v :: st) σ Φ ↔ Jr G M q (x0 :: x1 :: x2 :: x3 :: x4 :: x5 :: some (.ref v) :: l) st σ Φ := by subst hq; rw [jr_step hd]; simp [jgOp, jgl, jgok, h]
theorem jq_astoreW7 {x0 x1 x2 x3 x4 x5 x6 x7 : Option Value} {v : Nat} (q : Nat) (hd : decode M.1 pc = .ok (.astore 7, 2)) (hq : pc + 2 = q) (h : jgc2 x6 = true) : Jr G M pc (x0 :: x1 :: x2 :: x3 :: x4 :: x5 :: x6 :: x7 :: l) (.ref v :: st) σ Φ ↔ Jr G M q (x0 :: x1 :: x2 :: x3 :: x4 :: x5 :: x6 :: some (.ref v) :: l) st σ Φ := by subst hq; rw [jr_step hd]; simp [jgOp, jgl, jgok, h]
theorem jq_astoreW8 {x0 x1 x2 x3 x4 x5 x6 x7 x8 : Option Value} {v : Nat} (q : Nat) (hd : decode M.1 pc = .ok (.astore 8, 2)) (hq : pc + 2 = q) (h : jgc2 x7 = true) : Jr G M pc (x0 :: x1 :: x2 :: x3 :: x4 :: x5 :: x6 :: x7 :: x8 :: l) (.ref v :: st) σ Φ ↔ Jr G M q (x0 :: x1 :: x2 :: x3 :: x4 :: x5 :: x6 :: x7 :: some (.ref v) :: l) st σ Φ := by subst hq; rw [jr_step hd]; simp [jgOp, jgl, jgok, h]
theorem jq_astoreW9 {x0 x1 x2 x3 x4 x5 x6 x7 x8 x9 : Option Value} {v : Nat} (q : Nat) (hd : decode M.1 pc = .ok (.astore 9, 2)) (hq : pc + 2 = q) (h : jgc2 x8 = true) : Jr G M pc (x0 :: x1 :: x2 :: x3 :: x4 :: x5 :: x6 :: x7 :: x8 :: x9 :: l) (.ref v :: st) σ Φ ↔ Jr G M q (x0 :: x1 :: x2 :: x3 :: x4 :: x5 :: x6 :: x7 :: x8 :: some (.ref v) :: l) st σ Φ := by subst hq; rw [jr_step hd]; simp [jgOp, jgl, jgok, h]
theorem jq_astoreW10 {x0 x1 x2 x3 x4 x5 x6 x7 x8 x9 x10 : Option Value} {v : Nat} (q : Nat) (hd : decode M.1 pc = .ok (.astore 10, 2)) (hq : pc + 2 = q) (h : jgc2 x9 = true) : Jr G M pc (x0 :: x1 :: x2 :: x3 :: x4 :: x5 :: x6 :: x7 :: x8 :: x9 :: x10 :: l) (.ref v :: st) σ Φ ↔ Jr G M q (x0 :: x1 :: x2 :: x3 :: x4 :: x5 :: x6 :: x7 :: x8 :: x9 :: some (.ref v) :: l) st σ Φ := by subst hq; rw [jr_step hd]; simp [jgOp, jgl, jgok, h]
theorem jq_astoreW11 {x0 x1 x2 x3 x4 x5 x6 x7 x8 x9 x10 x11 : Option Value} {v : Nat} (q : Nat) (hd : decode M.1 pc = .ok (.astore 11, 2)) (hq : pc + 2 = q) (h : jgc2 x10 = true) : Jr G M pc (x0 :: x1 :: x2 :: x3 :: x4 :: x5 :: x6 :: x7 :: x8 :: x9 :: x10 :: x11 :: l) (.ref v :: st) σ Φ ↔ Jr G M q (x0 :: x1 :: x2 :: x3 :: x4 :: x5 :: x6 :: x7 :: x8 :: x9 :: x10 :: some (.ref v) :: l) st σ Φ := by subst hq; rw [jr_step hd]; simp [jgOp, jgl, jgok, h]
theorem jq_astoreW12 {x0 x1 x2 x3 x4 x5 x6 x7 x8 x9 x10 x11 x12 : Option Value} {v : Nat} (q : Nat) (hd : decode M.1 pc = .ok (.astore 12, 2)) (hq : pc + 2 = q) (h : jgc2 x11 = true) : Jr G M pc (x0 :: x1 :: x2 :: x3 :: x4 :: x5 :: x6 :: x7 :: x8 :: x9 :: x10 :: x11 :: x12 :: l) (.ref v :: st) σ Φ ↔ Jr G M q (x0 :: x1 :: x2 :: x3 :: x4 :: x5 :: x6 :: x7 :: x8 :: x9 :: x10 :: x11 :: some (.ref v) :: l) st σ Φ := by subst hq; rw [jr_step hd]; simp [jgOp, jgl, jgok, h]
theorem jq_astoreW13 {x0 x1 x2 x3 x4 x5 x6 x7 x8 x9 x10 x11 x12 x13 : Option Value} {v : Nat} (q : Nat) (hd : decode M.1 pc = .ok (.astore 13, 2)) (hq : pc + 2 = q) (h : jgc2 x12 = true) : Jr G M pc (x0 :: x1 :: x2 :: x3 :: x4 :: x5 :: x6 :: x7 :: x8 :: x9 :: x10 :: x11 :: x12 :: x13 :: l) (.ref v :: st) σ Φ ↔ Jr G M q (x0 :: x1 :: x2 :: x3 :: x4 :: x5 :: x6 :: x7 :: x8 :: x9 :: x10 :: x11 :: x12 :: some (.ref v) :: l) st σ Φ := by subst hq; rw [jr_step hd]; simp [jgOp, jgl, jgok, h]
theorem jq_astoreW14 {x0 x1 x2 x3 x4 x5 x6 x7 x8 x9 x10 x11 x12 x13 x14 : Option Value} {v : Nat} (q : Nat) (hd : decode M.1 pc = .ok (.astore 14, 2)) (hq : pc + 2 = q) (h : jgc2 x13 = true) : Jr G M pc (x0 :: x1 :: x2 :: x3 :: x4 :: x5 :: x6 :: x7 :: x8 :: x9 :: x10 :: x11 :: x12 :: x13 :: x14 :: l) (.ref v :: st) σ Φ ↔ Jr G M q (x0 :: x1 :: x2 :: x3 :: x4 :: x5 :: x6 :: x7 :: x8 :: x9 :: x10 :: x11 :: x12 :: x13 :: some (.ref v) :: l) st σ Φ := by subst hq; rw [jr_step hd]; simp [jgOp, jgl, jgok, h]
theorem jq_astoreW15 {x0 x1 x2 x3 x4 x5 x6 x7 x8 x9 x10 x11 x12 x13 x14 x15 : Option Value} {v : Nat} (q : Nat) (hd : decode M.1 pc = .ok (.astore 15, 2)) (hq : pc + 2 = q) (h : jgc2 x14 = true) : Jr G M pc (x0 :: x1 :: x2 :: x3 :: x4 :: x5 :: x6 :: x7 :: x8 :: x9 :: x10 :: x11 :: x12 :: x13 :: x14 :: x15 :: l) (.ref v :: st) σ Φ ↔ Jr G M q (x0 :: x1 :: x2 :: x3 :: x4 :: x5 :: x6 :: x7 :: x8 :: x9 :: x10 :: x11 :: x12 :: x13 :: x14 :: some (.ref v) :: l) st σ Φ := by subst hq; rw [jr_step hd]; simp [jgOp, jgl, jgok, h]
theorem jq_astoreW16 {x0 x1 x2 x3 x4 x5 x6 x7 x8 x9 x10 x11 x12 x13 x14 x15 x16 : Option Value} {v : Nat} (q : Nat) (hd : decode M.1 pc = .ok (.astore 16, 2)) (hq : pc + 2 = q) (h : jgc2 x15 = true) : Jr G M pc (x0 :: x1 :: x2 :: x3 :: x4 :: x5 :: x6 :: x7 :: x8 :: x9 :: x10 :: x11 :: x12 :: x13 :: x14 :: x15 :: x16 :: l) (.ref v :: st) σ Φ ↔ Jr G M q (x0 :: x1 :: x2 :: x3 :: x4 :: x5 :: x6 :: x7 :: x8 :: x9 :: x10 :: x11 :: x12 :: x13 :: x14 :: x15 :: some (.ref v) :: l) st σ Φ := by subst hq; rw [jr_step hd]; simp [jgOp, jgl, jgok, h]
theorem jq_astoreW17 {x0 x1 x2 x3 x4 x5 x6 x7 x8 x9 x10 x11 x12 x13 x14 x15 x16 x17 : Option Value} {v : Nat} (q : Nat) (hd : decode M.1 pc = .ok (.astore 17, 2)) (hq : pc + 2 = q) (h : jgc2 x16 = true) : Jr G M pc (x0 :: x1 :: x2 :: x3 :: x4 :: x5 :: x6 :: x7 :: x8 :: x9 :: x10 :: x11 :: x12 :: x13 :: x14 :: x15 :: x16 :: x17 :: l) (.ref v :: st) σ Φ ↔ Jr G M q (x0 :: x1 :: x2 :: x3 :: x4 :: x5 :: x6 :: x7 :: x8 :: x9 :: x10 :: x11 :: x12 :: x13 :: x14 :: x15 :: x16 :: some (.ref v) :: l) st σ Φ := by subst hq; rw [jr_step hd]; simp [jgOp, jgl, jgok, h]
theorem jq_lstore0 {x0 x1 : Option Value} {v : Int64} (q : Nat) (hd : decode M.1 pc = .ok (.lstore_n 0, 1)) (hq : pc + 1 = q) : Jr G M pc (x0 :: x1 :: l) (.long v :: st) σ Φ ↔ Jr G M q (some (.long v) :: none :: l) st σ Φ := by subst hq; rw [jr_step hd]; simp [jgOp, jgl, jgok]
theorem jq_lstoreW0 {x0 x1 : Option Value} {v : Int64} (q : Nat) (hd : decode M.1 pc = .ok (.lstore 0, 2)) (hq : pc + 2 = q) : Jr G M pc (x0 :: x1 :: l) (.long v :: st) σ Φ ↔ Jr G M q (some (.long v) :: none :: l) st σ Φ := by subst hq; rw [jr_step hd]; simp [jgOp, jgl, jgok]
theorem jq_lstore1 {x0 x1 x2 : Option Value} {v : Int64} (q : Nat) (hd : decode M.1 pc = .ok (.lstore_n 1, 1)) (hq : pc + 1 = q) (h : jgc2 x0 = true) : Jr G M pc (x0 :: x1 :: x2 :: l) (.long v :: st) σ Φ ↔ Jr G M q (x0 :: some (.long v) :: none :: l) st σ Φ := by subst hq; rw [jr_step hd]; simp [jgOp, jgl, jgok, h]
theorem jq_lstoreW1 {x0 x1 x2 : Option Value} {v : Int64} (q : Nat) (hd : decode M.1 pc = .ok (.lstore 1, 2)) (hq : pc + 2 = q) (h : jgc2 x0 = true) : Jr G M pc (x0 :: x1 :: x2 :: l) (.long v :: st) σ Φ ↔ Jr G M q (x0 :: some (.long v) :: none :: l) st σ Φ := by subst hq; rw [jr_step hd]; simp [jgOp, jgl, jgok, h]
theorem jq_lstore2 {x0 x1 x2 x3 : Option Value} {v : Int64} (q : Nat) (hd : decode M.1 pc = .ok (.lstore_n 2, 1)) (hq : pc + 1 = q) (h : jgc2 x1 = true) : Jr G M pc (x0 :: x1 :: x2 :: x3 :: l) (.long v :: st) σ Φ ↔ Jr G M q (x0 :: x1 :: some (.long v) :: none :: l) st σ Φ := by subst hq; rw [jr_step hd]; simp [jgOp, jgl, jgok, h]
theorem jq_lstoreW2 {x0 x1 x2 x3 : Option Value} {v : Int64} (q : Nat) (hd : decode M.1 pc = .ok (.lstore 2, 2)) (hq : pc + 2 = q) (h : jgc2 x1 = true) : Jr G M pc (x0 :: x1 :: x2 :: x3 :: l) (.long v :: st) σ Φ ↔ Jr G M q (x0 :: x1 :: some (.long v) :: none :: l) st σ Φ := by subst hq; rw [jr_step hd]; simp [jgOp, jgl, jgok, h]
theorem jq_dstore0 {x0 x1 : Option Value} {v : UInt64} (q : Nat) (hd : decode M.1 pc = .ok (.dstore_n 0, 1)) (hq : pc + 1 = q) : Jr G M pc (x0 :: x1 :: l) (.double v :: st) σ Φ ↔ Jr G M q (some (.double v) :: none :: l) st σ Φ := by subst hq; rw [jr_step hd]; simp [jgOp, jgl, jgok]
theorem jq_dstoreW0 {x0 x1 : Option Value} {v : UInt64} (q : Nat) (hd : decode M.1 pc = .ok (.dstore 0, 2)) (hq : pc + 2 = q) : Jr G M pc (x0 :: x1 :: l) (.double v :: st) σ Φ ↔ Jr G M q (some (.double v) :: none :: l) st σ Φ := by subst hq; rw [jr_step hd]; simp [jgOp, jgl, jgok]
theorem jq_dstore1 {x0 x1 x2 : Option Value} {v : UInt64} (q : Nat) (hd : decode M.1 pc = .ok (.dstore_n 1, 1)) (hq : pc + 1 = q) (h : jgc2 x0 = true) : Jr G M pc (x0 :: x1 :: x2 :: l) (.double v :: st) σ Φ ↔ Jr G M q (x0 :: some (.double v) :: none :: l) st σ Φ := by subst hq; rw [jr_step hd]; simp [jgOp, jgl, jgok, h]
theorem jq_dstoreW1 {x0 x1 x2 : Option Value} {v : UInt64} (q : Nat) (hd : decode M.1 pc = .ok (.dstore 1, 2)) (hq : pc + 2 = q) (h : jgc2 x0 = true) : Jr G M pc (x0 :: x1 :: x2 :: l) (.double v :: st) σ Φ ↔ Jr G M q (x0 :: some (.double v) :: none :: l) st σ Φ := by subst hq; rw [jr_step hd]; simp [jgOp, jgl, jgok, h]
theorem jq_dstore2 {x0 x1 x2 x3 : Option Value} {v : UInt64} (q : Nat) (hd : decode M.1 pc = .ok (.dstore_n 2, 1)) (hq : pc + 1 = q) (h : jgc2 x1 = true) : Jr G M pc (x0 :: x1 :: x2 :: x3 :: l) (.double v :: st) σ Φ ↔ Jr G M q (x0 :: x1 :: some (.double v) :: none :: l) st σ Φ := by subst hq; rw [jr_step hd]; simp [jgOp, jgl, jgok, h]
theorem jq_dstoreW2 {x0 x1 x2 x3 : Option Value} {v : UInt64} (q : Nat) (hd : decode M.1 pc = .ok (.dstore 2, 2)) (hq : pc + 2 = q) (h : jgc2 x1 = true) : Jr G M pc (x0 :: x1 :: x2 :: x3 :: l) (.double v :: st) σ Φ ↔ Jr G M q (x0 :: x1 :: some (.double v) :: none :: l) st σ Φ := by subst hq; rw [jr_step hd]; simp [jgOp, jgl, jgok, h]
theorem jq_iinc0 {v : Int32} {n : Int} (w : Int32) (q : Nat) (hd : decode M.1 pc = .ok (.iinc 0 n, 3)) (hw : Int32.ofInt n = w) (hq : pc + 3 = q) : Jr G M pc (some (.int v) :: l) st σ Φ ↔ Jr G M q (some (.int (v + w)) :: l) st σ Φ := by subst hq; subst hw; rw [jr_step hd]; simp [jgOp, jgl, jgok]
theorem jq_iinc1 {x0 : Option Value} {v : Int32} {n : Int} (w : Int32) (q : Nat) (hd : decode M.1 pc = .ok (.iinc 1 n, 3)) (hw : Int32.ofInt n = w) (hq : pc + 3 = q) (h : jgc2 x0 = true) : Jr G M pc (x0 :: some (.int v) :: l) st σ Φ ↔ Jr G M q (x0 :: some (.int (v + w)) :: l) st σ Φ := by subst hq; subst hw; rw [jr_step hd]; simp [jgOp, jgl, jgok, h]
theorem jq_iinc2 {x0 x1 : Option Value} {v : Int32} {n : Int} (w : Int32) (q : Nat) (hd : decode M.1 pc = .ok (.iinc 2 n, 3)) (hw : Int32.ofInt n = w) (hq : pc + 3 = q) (h : jgc2 x1 = true) : Jr G M pc (x0 :: x1 :: some (.int v) :: l) st σ Φ ↔ Jr G M q (x0 :: x1 :: some (.int (v + w)) :: l) st σ Φ := by subst hq; subst hw; rw [jr_step hd]; simp [jgOp, jgl, jgok, h]
theorem jq_iinc3 {x0 x1 x2 : Option Value} {v : Int32} {n : Int} (w : Int32) (q : Nat) (hd : decode M.1 pc = .ok (.iinc 3 n, 3)) (hw : Int32.ofInt n = w) (hq : pc + 3 = q) (h : jgc2 x2 = true) : Jr G M pc (x0 :: x1 :: x2 :: some (.int v) :: l) st σ Φ ↔ Jr G M q (x0 :: x1 :: x2 :: some (.int (v + w)) :: l) st σ Φ := by subst hq; subst hw; rw [jr_step hd]; simp [jgOp, jgl, jgok, h, (show ((3 : Fin 4) : Nat) = 3 from rfl)]
theorem jq_iinc4 {x0 x1 x2 x3 : Option Value} {v : Int32} {n : Int} (w : Int32) (q : Nat) (hd : decode M.1 pc = .ok (.iinc 4 n, 3)) (hw : Int32.ofInt n = w) (hq : pc + 3 = q) (h : jgc2 x3 = true) : Jr G M pc (x0 :: x1 :: x2 :: x3 :: some (.int v) :: l) st σ Φ ↔ Jr G M q (x0 :: x1 :: x2 :: x3 :: some (.int (v + w)) :: l) st σ Φ := by subst hq; subst hw; rw [jr_step hd]; simp [jgOp, jgl, jgok, h]
theorem jq_iinc5 {x0 x1 x2 x3 x4 : Option Value} {v : Int32} {n : Int} (w : Int32) (q : Nat) (hd : decode M.1 pc = .ok (.iinc 5 n, 3)) (hw : Int32.ofInt n = w) (hq : pc + 3 = q) (h : jgc2 x4 = true) : Jr G M pc (x0 :: x1 :: x2 :: x3 :: x4 :: some (.int v) :: l) st σ Φ ↔ Jr G M q (x0 :: x1 :: x2 :: x3 :: x4 :: some (.int (v + w)) :: l) st σ Φ := by subst hq; subst hw; rw [jr_step hd]; simp [jgOp, jgl, jgok, h]
theorem jq_iinc6 {x0 x1 x2 x3 x4 x5 : Option Value} {v : Int32} {n : Int} (w : Int32) (q : Nat) (hd : decode M.1 pc = .ok (.iinc 6 n, 3)) (hw : Int32.ofInt n = w) (hq : pc + 3 = q) (h : jgc2 x5 = true) : Jr G M pc (x0 :: x1 :: x2 :: x3 :: x4 :: x5 :: some (.int v) :: l) st σ Φ ↔ Jr G M q (x0 :: x1 :: x2 :: x3 :: x4 :: x5 :: some (.int (v + w)) :: l) st σ Φ := by subst hq; subst hw; rw [jr_step hd]; simp [jgOp, jgl, jgok, h]
theorem jq_iinc7 {x0 x1 x2 x3 x4 x5 x6 : Option Value} {v : Int32} {n : Int} (w : Int32) (q : Nat) (hd : decode M.1 pc = .ok (.iinc 7 n, 3)) (hw : Int32.ofInt n = w) (hq : pc + 3 = q) (h : jgc2 x6 = true) : Jr G M pc (x0 :: x1 :: x2 :: x3 :: x4 :: x5 :: x6 :: some (.int v) :: l) st σ Φ ↔ Jr G M q (x0 :: x1 :: x2 :: x3 :: x4 :: x5 :: x6 :: some (.int (v + w)) :: l) st σ Φ := by subst hq; subst hw; rw [jr_step hd]; simp [jgOp, jgl, jgok, h]
theorem jq_iinc8 {x0 x1 x2 x3 x4 x5 x6 x7 : Option Value} {v : Int32} {n : Int} (w : Int32) (q : Nat) (hd : decode M.1 pc = .ok (.iinc 8 n, 3)) (hw : Int32.ofInt n = w) (hq : pc + 3 = q) (h : jgc2 x7 = true) : Jr G M pc (x0 :: x1 :: x2 :: x3 :: x4 :: x5 :: x6 :: x7 :: some (.int v) :: l) st σ Φ ↔ Jr G M q (x0 :: x1 :: x2 :: x3 :: x4 :: x5 :: x6 :: x7 :: some (.int (v + w)) :: l) st σ Φ := by subst hq; subst hw; rw [jr_step hd]; simp [jgOp, jgl, jgok, h]
theorem jq_iinc9 {x0 x1 x2 x3 x4 x5 x6 x7 x8 : Option Value} {v : Int32} {n : Int} (w : Int32) (q : Nat) (hd : decode M.1 pc = .ok (.iinc 9 n, 3)) (hw : Int32.ofInt n = w) (hq : pc + 3 = q) (h : jgc2 x8 = true) : Jr G M pc (x0 :: x1 :: x2 :: x3 :: x4 :: x5 :: x6 :: x7 :: x8 :: some (.int v) :: l) st σ Φ ↔ Jr G M q (x0 :: x1 :: x2 :: x3 :: x4 :: x5 :: x6 :: x7 :: x8 :: some (.int (v + w)) :: l) st σ Φ := by subst hq; subst hw; rw [jr_step hd]; simp [jgOp, jgl, jgok, h]
theorem jq_iinc10 {x0 x1 x2 x3 x4 x5 x6 x7 x8 x9 : Option Value} {v : Int32} {n : Int} (w : Int32) (q : Nat) (hd : decode M.1 pc = .ok (.iinc 10 n, 3)) (hw : Int32.ofInt n = w) (hq : pc + 3 = q) (h : jgc2 x9 = true) : Jr G M pc (x0 :: x1 :: x2 :: x3 :: x4 :: x5 :: x6 :: x7 :: x8 :: x9 :: some (.int v) :: l) st σ Φ ↔ Jr G M q (x0 :: x1 :: x2 :: x3 :: x4 :: x5 :: x6 :: x7 :: x8 :: x9 :: some (.int (v + w)) :: l) st σ Φ := by subst hq; subst hw; rw [jr_step hd]; simp [jgOp, jgl, jgok, h]
theorem jq_iinc11 {x0 x1 x2 x3 x4 x5 x6 x7 x8 x9 x10 : Option Value} {v : Int32} {n : Int} (w : Int32) (q : Nat) (hd : decode M.1 pc = .ok (.iinc 11 n, 3)) (hw : Int32.ofInt n = w) (hq : pc + 3 = q) (h : jgc2 x10 = true) : Jr G M pc (x0 :: x1 :: x2 :: x3 :: x4 :: x5 :: x6 :: x7 :: x8 :: x9 :: x10 :: some (.int v) :: l) st σ Φ ↔ Jr G M q (x0 :: x1 :: x2 :: x3 :: x4 :: x5 :: x6 :: x7 :: x8 :: x9 :: x10 :: some (.int (v + w)) :: l) st σ Φ := by subst hq; subst hw; rw [jr_step hd]; simp [jgOp, jgl, jgok, h]
theorem jq_iinc12 {x0 x1 x2 x3 x4 x5 x6 x7 x8 x9 x10 x11 : Option Value} {v : Int32} {n : Int} (w : Int32) (q : Nat) (hd : decode M.1 pc = .ok (.iinc 12 n, 3)) (hw : Int32.ofInt n = w) (hq : pc + 3 = q) (h : jgc2 x11 = true) : Jr G M pc (x0 :: x1 :: x2 :: x3 :: x4 :: x5 :: x6 :: x7 :: x8 :: x9 :: x10 :: x11 :: some (.int v) :: l) st σ Φ ↔ Jr G M q (x0 :: x1 :: x2 :: x3 :: x4 :: x5 :: x6 :: x7 :: x8 :: x9 :: x10 :: x11 :: some (.int (v + w)) :: l) st σ Φ := by subst hq; subst hw; rw [jr_step hd]; simp [jgOp, jgl, jgok, h]
theorem jq_iinc13 {x0 x1 x2 x3 x4 x5 x6 x7 x8 x9 x10 x11 x12 : Option Value} {v : Int32} {n : Int} (w : Int32) (q : Nat) (hd : decode M.1 pc = .ok (.iinc 13 n, 3)) (hw : Int32.ofInt n = w) (hq : pc + 3 = q) (h : jgc2 x12 = true) : Jr G M pc (x0 :: x1 :: x2 :: x3 :: x4 :: x5 :: x6 :: x7 :: x8 :: x9 :: x10 :: x11 :: x12 :: some (.int v) :: l) st σ Φ ↔ Jr G M q (x0 :: x1 :: x2 :: x3 :: x4 :: x5 :: x6 :: x7 :: x8 :: x9 :: x10 :: x11 :: x12 :: some (.int (v + w)) :: l) st σ Φ := by subst hq; subst hw; rw [jr_step hd]; simp [jgOp, jgl, jgok, h]
theorem jq_iinc14 {x0 x1 x2 x3 x4 x5 x6 x7 x8 x9 x10 x11 x12 x13 : Option Value} {v : Int32} {n : Int} (w : Int32) (q : Nat) (hd : decode M.1 pc = .ok (.iinc 14 n, 3)) (hw : Int32.ofInt n = w) (hq : pc + 3 = q) (h : jgc2 x13 = true) : Jr G M pc (x0 :: x1 :: x2 :: x3 :: x4 :: x5 :: x6 :: x7 :: x8 :: x9 :: x10 :: x11 :: x12 :: x13 :: some (.int v) :: l) st σ Φ ↔ Jr G M q (x0 :: x1 :: x2 :: x3 :: x4 :: x5 :: x6 :: x7 :: x8 :: x9 :: x10 :: x11 :: x12 :: x13 :: some (.int (v + w)) :: l) st σ Φ := by subst hq; subst hw; rw [jr_step hd]; simp [jgOp, jgl, jgok, h]
theorem jq_iinc15 {x0 x1 x2 x3 x4 x5 x6 x7 x8 x9 x10 x11 x12 x13 x14 : Option Value} {v : Int32} {n : Int} (w : Int32) (q : Nat) (hd : decode M.1 pc = .ok (.iinc 15 n, 3)) (hw : Int32.ofInt n = w) (hq : pc + 3 = q) (h : jgc2 x14 = true) : Jr G M pc (x0 :: x1 :: x2 :: x3 :: x4 :: x5 :: x6 :: x7 :: x8 :: x9 :: x10 :: x11 :: x12 :: x13 :: x14 :: some (.int v) :: l) st σ Φ ↔ Jr G M q (x0 :: x1 :: x2 :: x3 :: x4 :: x5 :: x6 :: x7 :: x8 :: x9 :: x10 :: x11 :: x12 :: x13 :: x14 :: some (.int (v + w)) :: l) st σ Φ := by subst hq; subst hw; rw [jr_step hd]; simp [jgOp, jgl, jgok, h]
theorem jq_iinc16 {x0 x1 x2 x3 x4 x5 x6 x7 x8 x9 x10 x11 x12 x13 x14 x15 : Option Value} {v : Int32} {n : Int} (w : Int32) (q : Nat) (hd : decode M.1 pc = .ok (.iinc 16 n, 3)) (hw : Int32.ofInt n = w) (hq : pc + 3 = q) (h : jgc2 x15 = true) : Jr G M pc (x0 :: x1 :: x2 :: x3 :: x4 :: x5 :: x6 :: x7 :: x8 :: x9 :: x10 :: x11 :: x12 :: x13 :: x14 :: x15 :: some (.int v) :: l) st σ Φ ↔ Jr G M q (x0 :: x1 :: x2 :: x3 :: x4 :: x5 :: x6 :: x7 :: x8 :: x9 :: x10 :: x11 :: x12 :: x13 :: x14 :: x15 :: some (.int (v + w)) :: l) st σ Φ := by subst hq; subst hw; rw [jr_step hd]; simp [jgOp, jgl, jgok, h]
theorem jq_iinc17 {x0 x1 x2 x3 x4 x5 x6 x7 x8 x9 x10 x11 x12 x13 x14 x15 x16 : Option Value} {v : Int32} {n : Int} (w : Int32) (q : Nat) (hd : decode M.1 pc = .ok (.iinc 17 n, 3)) (hw : Int32.ofInt n = w) (hq : pc + 3 = q) (h : jgc2 x16 = true) : Jr G M pc (x0 :: x1 :: x2 :: x3 :: x4 :: x5 :: x6 :: x7 :: x8 :: x9 :: x10 :: x11 :: x12 :: x13 :: x14 :: x15 :: x16 :: some (.int v) :: l) st σ Φ ↔ Jr G M q (x0 :: x1 :: x2 :: x3 :: x4 :: x5 :: x6 :: x7 :: x8 :: x9 :: x10 :: x11 :: x12 :: x13 :: x14 :: x15 :: x16 :: some (.int (v + w)) :: l) st σ Φ := by subst hq; subst hw; rw [jr_step hd]; simp [jgOp, jgl, jgok, h]
theorem jq_iconst {n : Int} (v : Int32) (q : Nat) (hd : decode M.1 pc = .ok (.iconst n, 1)) (hv : Int32.ofInt n = v) (hq : pc + 1 = q) : Jr G M pc ls st σ Φ ↔ Jr G M q ls (.int v :: st) σ Φ := by subst hq; subst hv; rw [jr_step hd]; simp [jgOp, and_assoc]
theorem jq_bipush {n : Int} (v : Int32) (q : Nat) (hd : decode M.1 pc = .ok (.bipush n, 2)) (hv : (Int8.ofInt n).toInt32 = v) (hq : pc + 2 = q) : Jr G M pc ls st σ Φ ↔ Jr G M q ls (.int v :: st) σ Φ := by subst hq; subst hv; rw [jr_step hd]; simp [jgOp, and_assoc]
theorem jq_sipush {n : Int} (v : Int32) (q : Nat) (hd : decode M.1 pc = .ok (.sipush n, 3)) (hv : (Int16.ofInt n).toInt32 = v) (hq : pc + 3 = q) : Jr G M pc ls st σ Φ ↔ Jr G M q ls (.int v :: st) σ Φ := by subst hq; subst hv; rw [jr_step hd]; simp [jgOp, and_assoc]
theorem jq_lconst {n : Fin 2} (v : Int64) (q : Nat) (hd : decode M.1 pc = .ok (.lconst n, 1)) (hv : Int64.ofNat (n : Nat) = v) (hq : pc + 1 = q) : Jr G M pc ls st σ Φ ↔ Jr G M q ls (.long v :: st) σ Φ := by subst hq; subst hv; rw [jr_step hd]; simp [jgOp, and_assoc]
theorem jq_dconst {n : Fin 2} (v : UInt64) (q : Nat) (hd : decode M.1 pc = .ok (.dconst n, 1)) (hv : (if n = 0 then FP.dconst0 else FP.dconst1) = v) (hq : pc + 1 = q) : Jr G M pc ls st σ Φ ↔ Jr G M q ls (.double v :: st) σ Φ := by subst hq; subst hv; rw [jr_step hd]; simp [jgOp, and_assoc]
theorem jq_ldc {i : Nat} (x : Int32) (q : Nat) (hd : decode M.1 pc = .ok (.ldc i, 2)) (hp : jgfind M.2.1 i = some (jpK (.int x))) (hq : pc + 2 = q) : Jr G M pc ls st σ Φ ↔ Jr G M q ls (.int x :: st) σ Φ := by subst hq; rw [jr_step hd]; simp [jgOp, hp]
theorem jq_dupx2 {v w u : Value} (q : Nat) (hd : decode M.1 pc = .ok (.dup_x2, 1)) (hq : pc + 1 = q) (hv : v.category = 1) (hw : w.category = 1) (hu : u.category = 1) : Jr G M pc ls (v :: w :: u :: st) σ Φ ↔ Jr G M q ls (v :: w :: u :: v :: st) σ Φ := by
  subst hq
  rw [jr_step hd]
  constructor
  · rintro ⟨-, v', w', u', rest, h, -, -, -, k⟩
    cases h
    exact k
  · exact fun k => ⟨rfl, v, w, u, st, rfl, hv, hw, hu, k⟩
theorem jq_iadd {x y : Int32} (q : Nat) (hd : decode M.1 pc = .ok (.iadd, 1)) (hq : pc + 1 = q) : Jr G M pc ls (.int y :: .int x :: st) σ Φ ↔ Jr G M q ls (.int (x + y) :: st) σ Φ := by subst hq; rw [jr_step hd]; simp [jgOp, and_assoc]
theorem jq_isub {x y : Int32} (q : Nat) (hd : decode M.1 pc = .ok (.isub, 1)) (hq : pc + 1 = q) : Jr G M pc ls (.int y :: .int x :: st) σ Φ ↔ Jr G M q ls (.int (x - y) :: st) σ Φ := by subst hq; rw [jr_step hd]; simp [jgOp, and_assoc]
theorem jq_imul {x y : Int32} (q : Nat) (hd : decode M.1 pc = .ok (.imul, 1)) (hq : pc + 1 = q) : Jr G M pc ls (.int y :: .int x :: st) σ Φ ↔ Jr G M q ls (.int (x * y) :: st) σ Φ := by subst hq; rw [jr_step hd]; simp [jgOp, and_assoc]
theorem jq_iand {x y : Int32} (q : Nat) (hd : decode M.1 pc = .ok (.iand, 1)) (hq : pc + 1 = q) : Jr G M pc ls (.int y :: .int x :: st) σ Φ ↔ Jr G M q ls (.int (x &&& y) :: st) σ Φ := by subst hq; rw [jr_step hd]; simp [jgOp, and_assoc]
theorem jq_ior {x y : Int32} (q : Nat) (hd : decode M.1 pc = .ok (.ior, 1)) (hq : pc + 1 = q) : Jr G M pc ls (.int y :: .int x :: st) σ Φ ↔ Jr G M q ls (.int (x ||| y) :: st) σ Φ := by subst hq; rw [jr_step hd]; simp [jgOp, and_assoc]
theorem jq_ishl {x y : Int32} (q : Nat) (hd : decode M.1 pc = .ok (.ishl, 1)) (hq : pc + 1 = q) : Jr G M pc ls (.int y :: .int x :: st) σ Φ ↔ Jr G M q ls (.int (x <<< (y &&& 31)) :: st) σ Φ := by subst hq; rw [jr_step hd]; simp [jgOp, and_assoc]
theorem jq_ishr {x y : Int32} (q : Nat) (hd : decode M.1 pc = .ok (.ishr, 1)) (hq : pc + 1 = q) : Jr G M pc ls (.int y :: .int x :: st) σ Φ ↔ Jr G M q ls (.int (x >>> (y &&& 31)) :: st) σ Φ := by subst hq; rw [jr_step hd]; simp [jgOp, and_assoc]
theorem jq_ladd {x y : Int64} (q : Nat) (hd : decode M.1 pc = .ok (.ladd, 1)) (hq : pc + 1 = q) : Jr G M pc ls (.long y :: .long x :: st) σ Φ ↔ Jr G M q ls (.long (x + y) :: st) σ Φ := by subst hq; rw [jr_step hd]; simp [jgOp, and_assoc]
theorem jq_lsub {x y : Int64} (q : Nat) (hd : decode M.1 pc = .ok (.lsub, 1)) (hq : pc + 1 = q) : Jr G M pc ls (.long y :: .long x :: st) σ Φ ↔ Jr G M q ls (.long (x - y) :: st) σ Φ := by subst hq; rw [jr_step hd]; simp [jgOp, and_assoc]
theorem jq_lmul {x y : Int64} (q : Nat) (hd : decode M.1 pc = .ok (.lmul, 1)) (hq : pc + 1 = q) : Jr G M pc ls (.long y :: .long x :: st) σ Φ ↔ Jr G M q ls (.long (x * y) :: st) σ Φ := by subst hq; rw [jr_step hd]; simp [jgOp, and_assoc]
theorem jq_lshl {x : Int64} {y : Int32} (q : Nat) (hd : decode M.1 pc = .ok (.lshl, 1)) (hq : pc + 1 = q) : Jr G M pc ls (.int y :: .long x :: st) σ Φ ↔ Jr G M q ls (.long (x <<< (y.toInt64 &&& 63)) :: st) σ Φ := by subst hq; rw [jr_step hd]; simp [jgOp, and_assoc]
theorem jq_irem {x y : Int32} (q : Nat) (hd : decode M.1 pc = .ok (.irem, 1)) (hq : pc + 1 = q) (hy : ¬ y = 0) : Jr G M pc ls (.int y :: .int x :: st) σ Φ ↔ Jr G M q ls (.int (x - x / y * y) :: st) σ Φ := by subst hq; rw [jr_step hd]; simp [jgOp, hy, and_assoc]
theorem jq_lrem {x y : Int64} (q : Nat) (hd : decode M.1 pc = .ok (.lrem, 1)) (hq : pc + 1 = q) (hy : ¬ y = 0) : Jr G M pc ls (.long y :: .long x :: st) σ Φ ↔ Jr G M q ls (.long (x - x / y * y) :: st) σ Φ := by subst hq; rw [jr_step hd]; simp [jgOp, hy, and_assoc]
theorem jq_i2l {x : Int32} (q : Nat) (hd : decode M.1 pc = .ok (.i2l, 1)) (hq : pc + 1 = q) : Jr G M pc ls (.int x :: st) σ Φ ↔ Jr G M q ls (.long x.toInt64 :: st) σ Φ := by subst hq; rw [jr_step hd]; simp [jgOp, and_assoc]
theorem jq_i2d {x : Int32} (q : Nat) (hd : decode M.1 pc = .ok (.i2d, 1)) (hq : pc + 1 = q) : Jr G M pc ls (.int x :: st) σ Φ ↔ Jr G M q ls (.double (FP.i2d x) :: st) σ Φ := by subst hq; rw [jr_step hd]; simp [jgOp, and_assoc]
theorem jq_d2l {x : UInt64} (q : Nat) (hd : decode M.1 pc = .ok (.d2l, 1)) (hq : pc + 1 = q) : Jr G M pc ls (.double x :: st) σ Φ ↔ Jr G M q ls (.long (FP.d2l x) :: st) σ Φ := by subst hq; rw [jr_step hd]; simp [jgOp, and_assoc]
theorem jq_lcmp {x y : Int64} (q : Nat) (hd : decode M.1 pc = .ok (.lcmp, 1)) (hq : pc + 1 = q) : Jr G M pc ls (.long y :: .long x :: st) σ Φ ↔ Jr G M q ls (.int (lg_cmp x y) :: st) σ Φ := by subst hq; rw [jr_step hd]; simp [jgOp, and_assoc]
theorem jq_dcmp {x y : UInt64} {op : CmpOp} (q : Nat) (hd : decode M.1 pc = .ok (.dcmp op, 1)) (hq : pc + 1 = q) : Jr G M pc ls (.double y :: .double x :: st) σ Φ ↔ Jr G M q ls (.int (Op.cmpValue (FP.dcmp x y) op) :: st) σ Φ := by subst hq; rw [jr_step hd]; simp [jgOp, and_assoc]
theorem jq_dadd {x y : UInt64} (q : Nat) (hd : decode M.1 pc = .ok (.dadd, 1)) (hq : pc + 1 = q) (hn : vf_n64 (FP.dadd x y)) : Jr G M pc ls (.double y :: .double x :: st) σ Φ ↔ Jr G M q ls (.double (FP.dadd x y) :: st) σ Φ := by subst hq; rw [jr_step hd]; simp [jgOp, hn, and_assoc]
theorem jq_dsub {x y : UInt64} (q : Nat) (hd : decode M.1 pc = .ok (.dsub, 1)) (hq : pc + 1 = q) (hn : vf_n64 (FP.dsub x y)) : Jr G M pc ls (.double y :: .double x :: st) σ Φ ↔ Jr G M q ls (.double (FP.dsub x y) :: st) σ Φ := by subst hq; rw [jr_step hd]; simp [jgOp, hn, and_assoc]
theorem jq_dmul {x y : UInt64} (q : Nat) (hd : decode M.1 pc = .ok (.dmul, 1)) (hq : pc + 1 = q) (hn : vf_n64 (FP.dmul x y)) : Jr G M pc ls (.double y :: .double x :: st) σ Φ ↔ Jr G M q ls (.double (FP.dmul x y) :: st) σ Φ := by subst hq; rw [jr_step hd]; simp [jgOp, hn, and_assoc]
theorem jq_ddiv {x y : UInt64} (q : Nat) (hd : decode M.1 pc = .ok (.ddiv, 1)) (hq : pc + 1 = q) (hn : vf_n64 (FP.ddiv x y)) : Jr G M pc ls (.double y :: .double x :: st) σ Φ ↔ Jr G M q ls (.double (FP.ddiv x y) :: st) σ Φ := by subst hq; rw [jr_step hd]; simp [jgOp, hn, and_assoc]
theorem jtgt_eq {off : Int} {t : Nat} {k : Nat → Prop} (ht : (pc : Int) + off = (t : Int)) : jtgt pc off k ↔ k t := by
  refine ⟨fun ⟨u, hu, h⟩ => ?_, fun h => ⟨t, ht, h⟩⟩
  have : u = t := by omega
  rw [← this]; exact h
theorem jite {c A B : Prop} [Decidable c] : ((c → A) ∧ (¬ c → B)) ↔ if c then A else B := by
  by_cases h : c <;> simp [h]
theorem jq_icmp_eq {x y : Int32} {off : Int} (t q : Nat) (hd : decode M.1 pc = .ok (.if_icmp .eq off, 3)) (ht : (pc : Int) + off = (t : Int)) (hq : pc + 3 = q) : Jr G M pc ls (.int y :: .int x :: st) σ Φ ↔ if x = y then Jr G M t ls st σ Φ else Jr G M q ls st σ Φ := by subst hq; rw [jr_step hd]; simp only [jgOp, jcmp, jtgt_eq ht, true_and, List.cons.injEq, Value.int.injEq]; rw [← jite]; simp [and_assoc]
theorem jq_if_eq {x : Int32} {off : Int} (t q : Nat) (hd : decode M.1 pc = .ok (.ifCond .eq off, 3)) (ht : (pc : Int) + off = (t : Int)) (hq : pc + 3 = q) : Jr G M pc ls (.int x :: st) σ Φ ↔ if x = 0 then Jr G M t ls st σ Φ else Jr G M q ls st σ Φ := by subst hq; rw [jr_step hd]; simp only [jgOp, jcmp, jtgt_eq ht, true_and, List.cons.injEq, Value.int.injEq]; rw [← jite]; simp [and_assoc]
theorem jq_icmp_ne {x y : Int32} {off : Int} (t q : Nat) (hd : decode M.1 pc = .ok (.if_icmp .ne off, 3)) (ht : (pc : Int) + off = (t : Int)) (hq : pc + 3 = q) : Jr G M pc ls (.int y :: .int x :: st) σ Φ ↔ if x = y then Jr G M q ls st σ Φ else Jr G M t ls st σ Φ := by subst hq; rw [jr_step hd]; simp only [jgOp, jcmp, jtgt_eq ht, true_and, List.cons.injEq, Value.int.injEq]; by_cases h : x = y <;> simp [h, and_assoc]
theorem jq_if_ne {x : Int32} {off : Int} (t q : Nat) (hd : decode M.1 pc = .ok (.ifCond .ne off, 3)) (ht : (pc : Int) + off = (t : Int)) (hq : pc + 3 = q) : Jr G M pc ls (.int x :: st) σ Φ ↔ if x = 0 then Jr G M q ls st σ Φ else Jr G M t ls st σ Φ := by subst hq; rw [jr_step hd]; simp only [jgOp, jcmp, jtgt_eq ht, true_and, List.cons.injEq, Value.int.injEq]; by_cases h : x = 0 <;> simp [h, and_assoc]
theorem jq_icmp_lt {x y : Int32} {off : Int} (t q : Nat) (hd : decode M.1 pc = .ok (.if_icmp .lt off, 3)) (ht : (pc : Int) + off = (t : Int)) (hq : pc + 3 = q) : Jr G M pc ls (.int y :: .int x :: st) σ Φ ↔ if x < y then Jr G M t ls st σ Φ else Jr G M q ls st σ Φ := by subst hq; rw [jr_step hd]; simp only [jgOp, jcmp, jtgt_eq ht, true_and, List.cons.injEq, Value.int.injEq]; rw [← jite]; simp [and_assoc]
theorem jq_if_lt {x : Int32} {off : Int} (t q : Nat) (hd : decode M.1 pc = .ok (.ifCond .lt off, 3)) (ht : (pc : Int) + off = (t : Int)) (hq : pc + 3 = q) : Jr G M pc ls (.int x :: st) σ Φ ↔ if x < 0 then Jr G M t ls st σ Φ else Jr G M q ls st σ Φ := by subst hq; rw [jr_step hd]; simp only [jgOp, jcmp, jtgt_eq ht, true_and, List.cons.injEq, Value.int.injEq]; rw [← jite]; simp [and_assoc]
theorem jq_icmp_ge {x y : Int32} {off : Int} (t q : Nat) (hd : decode M.1 pc = .ok (.if_icmp .ge off, 3)) (ht : (pc : Int) + off = (t : Int)) (hq : pc + 3 = q) : Jr G M pc ls (.int y :: .int x :: st) σ Φ ↔ if y ≤ x then Jr G M t ls st σ Φ else Jr G M q ls st σ Φ := by subst hq; rw [jr_step hd]; simp only [jgOp, jcmp, jtgt_eq ht, true_and, List.cons.injEq, Value.int.injEq]; rw [← jite]; simp [and_assoc]
theorem jq_if_ge {x : Int32} {off : Int} (t q : Nat) (hd : decode M.1 pc = .ok (.ifCond .ge off, 3)) (ht : (pc : Int) + off = (t : Int)) (hq : pc + 3 = q) : Jr G M pc ls (.int x :: st) σ Φ ↔ if 0 ≤ x then Jr G M t ls st σ Φ else Jr G M q ls st σ Φ := by subst hq; rw [jr_step hd]; simp only [jgOp, jcmp, jtgt_eq ht, true_and, List.cons.injEq, Value.int.injEq]; rw [← jite]; simp [and_assoc]
theorem jq_icmp_gt {x y : Int32} {off : Int} (t q : Nat) (hd : decode M.1 pc = .ok (.if_icmp .gt off, 3)) (ht : (pc : Int) + off = (t : Int)) (hq : pc + 3 = q) : Jr G M pc ls (.int y :: .int x :: st) σ Φ ↔ if y < x then Jr G M t ls st σ Φ else Jr G M q ls st σ Φ := by subst hq; rw [jr_step hd]; simp only [jgOp, jcmp, jtgt_eq ht, true_and, List.cons.injEq, Value.int.injEq]; rw [← jite]; simp [and_assoc]
theorem jq_if_gt {x : Int32} {off : Int} (t q : Nat) (hd : decode M.1 pc = .ok (.ifCond .gt off, 3)) (ht : (pc : Int) + off = (t : Int)) (hq : pc + 3 = q) : Jr G M pc ls (.int x :: st) σ Φ ↔ if 0 < x then Jr G M t ls st σ Φ else Jr G M q ls st σ Φ := by subst hq; rw [jr_step hd]; simp only [jgOp, jcmp, jtgt_eq ht, true_and, List.cons.injEq, Value.int.injEq]; rw [← jite]; simp [and_assoc]
theorem jq_icmp_le {x y : Int32} {off : Int} (t q : Nat) (hd : decode M.1 pc = .ok (.if_icmp .le off, 3)) (ht : (pc : Int) + off = (t : Int)) (hq : pc + 3 = q) : Jr G M pc ls (.int y :: .int x :: st) σ Φ ↔ if x ≤ y then Jr G M t ls st σ Φ else Jr G M q ls st σ Φ := by subst hq; rw [jr_step hd]; simp only [jgOp, jcmp, jtgt_eq ht, true_and, List.cons.injEq, Value.int.injEq]; rw [← jite]; simp [and_assoc]
theorem jq_if_le {x : Int32} {off : Int} (t q : Nat) (hd : decode M.1 pc = .ok (.ifCond .le off, 3)) (ht : (pc : Int) + off = (t : Int)) (hq : pc + 3 = q) : Jr G M pc ls (.int x :: st) σ Φ ↔ if x ≤ 0 then Jr G M t ls st σ Φ else Jr G M q ls st σ Φ := by subst hq; rw [jr_step hd]; simp only [jgOp, jcmp, jtgt_eq ht, true_and, List.cons.injEq, Value.int.injEq]; rw [← jite]; simp [and_assoc]
theorem jq_goto {off : Int} (t : Nat) (hd : decode M.1 pc = .ok (.goto off, 3)) (ht : (pc : Int) + off = (t : Int)) : Jr G M pc ls st σ Φ ↔ Jr G M t ls st σ Φ := by rw [jr_step hd]; simp only [jgOp, jtgt_eq ht, true_and]
theorem jq_getI {i a : Nat} (ci j q : Nat) (hd : decode M.1 pc = .ok (.getfield i, 3)) (hp : jgfind M.2.1 i = some (jpF ci j)) (ht : jty ci j = true) (hq : pc + 3 = q) : Jr G M pc ls (.ref a :: st) σ Φ ↔ jo G (jwt σ) a ci ∧ Jr G M q ls (.int (σ.1 a j) :: st) σ Φ := by
  subst hq; rw [jr_step hd]; simp [jgOp, hp, jo, jin, jfv, ht, and_assoc]
theorem jq_getR {i a : Nat} (ci j q : Nat) (hd : decode M.1 pc = .ok (.getfield i, 3)) (hp : jgfind M.2.1 i = some (jpF ci j)) (ht : jty ci j = false) (hq : pc + 3 = q) : Jr G M pc ls (.ref a :: st) σ Φ ↔ jo G (jwt σ) a ci ∧ Jr G M q ls (va_rf (σ.2.1 a j) :: st) σ Φ := by
  subst hq; rw [jr_step hd]; simp [jgOp, hp, jo, jin, jfv, ht, and_assoc]
theorem jq_putI {i a : Nat} {x : Int32} (ci j q : Nat) (hd : decode M.1 pc = .ok (.putfield i, 3)) (hp : jgfind M.2.1 i = some (jpF ci j)) (ht : jty ci j = true) (hq : pc + 3 = q) : Jr G M pc ls (.int x :: .ref a :: st) σ Φ ↔ jo G (jwt σ) a ci ∧ Jr G M q ls st (jwI σ a j x) Φ := by
  subst hq; rw [jr_step hd]; simp [jgOp, hp, jo, jin, ht, and_assoc]
theorem jq_putR {i a b : Nat} (ci j q : Nat) (hd : decode M.1 pc = .ok (.putfield i, 3)) (hp : jgfind M.2.1 i = some (jpF ci j)) (ht : jty ci j = false) (hi : M.2.2.2.2.2 = true) (hq : pc + 3 = q) : Jr G M pc ls (.ref b :: .ref a :: st) σ Φ ↔ jo G (jwt σ) a ci ∧ Jr G M q ls st (jwR σ a j (some b)) Φ := by
  subst hq; rw [jr_step hd]; simp [jgOp, hp, jo, jin, ht, hi, and_assoc]
/-- the address is one of the world's -/
def jl (G : jgG) (w a : Nat) : Prop := G.1 ≤ a ∧ a < w
theorem jq_iald {a : Nat} {i : Int32} (q : Nat) (hd : decode M.1 pc = .ok (.iaload, 1)) (hq : pc + 1 = q) (ha : jl G (jwt σ) a) : Jr G M pc ls (.int i :: .ref a :: st) σ Φ ↔ (G.2.2.2.1 a).1 = 8 ∧ vp_in i (G.2.2.2.1 a).2 ∧ Jr G M q ls (.int (σ.1 a i.toNatClampNeg) :: st) σ Φ := by
  subst hq
  obtain ⟨h1, h2⟩ := ha
  have e : jga G σ a = if (G.2.2.2.1 a).1 = 8 then some ((G.2.2.2.1 a).2, σ.1 a) else none := by
    unfold jga
    rw [if_pos h1]
    simp [h2]
  rw [jr_step hd]
  by_cases h : (G.2.2.2.1 a).1 = 8 <;> simp [jgOp, e, h, and_assoc]
theorem jq_iaX {a : Nat} {i : Int32} (q : Nat) (hd : decode M.1 pc = .ok (.iaload, 1)) (hq : pc + 1 = q) (n : Nat) (f : Nat → Int32) (ha : ¬ G.1 ≤ a) (hx : G.2.2.2.2 a = some (n, f)) : Jr G M pc ls (.int i :: .ref a :: st) σ Φ ↔ vp_in i n ∧ Jr G M q ls (.int (f i.toNatClampNeg) :: st) σ Φ := by
  subst hq
  have e : jga G σ a = some (n, f) := by
    unfold jga
    rw [if_neg ha, hx]
  rw [jr_step hd]; simp [jgOp, e, and_assoc]
theorem jq_alX {a : Nat} (q : Nat) (hd : decode M.1 pc = .ok (.arraylength, 1)) (hq : pc + 1 = q) (n : Nat) (f : Nat → Int32) (ha : ¬ G.1 ≤ a) (hx : G.2.2.2.2 a = some (n, f)) : Jr G M pc ls (.ref a :: st) σ Φ ↔ Jr G M q ls (.int (Int32.ofNat n) :: st) σ Φ := by
  subst hq
  have e : jga G σ a = some (n, f) := by
    unfold jga
    rw [if_neg ha, hx]
  rw [jr_step hd]; simp [jgOp, e, and_assoc]
theorem jq_iast {a : Nat} {i x : Int32} (q : Nat) (hd : decode M.1 pc = .ok (.iastore, 1)) (hq : pc + 1 = q) : Jr G M pc ls (.int x :: .int i :: .ref a :: st) σ Φ ↔ jl G (jwt σ) a ∧ (G.2.2.2.1 a).1 = 8 ∧ vp_in i (G.2.2.2.1 a).2 ∧ Jr G M q ls st (jwI σ a i.toNatClampNeg x) Φ := by
  subst hq
  rw [jr_step hd]
  simp only [jgOp, jin, jl, true_and, List.cons.injEq, Value.int.injEq, Value.ref.injEq]
  constructor
  · rintro ⟨x', i', a', rest, n, ⟨rfl, rfl, rfl, rfl⟩, h1, h2, h3, h4⟩
    rw [h2]
    exact ⟨h1, rfl, h3, h4⟩
  · rintro ⟨h1, h2, h3, h4⟩
    exact ⟨x, i, a, st, (G.2.2.2.1 a).2, ⟨rfl, rfl, rfl, rfl⟩, h1, Prod.ext h2 rfl, h3, h4⟩
theorem jq_aald {a : Nat} {i : Int32} (q : Nat) (hd : decode M.1 pc = .ok (.aaload, 1)) (hq : pc + 1 = q) : Jr G M pc ls (.int i :: .ref a :: st) σ Φ ↔ jl G (jwt σ) a ∧ jref (G.2.2.2.1 a).1 ∧ vp_in i (G.2.2.2.1 a).2 ∧ Jr G M q ls (va_rf (σ.2.1 a i.toNatClampNeg) :: st) σ Φ := by
  subst hq
  rw [jr_step hd]
  simp only [jgOp, jin, jl, true_and, List.cons.injEq, Value.int.injEq, Value.ref.injEq]
  constructor
  · rintro ⟨i', a', rest, j, n, ⟨rfl, rfl, rfl⟩, h1, h2, h3, h4, h5⟩
    rw [h3]
    exact ⟨h1, ⟨Nat.le_add_right _ _, by show 10 + j < 13; omega⟩, h4, h5⟩
  · rintro ⟨h1, ⟨h2, h3⟩, h4, h5⟩
    exact ⟨i, a, st, (G.2.2.2.1 a).1 - 10, (G.2.2.2.1 a).2, ⟨rfl, rfl, rfl⟩, h1, by omega, Prod.ext (by show _ = 10 + (_ - 10); omega) rfl, h4, h5⟩
theorem jq_aast {a b : Nat} {i : Int32} (q : Nat) (hd : decode M.1 pc = .ok (.aastore, 1)) (hq : pc + 1 = q) : Jr G M pc ls (.ref b :: .int i :: .ref a :: st) σ Φ ↔ jl G (jwt σ) a ∧ jref (G.2.2.2.1 a).1 ∧ vp_in i (G.2.2.2.1 a).2 ∧ jo G (jwt σ) b (if (G.2.2.2.1 a).1 = 10 then 4 else if (G.2.2.2.1 a).1 = 11 then 3 else 5) ∧ Jr G M q ls st (jwR σ a i.toNatClampNeg (some b)) Φ := by
  subst hq
  rw [jr_step hd]
  simp only [jgOp, jin, jl, jo, true_and, List.cons.injEq, Value.int.injEq, Value.ref.injEq]
  constructor
  · rintro ⟨q', i', a', rest, j, n, ⟨rfl, rfl, rfl, rfl⟩, h1, h2, h3, h4, h5, h6, h7⟩
    rw [h3]
    refine ⟨h1, ⟨Nat.le_add_right _ _, by show 10 + j < 13; omega⟩, h4, ⟨h5, h6.trans ?_⟩, h7⟩
    rcases (show j = 0 ∨ j = 1 ∨ j = 2 by omega) with rfl | rfl | rfl <;> rfl
  · rintro ⟨h1, ⟨h2, h3⟩, h4, ⟨h5, h6⟩, h7⟩
    refine ⟨b, i, a, st, (G.2.2.2.1 a).1 - 10, (G.2.2.2.1 a).2, ⟨rfl, rfl, rfl, rfl⟩, h1, by omega, Prod.ext (by show _ = 10 + (_ - 10); omega) rfl, h4, h5, h6.trans ?_, h7⟩
    rcases (show (G.2.2.2.1 a).1 = 10 ∨ (G.2.2.2.1 a).1 = 11 ∨ (G.2.2.2.1 a).1 = 12 by omega) with e | e | e <;> rw [e] <;> rfl
theorem jq_dup {v : Value} (q : Nat) (hd : decode M.1 pc = .ok (.dup, 1)) (hq : pc + 1 = q) (hv : v.category = 1) : Jr G M pc ls (v :: st) σ Φ ↔ Jr G M q ls (v :: v :: st) σ Φ := by subst hq; rw [jr_step hd]; simp [jgOp, hv]
theorem jq_dup2 {v w : Value} (q : Nat) (hd : decode M.1 pc = .ok (.dup2, 1)) (hq : pc + 1 = q) (hv : v.category = 1) (hw : w.category = 1) : Jr G M pc ls (v :: w :: st) σ Φ ↔ Jr G M q ls (v :: w :: v :: w :: st) σ Φ := by subst hq; rw [jr_step hd]; simp [jgOp, hv, hw]
theorem jq_pop {v : Value} (q : Nat) (hd : decode M.1 pc = .ok (.pop, 1)) (hq : pc + 1 = q) (hv : v.category = 1) : Jr G M pc ls (v :: st) σ Φ ↔ Jr G M q ls st σ Φ := by subst hq; rw [jr_step hd]; simp [jgOp, hv]
theorem jq_iret {x : Int32} (ty : FieldType) (hd : decode M.1 pc = .ok (.ireturn, 1)) (hr : M.2.2.2.2.1 = some ty) : Jr G M pc ls [.int x] σ Φ ↔ narrow ty (.int x) = .int x ∧ Φ (.inl (some (.int x)), σ) := by rw [jr_step hd]; simp [jgOp, hr]
theorem jnr_i (x : Int32) : narrow .int (.int x) = .int x := rfl
theorem jnr_b (c : Prop) [Decidable c] : narrow .boolean (.int (if c then 1 else 0)) = .int (if c then 1 else 0) := by by_cases h : c <;> simp [h] <;> rfl
theorem jnr_b0 : narrow .boolean (.int 0) = .int 0 := rfl
theorem jnr_b1 : narrow .boolean (.int 1) = .int 1 := rfl
theorem jq_lret {x : Int64} (hd : decode M.1 pc = .ok (.lreturn, 1)) (hr : M.2.2.2.2.1 = some .long) : Jr G M pc ls [.long x] σ Φ ↔ Φ (.inl (some (.long x)), σ) := by rw [jr_step hd]; simp [jgOp, hr]
theorem jq_dret {x : UInt64} (hd : decode M.1 pc = .ok (.dreturn, 1)) (hr : M.2.2.2.2.1 = some .double) : Jr G M pc ls [.double x] σ Φ ↔ Φ (.inl (some (.double x)), σ) := by rw [jr_step hd]; simp [jgOp, hr]
theorem jq_ret (hd : decode M.1 pc = .ok (.return_, 1)) (hr : M.2.2.2.2.1 = none) : Jr G M pc ls [] σ Φ ↔ Φ (.inl none, σ) := by rw [jr_step hd]; simp [jgOp, hr]
theorem jq_throw {i : Nat} (E : String) (hd : decode M.1 pc = .ok (.new i, 3)) (hx : jgx M.2.2.1 pc = some E) : Jr G M pc ls st σ Φ ↔ Φ (.inr E, jwh σ 6) ∧ jcat st ≤ 8 := by rw [jr_step hd]; simp [jgOp, hx]
/-- a specification: what must hold ahead, and the end -/
def jsp (pre : List Value → jgS → Prop) (f : List Value → jgS → jgR) : jgSpec := fun As σ r => pre As σ ∧ r = f As σ
theorem jsp_ex {pre : List Value → jgS → Prop} {f : List Value → jgS → jgR} {As : List Value} {K : jgR → Prop} : (∃ r, jsp pre f As σ r ∧ K r) ↔ pre As σ ∧ K (f As σ) := by
  constructor
  · rintro ⟨r, ⟨h1, rfl⟩, h2⟩
    exact ⟨h1, h2⟩
  · rintro ⟨h1, h2⟩
    exact ⟨_, ⟨h1, rfl⟩, h2⟩
/-- behind a call -/
def jk (G : jgG) (M : jgM) (pc : Nat) (ls : List (Option Value)) (rest : List Value) (Φ : jgR → Prop) (r : jgR) : Prop := jcall M pc ls rest (fun a b c d => Jr G M a b c d Φ) Φ r
theorem jk_v {v : Value} : jk G M pc ls st Φ (.inl (some v), σ) ↔ Jr G M (pc + 3) ls (v :: st) σ Φ := Iff.rfl
theorem jk_n : jk G M pc ls st Φ (.inl none, σ) ↔ Jr G M (pc + 3) ls st σ Φ := Iff.rfl
theorem jk_x {E : String} (h : jghd M.2.2.2.1 pc E = none) : jk G M pc ls st Φ (.inr E, σ) ↔ Φ (.inr E, σ) := by
  unfold jk jcall
  simp [h]
theorem jk_h {E : String} (t : Nat) (h : jghd M.2.2.2.1 pc E = some t) : jk G M pc ls st Φ (.inr E, σ) ↔ ∀ q : Nat, Jr G M t ls [.ref q] σ Φ := by
  unfold jk jcall
  simp [h]
theorem jk_ite {c : Prop} [Decidable c] {r r' : jgR} : jk G M pc ls st Φ (if c then r else r') ↔ if c then jk G M pc ls st Φ r else jk G M pc ls st Φ r' := by by_cases h : c <;> simp [h]
theorem jq_virt0 {i b : Nat} (I : jgI) (ci : Nat) {pre : List Value → jgS → Prop} {f : List Value → jgS → jgR} (hd : decode M.1 pc = .ok (.invokevirtual i, 3)) (hp : jgfind M.2.1 i = some (jpC I (jsp pre f))) (h0 : I.1 = 0) (hn : I.2.2.2.2.2.2.1 = 0) (hci : I.2.1 = ci) : Jr G M pc ls (.ref b :: st) σ Φ ↔ jo G (jwt σ) b ci ∧ jcat st ≤ 8 ∧ pre [.ref b] σ ∧ jk G M pc ls st Φ (f [.ref b] σ) := by
  subst hci
  rw [jr_step hd]
  simp only [jgOp, hp, true_and, Option.some.injEq, Sum.inr.injEq, Sum.inl.injEq, Prod.mk.injEq]
  constructor
  · rintro ⟨I', S', b', As, ⟨rfl, rfl⟩, -, -, h1, h2, h3, h4, h5⟩
    rw [hn] at h1 h4 h5
    simp only [jargs, List.take_succ_cons, List.take_zero, List.reverse_cons, List.reverse_nil, List.nil_append, List.cons_append, List.cons.injEq, Value.ref.injEq, List.take, List.drop] at h1 h4 h5
    obtain ⟨rfl, rfl⟩ := h1
    exact ⟨⟨h2, h3⟩, h4, jsp_ex.mp h5⟩
  · rintro ⟨⟨h2, h3⟩, h4, h5⟩
    refine ⟨I, _, b, [], ⟨rfl, rfl⟩, h0, by rw [hn]; simp, by rw [hn]; rfl, h2, h3, by rw [hn]; exact h4, ?_⟩
    rw [hn]
    exact jsp_ex.mpr h5
theorem jq_stat0 {i : Nat} (I : jgI) {pre : List Value → jgS → Prop} {f : List Value → jgS → jgR} (hd : decode M.1 pc = .ok (.invokestatic i, 3)) (hp : jgfind M.2.1 i = some (jpC I (jsp pre f))) (h0 : I.1 = 1 ∨ I.1 = 4) (hn : I.2.2.2.2.2.2.1 = 0) : Jr G M pc ls (st) σ Φ ↔ jcat st ≤ 8 ∧ pre [] σ ∧ jk G M pc ls st Φ (f [] σ) := by
  rw [jr_step hd]
  simp only [jgOp, hp, true_and, Option.some.injEq, Sum.inr.injEq, Sum.inl.injEq, Prod.mk.injEq]
  constructor
  · rintro ⟨I', S', ⟨rfl, rfl⟩, -, -, h4, h5⟩
    rw [hn] at h4 h5
    exact ⟨h4, jsp_ex.mp h5⟩
  · rintro ⟨h4, h5⟩
    refine ⟨I, _, ⟨rfl, rfl⟩, h0, by rw [hn]; simp, by rw [hn]; exact h4, ?_⟩
    rw [hn]
    exact jsp_ex.mpr h5
theorem jq_virt1 {v1 : Value} {i b : Nat} (I : jgI) (ci : Nat) {pre : List Value → jgS → Prop} {f : List Value → jgS → jgR} (hd : decode M.1 pc = .ok (.invokevirtual i, 3)) (hp : jgfind M.2.1 i = some (jpC I (jsp pre f))) (h0 : I.1 = 0) (hn : I.2.2.2.2.2.2.1 = 1) (hci : I.2.1 = ci) : Jr G M pc ls (v1 :: .ref b :: st) σ Φ ↔ jo G (jwt σ) b ci ∧ jcat st ≤ 8 ∧ pre [.ref b, v1] σ ∧ jk G M pc ls st Φ (f [.ref b, v1] σ) := by
  subst hci
  rw [jr_step hd]
  simp only [jgOp, hp, true_and, Option.some.injEq, Sum.inr.injEq, Sum.inl.injEq, Prod.mk.injEq]
  constructor
  · rintro ⟨I', S', b', As, ⟨rfl, rfl⟩, -, -, h1, h2, h3, h4, h5⟩
    rw [hn] at h1 h4 h5
    simp only [jargs, List.take_succ_cons, List.take_zero, List.reverse_cons, List.reverse_nil, List.nil_append, List.cons_append, List.cons.injEq, Value.ref.injEq, List.take, List.drop] at h1 h4 h5
    obtain ⟨rfl, rfl⟩ := h1
    exact ⟨⟨h2, h3⟩, h4, jsp_ex.mp h5⟩
  · rintro ⟨⟨h2, h3⟩, h4, h5⟩
    refine ⟨I, _, b, [v1], ⟨rfl, rfl⟩, h0, by rw [hn]; simp, by rw [hn]; rfl, h2, h3, by rw [hn]; exact h4, ?_⟩
    rw [hn]
    exact jsp_ex.mpr h5
theorem jq_stat1 {v1 : Value} {i : Nat} (I : jgI) {pre : List Value → jgS → Prop} {f : List Value → jgS → jgR} (hd : decode M.1 pc = .ok (.invokestatic i, 3)) (hp : jgfind M.2.1 i = some (jpC I (jsp pre f))) (h0 : I.1 = 1 ∨ I.1 = 4) (hn : I.2.2.2.2.2.2.1 = 1) : Jr G M pc ls (v1 :: st) σ Φ ↔ jcat st ≤ 8 ∧ pre [v1] σ ∧ jk G M pc ls st Φ (f [v1] σ) := by
  rw [jr_step hd]
  simp only [jgOp, hp, true_and, Option.some.injEq, Sum.inr.injEq, Sum.inl.injEq, Prod.mk.injEq]
  constructor
  · rintro ⟨I', S', ⟨rfl, rfl⟩, -, -, h4, h5⟩
    rw [hn] at h4 h5
    exact ⟨h4, jsp_ex.mp h5⟩
  · rintro ⟨h4, h5⟩
    refine ⟨I, _, ⟨rfl, rfl⟩, h0, by rw [hn]; simp, by rw [hn]; exact h4, ?_⟩
    rw [hn]
    exact jsp_ex.mpr h5
theorem jq_virt2 {v1 v2 : Value} {i b : Nat} (I : jgI) (ci : Nat) {pre : List Value → jgS → Prop} {f : List Value → jgS → jgR} (hd : decode M.1 pc = .ok (.invokevirtual i, 3)) (hp : jgfind M.2.1 i = some (jpC I (jsp pre f))) (h0 : I.1 = 0) (hn : I.2.2.2.2.2.2.1 = 2) (hci : I.2.1 = ci) : Jr G M pc ls (v2 :: v1 :: .ref b :: st) σ Φ ↔ jo G (jwt σ) b ci ∧ jcat st ≤ 8 ∧ pre [.ref b, v1, v2] σ ∧ jk G M pc ls st Φ (f [.ref b, v1, v2] σ) := by
  subst hci
  rw [jr_step hd]
  simp only [jgOp, hp, true_and, Option.some.injEq, Sum.inr.injEq, Sum.inl.injEq, Prod.mk.injEq]
  constructor
  · rintro ⟨I', S', b', As, ⟨rfl, rfl⟩, -, -, h1, h2, h3, h4, h5⟩
    rw [hn] at h1 h4 h5
    simp only [jargs, List.take_succ_cons, List.take_zero, List.reverse_cons, List.reverse_nil, List.nil_append, List.cons_append, List.cons.injEq, Value.ref.injEq, List.take, List.drop] at h1 h4 h5
    obtain ⟨rfl, rfl⟩ := h1
    exact ⟨⟨h2, h3⟩, h4, jsp_ex.mp h5⟩
  · rintro ⟨⟨h2, h3⟩, h4, h5⟩
    refine ⟨I, _, b, [v1, v2], ⟨rfl, rfl⟩, h0, by rw [hn]; simp, by rw [hn]; rfl, h2, h3, by rw [hn]; exact h4, ?_⟩
    rw [hn]
    exact jsp_ex.mpr h5
theorem jq_stat2 {v1 v2 : Value} {i : Nat} (I : jgI) {pre : List Value → jgS → Prop} {f : List Value → jgS → jgR} (hd : decode M.1 pc = .ok (.invokestatic i, 3)) (hp : jgfind M.2.1 i = some (jpC I (jsp pre f))) (h0 : I.1 = 1 ∨ I.1 = 4) (hn : I.2.2.2.2.2.2.1 = 2) : Jr G M pc ls (v2 :: v1 :: st) σ Φ ↔ jcat st ≤ 8 ∧ pre [v1, v2] σ ∧ jk G M pc ls st Φ (f [v1, v2] σ) := by
  rw [jr_step hd]
  simp only [jgOp, hp, true_and, Option.some.injEq, Sum.inr.injEq, Sum.inl.injEq, Prod.mk.injEq]
  constructor
  · rintro ⟨I', S', ⟨rfl, rfl⟩, -, -, h4, h5⟩
    rw [hn] at h4 h5
    exact ⟨h4, jsp_ex.mp h5⟩
  · rintro ⟨h4, h5⟩
    refine ⟨I, _, ⟨rfl, rfl⟩, h0, by rw [hn]; simp, by rw [hn]; exact h4, ?_⟩
    rw [hn]
    exact jsp_ex.mpr h5
theorem jq_virt3 {v1 v2 v3 : Value} {i b : Nat} (I : jgI) (ci : Nat) {pre : List Value → jgS → Prop} {f : List Value → jgS → jgR} (hd : decode M.1 pc = .ok (.invokevirtual i, 3)) (hp : jgfind M.2.1 i = some (jpC I (jsp pre f))) (h0 : I.1 = 0) (hn : I.2.2.2.2.2.2.1 = 3) (hci : I.2.1 = ci) : Jr G M pc ls (v3 :: v2 :: v1 :: .ref b :: st) σ Φ ↔ jo G (jwt σ) b ci ∧ jcat st ≤ 8 ∧ pre [.ref b, v1, v2, v3] σ ∧ jk G M pc ls st Φ (f [.ref b, v1, v2, v3] σ) := by
  subst hci
  rw [jr_step hd]
  simp only [jgOp, hp, true_and, Option.some.injEq, Sum.inr.injEq, Sum.inl.injEq, Prod.mk.injEq]
  constructor
  · rintro ⟨I', S', b', As, ⟨rfl, rfl⟩, -, -, h1, h2, h3, h4, h5⟩
    rw [hn] at h1 h4 h5
    simp only [jargs, List.take_succ_cons, List.take_zero, List.reverse_cons, List.reverse_nil, List.nil_append, List.cons_append, List.cons.injEq, Value.ref.injEq, List.take, List.drop] at h1 h4 h5
    obtain ⟨rfl, rfl⟩ := h1
    exact ⟨⟨h2, h3⟩, h4, jsp_ex.mp h5⟩
  · rintro ⟨⟨h2, h3⟩, h4, h5⟩
    refine ⟨I, _, b, [v1, v2, v3], ⟨rfl, rfl⟩, h0, by rw [hn]; simp, by rw [hn]; rfl, h2, h3, by rw [hn]; exact h4, ?_⟩
    rw [hn]
    exact jsp_ex.mpr h5
theorem jq_stat3 {v1 v2 v3 : Value} {i : Nat} (I : jgI) {pre : List Value → jgS → Prop} {f : List Value → jgS → jgR} (hd : decode M.1 pc = .ok (.invokestatic i, 3)) (hp : jgfind M.2.1 i = some (jpC I (jsp pre f))) (h0 : I.1 = 1 ∨ I.1 = 4) (hn : I.2.2.2.2.2.2.1 = 3) : Jr G M pc ls (v3 :: v2 :: v1 :: st) σ Φ ↔ jcat st ≤ 8 ∧ pre [v1, v2, v3] σ ∧ jk G M pc ls st Φ (f [v1, v2, v3] σ) := by
  rw [jr_step hd]
  simp only [jgOp, hp, true_and, Option.some.injEq, Sum.inr.injEq, Sum.inl.injEq, Prod.mk.injEq]
  constructor
  · rintro ⟨I', S', ⟨rfl, rfl⟩, -, -, h4, h5⟩
    rw [hn] at h4 h5
    exact ⟨h4, jsp_ex.mp h5⟩
  · rintro ⟨h4, h5⟩
    refine ⟨I, _, ⟨rfl, rfl⟩, h0, by rw [hn]; simp, by rw [hn]; exact h4, ?_⟩
    rw [hn]
    exact jsp_ex.mpr h5
theorem jq_virt4 {v1 v2 v3 v4 : Value} {i b : Nat} (I : jgI) (ci : Nat) {pre : List Value → jgS → Prop} {f : List Value → jgS → jgR} (hd : decode M.1 pc = .ok (.invokevirtual i, 3)) (hp : jgfind M.2.1 i = some (jpC I (jsp pre f))) (h0 : I.1 = 0) (hn : I.2.2.2.2.2.2.1 = 4) (hci : I.2.1 = ci) : Jr G M pc ls (v4 :: v3 :: v2 :: v1 :: .ref b :: st) σ Φ ↔ jo G (jwt σ) b ci ∧ jcat st ≤ 8 ∧ pre [.ref b, v1, v2, v3, v4] σ ∧ jk G M pc ls st Φ (f [.ref b, v1, v2, v3, v4] σ) := by
  subst hci
  rw [jr_step hd]
  simp only [jgOp, hp, true_and, Option.some.injEq, Sum.inr.injEq, Sum.inl.injEq, Prod.mk.injEq]
  constructor
  · rintro ⟨I', S', b', As, ⟨rfl, rfl⟩, -, -, h1, h2, h3, h4, h5⟩
    rw [hn] at h1 h4 h5
    simp only [jargs, List.take_succ_cons, List.take_zero, List.reverse_cons, List.reverse_nil, List.nil_append, List.cons_append, List.cons.injEq, Value.ref.injEq, List.take, List.drop] at h1 h4 h5
    obtain ⟨rfl, rfl⟩ := h1
    exact ⟨⟨h2, h3⟩, h4, jsp_ex.mp h5⟩
  · rintro ⟨⟨h2, h3⟩, h4, h5⟩
    refine ⟨I, _, b, [v1, v2, v3, v4], ⟨rfl, rfl⟩, h0, by rw [hn]; simp, by rw [hn]; rfl, h2, h3, by rw [hn]; exact h4, ?_⟩
    rw [hn]
    exact jsp_ex.mpr h5
theorem jq_stat4 {v1 v2 v3 v4 : Value} {i : Nat} (I : jgI) {pre : List Value → jgS → Prop} {f : List Value → jgS → jgR} (hd : decode M.1 pc = .ok (.invokestatic i, 3)) (hp : jgfind M.2.1 i = some (jpC I (jsp pre f))) (h0 : I.1 = 1 ∨ I.1 = 4) (hn : I.2.2.2.2.2.2.1 = 4) : Jr G M pc ls (v4 :: v3 :: v2 :: v1 :: st) σ Φ ↔ jcat st ≤ 8 ∧ pre [v1, v2, v3, v4] σ ∧ jk G M pc ls st Φ (f [v1, v2, v3, v4] σ) := by
  rw [jr_step hd]
  simp only [jgOp, hp, true_and, Option.some.injEq, Sum.inr.injEq, Sum.inl.injEq, Prod.mk.injEq]
  constructor
  · rintro ⟨I', S', ⟨rfl, rfl⟩, -, -, h4, h5⟩
    rw [hn] at h4 h5
    exact ⟨h4, jsp_ex.mp h5⟩
  · rintro ⟨h4, h5⟩
    refine ⟨I, _, ⟨rfl, rfl⟩, h0, by rw [hn]; simp, by rw [hn]; exact h4, ?_⟩
    rw [hn]
    exact jsp_ex.mpr h5
theorem jq_virt5 {v1 v2 v3 v4 v5 : Value} {i b : Nat} (I : jgI) (ci : Nat) {pre : List Value → jgS → Prop} {f : List Value → jgS → jgR} (hd : decode M.1 pc = .ok (.invokevirtual i, 3)) (hp : jgfind M.2.1 i = some (jpC I (jsp pre f))) (h0 : I.1 = 0) (hn : I.2.2.2.2.2.2.1 = 5) (hci : I.2.1 = ci) : Jr G M pc ls (v5 :: v4 :: v3 :: v2 :: v1 :: .ref b :: st) σ Φ ↔ jo G (jwt σ) b ci ∧ jcat st ≤ 8 ∧ pre [.ref b, v1, v2, v3, v4, v5] σ ∧ jk G M pc ls st Φ (f [.ref b, v1, v2, v3, v4, v5] σ) := by
  subst hci
  rw [jr_step hd]
  simp only [jgOp, hp, true_and, Option.some.injEq, Sum.inr.injEq, Sum.inl.injEq, Prod.mk.injEq]
  constructor
  · rintro ⟨I', S', b', As, ⟨rfl, rfl⟩, -, -, h1, h2, h3, h4, h5⟩
    rw [hn] at h1 h4 h5
    simp only [jargs, List.take_succ_cons, List.take_zero, List.reverse_cons, List.reverse_nil, List.nil_append, List.cons_append, List.cons.injEq, Value.ref.injEq, List.take, List.drop] at h1 h4 h5
    obtain ⟨rfl, rfl⟩ := h1
    exact ⟨⟨h2, h3⟩, h4, jsp_ex.mp h5⟩
  · rintro ⟨⟨h2, h3⟩, h4, h5⟩
    refine ⟨I, _, b, [v1, v2, v3, v4, v5], ⟨rfl, rfl⟩, h0, by rw [hn]; simp, by rw [hn]; rfl, h2, h3, by rw [hn]; exact h4, ?_⟩
    rw [hn]
    exact jsp_ex.mpr h5
theorem jq_stat5 {v1 v2 v3 v4 v5 : Value} {i : Nat} (I : jgI) {pre : List Value → jgS → Prop} {f : List Value → jgS → jgR} (hd : decode M.1 pc = .ok (.invokestatic i, 3)) (hp : jgfind M.2.1 i = some (jpC I (jsp pre f))) (h0 : I.1 = 1 ∨ I.1 = 4) (hn : I.2.2.2.2.2.2.1 = 5) : Jr G M pc ls (v5 :: v4 :: v3 :: v2 :: v1 :: st) σ Φ ↔ jcat st ≤ 8 ∧ pre [v1, v2, v3, v4, v5] σ ∧ jk G M pc ls st Φ (f [v1, v2, v3, v4, v5] σ) := by
  rw [jr_step hd]
  simp only [jgOp, hp, true_and, Option.some.injEq, Sum.inr.injEq, Sum.inl.injEq, Prod.mk.injEq]
  constructor
  · rintro ⟨I', S', ⟨rfl, rfl⟩, -, -, h4, h5⟩
    rw [hn] at h4 h5
    exact ⟨h4, jsp_ex.mp h5⟩
  · rintro ⟨h4, h5⟩
    refine ⟨I, _, ⟨rfl, rfl⟩, h0, by rw [hn]; simp, by rw [hn]; exact h4, ?_⟩
    rw [hn]
    exact jsp_ex.mpr h5
theorem jq_virt6 {v1 v2 v3 v4 v5 v6 : Value} {i b : Nat} (I : jgI) (ci : Nat) {pre : List Value → jgS → Prop} {f : List Value → jgS → jgR} (hd : decode M.1 pc = .ok (.invokevirtual i, 3)) (hp : jgfind M.2.1 i = some (jpC I (jsp pre f))) (h0 : I.1 = 0) (hn : I.2.2.2.2.2.2.1 = 6) (hci : I.2.1 = ci) : Jr G M pc ls (v6 :: v5 :: v4 :: v3 :: v2 :: v1 :: .ref b :: st) σ Φ ↔ jo G (jwt σ) b ci ∧ jcat st ≤ 8 ∧ pre [.ref b, v1, v2, v3, v4, v5, v6] σ ∧ jk G M pc ls st Φ (f [.ref b, v1, v2, v3, v4, v5, v6] σ) := by
  subst hci
  rw [jr_step hd]
  simp only [jgOp, hp, true_and, Option.some.injEq, Sum.inr.injEq, Sum.inl.injEq, Prod.mk.injEq]
  constructor
  · rintro ⟨I', S', b', As, ⟨rfl, rfl⟩, -, -, h1, h2, h3, h4, h5⟩
    rw [hn] at h1 h4 h5
    simp only [jargs, List.take_succ_cons, List.take_zero, List.reverse_cons, List.reverse_nil, List.nil_append, List.cons_append, List.cons.injEq, Value.ref.injEq, List.take, List.drop] at h1 h4 h5
    obtain ⟨rfl, rfl⟩ := h1
    exact ⟨⟨h2, h3⟩, h4, jsp_ex.mp h5⟩
  · rintro ⟨⟨h2, h3⟩, h4, h5⟩
    refine ⟨I, _, b, [v1, v2, v3, v4, v5, v6], ⟨rfl, rfl⟩, h0, by rw [hn]; simp, by rw [hn]; rfl, h2, h3, by rw [hn]; exact h4, ?_⟩
    rw [hn]
    exact jsp_ex.mpr h5
theorem jq_stat6 {v1 v2 v3 v4 v5 v6 : Value} {i : Nat} (I : jgI) {pre : List Value → jgS → Prop} {f : List Value → jgS → jgR} (hd : decode M.1 pc = .ok (.invokestatic i, 3)) (hp : jgfind M.2.1 i = some (jpC I (jsp pre f))) (h0 : I.1 = 1 ∨ I.1 = 4) (hn : I.2.2.2.2.2.2.1 = 6) : Jr G M pc ls (v6 :: v5 :: v4 :: v3 :: v2 :: v1 :: st) σ Φ ↔ jcat st ≤ 8 ∧ pre [v1, v2, v3, v4, v5, v6] σ ∧ jk G M pc ls st Φ (f [v1, v2, v3, v4, v5, v6] σ) := by
  rw [jr_step hd]
  simp only [jgOp, hp, true_and, Option.some.injEq, Sum.inr.injEq, Sum.inl.injEq, Prod.mk.injEq]
  constructor
  · rintro ⟨I', S', ⟨rfl, rfl⟩, -, -, h4, h5⟩
    rw [hn] at h4 h5
    exact ⟨h4, jsp_ex.mp h5⟩
  · rintro ⟨h4, h5⟩
    refine ⟨I, _, ⟨rfl, rfl⟩, h0, by rw [hn]; simp, by rw [hn]; exact h4, ?_⟩
    rw [hn]
    exact jsp_ex.mpr h5
theorem jq_init {i b : Nat} (I : jgI) {pre : List Value → jgS → Prop} {f : List Value → jgS → jgR} {σ' : jgS} (hd : decode M.1 pc = .ok (.invokespecial i, 3)) (hp : jgfind M.2.1 i = some (jpC I (jsp pre f))) (h0 : I.1 = 2 ∨ I.1 = 3) (hn : I.2.2.2.2.2.2.1 = 0) (hcat : jcat st ≤ 8) (hpre : pre [.ref b] σ) (hf : f [.ref b] σ = (.inl none, σ')) (k : Jr G M (pc + 3) ls st σ' Φ) : Jr G M pc ls (.ref b :: st) σ Φ := by
  rw [jr_step hd]
  refine ⟨rfl, Or.inr ⟨I, _, b, [], hp, h0, by rw [hn]; simp, by rw [hn]; rfl, by rw [hn]; exact hcat, σ', ⟨hpre, hf.symm⟩, ?_⟩⟩
  rw [hn]
  exact k
theorem jq_obj {i a : Nat} (q : Nat) (hd : decode M.1 pc = .ok (.invokespecial i, 3)) (hp : jgfind M.2.1 i = some jpO) (hq : pc + 3 = q) (hcat : jcat st ≤ 8) : Jr G M pc ls (.ref a :: st) σ Φ ↔ Jr G M q ls st σ Φ := by
  subst hq
  rw [jr_step hd]
  simp [jgOp, hp, hcat]
theorem jq_gets {i : Nat} (w q : Nat) (hd : decode M.1 pc = .ok (.getstatic i, 3)) (hp : jgfind M.2.1 i = some (jpS w)) (hq : pc + 3 = q) : Jr G M pc ls st σ Φ ↔ Jr G M q ls (.ref (if w = 0 then G.2.1 else G.2.2.1) :: st) σ Φ := by
  subst hq
  rw [jr_step hd]
  simp [jgOp, hp]
theorem jq_tsw {x : Int32} {d lo hi : Int} {offs : Array Int} {len : Nat} (hd : decode M.1 pc = .ok (.tableswitch d lo hi offs, len)) : Jr G M pc ls (.int x :: st) σ Φ ↔ ((x.toInt < lo ∨ hi < x.toInt) → jtgt pc d fun t => Jr G M t ls st σ Φ) ∧ (¬ (x.toInt < lo ∨ hi < x.toInt) → ∃ off, offs[(x.toInt - lo).toNat]? = some off ∧ jtgt pc off fun t => Jr G M t ls st σ Φ) := by
  rw [jr_step hd]
  simp only [jgOp, List.cons.injEq, Value.int.injEq]
  constructor
  · rintro ⟨x', rest, ⟨rfl, rfl⟩, h⟩
    exact h
  · exact fun h => ⟨x, st, ⟨rfl, rfl⟩, h⟩
theorem jq_tswI {x : Int32} {d lo hi off : Int} {offs : Array Int} {len : Nat} (t : Nat) (hd : decode M.1 pc = .ok (.tableswitch d lo hi offs, len)) (h : ¬ (x.toInt < lo ∨ hi < x.toInt)) (ho : offs[(x.toInt - lo).toNat]? = some off) (ht : (pc : Int) + off = (t : Int)) : Jr G M pc ls (.int x :: st) σ Φ ↔ Jr G M t ls st σ Φ := by
  rw [jq_tsw hd]
  simp only [h, ho, not_false_eq_true, true_implies, Option.some.injEq, false_implies, true_and, exists_eq_left', jtgt_eq ht]
theorem jq_tswO {x : Int32} {d lo hi : Int} {offs : Array Int} {len : Nat} (t : Nat) (hd : decode M.1 pc = .ok (.tableswitch d lo hi offs, len)) (h : x.toInt < lo ∨ hi < x.toInt) (ht : (pc : Int) + d = (t : Int)) : Jr G M pc ls (.int x :: st) σ Φ ↔ Jr G M t ls st σ Φ := by
  rw [jq_tsw hd]
  simp only [h, not_true_eq_false, true_implies, false_implies, and_true, jtgt_eq ht]
theorem jq_lsw {x : Int32} {d : Int} {ps : Array (Int × Int)} {len : Nat} (t : Nat) (hd : decode M.1 pc = .ok (.lookupswitch d ps, len)) (hp : (ps.toList.zip (ps.toList.drop 1)).all (fun (a, next) => a.1 < next.1) = true) (ht : (pc : Int) + Op.lookupswitch.offset ps.toList d x.toInt = (t : Int)) : Jr G M pc ls (.int x :: st) σ Φ ↔ Jr G M t ls st σ Φ := by
  rw [jr_step hd]
  simp only [jgOp, List.cons.injEq, Value.int.injEq]
  constructor
  · rintro ⟨-, x', rest, ⟨rfl, rfl⟩, h⟩
    exact (jtgt_eq ht).mp h
  · exact fun h => ⟨hp, x, st, ⟨rfl, rfl⟩, (jtgt_eq ht).mpr h⟩
end JQ
