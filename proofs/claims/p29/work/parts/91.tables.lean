/-! the walk of the law -/
theorem wk_X {s : State} {t : Nat} {f : Nat → Int32} {cell : Cell} (c1 : s.heap[t]? = some cell) (c2 : s.isArrayOf cell .int) (c3 : cell.vm ≠ .unknown) (c4 : cell.slots.size = 4) (c5 : ∀ j : Nat, j < 4 → cell.slots[j]? = some (.int (f j))) : va_X t 4 f s s.heap := ⟨cell, c1, c2, c3, c4, c5⟩
