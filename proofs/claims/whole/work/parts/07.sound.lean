section JM
variable {p : Program} {l : Launch} {e : Env} {R : Room} {s : State} {m : MethodId} {args : Array Value} {below : List Frame} {meth : Method} {c : Code} {Q : State → Prop} {G : jgG} {M : jgM} {D : va_G} {cy : Nat → ClassId} {own : String} {nL sl0 : Nat} {Φ : jgR → Prop}
/-- the heap only grows -/
theorem jr_up {pc : Nat} {ls : List (Option Value)} {st : List Value} {σ : jgS} {ins : Instr} {len : Nat} (hpo : ∀ q ∈ M.2.1, jPok l D cy G own R q) (h : jgOp G M pc ins len ls st σ (fun _ _ _ σ' => ∃ r, Φ r ∧ jhs σ' ≤ jhs r.2 ∧ jsl σ' ≤ jsl r.2) Φ) : ∃ r, Φ r ∧ jhs σ ≤ jhs r.2 ∧ jsl σ ≤ jsl r.2 := by
  have call : ∀ (I : jgI) (S : jgSpec) (i : Nat) (As : List Value) (r : jgR) (rest : List Value), jgfind M.2.1 i = some (jpC I S) → S As σ r → jcall M pc ls rest (fun _ _ _ σ' => ∃ r, Φ r ∧ jhs σ' ≤ jhs r.2 ∧ jsl σ' ≤ jsl r.2) Φ r → ∃ r, Φ r ∧ jhs σ ≤ jhs r.2 ∧ jsl σ ≤ jsl r.2 := by
    intro I S i As r rest hf hS hk
    obtain ⟨m1, m2, -⟩ := (hpo _ (jgfind_mem hf)).2 _ _ _ hS
    unfold jcall at hk
    split at hk
    · obtain ⟨r2, h1, h2, h3⟩ := hk
      exact ⟨r2, h1, by omega, by omega⟩
    · split at hk
      · obtain ⟨r2, h1, h2, h3⟩ := hk 0
        exact ⟨r2, h1, by omega, by omega⟩
      · exact ⟨_, hk, m1, m2⟩
  have tgt : ∀ off, jtgt pc off (fun _ => ∃ r, Φ r ∧ jhs σ ≤ jhs r.2 ∧ jsl σ ≤ jsl r.2) → ∃ r, Φ r ∧ jhs σ ≤ jhs r.2 ∧ jsl σ ≤ jsl r.2 := fun off h => by
    obtain ⟨_, -, h⟩ := h
    exact h
  unfold jgOp at h
  split at h
  all_goals try (exact h.elim)
  all_goals try (repeat (first | exact h | exact tgt _ h | obtain ⟨_, h⟩ := h))
  all_goals sorry
end JM
