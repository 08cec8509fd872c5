/-! the bits: what the checks give -/
theorem kcb_all {k : Nat} (hk : k < 513) : kcb k = true := by
  have key : ∀ b, ((List.range 57).all fun k => kcb (b + k)) = true → b ≤ k → k < b + 57 → kcb k = true := by
    intro b h h1 h2
    have := List.all_eq_true.mp h (k - b) (List.mem_range.mpr (by omega))
    rwa [show b + (k - b) = k by omega] at this
  rcases Nat.lt_or_ge k 57 with h0 | h0
  · exact key 0 kcb_0 (by omega) (by omega)
  rcases Nat.lt_or_ge k 114 with h1 | h1
  · exact key 57 kcb_1 (by omega) (by omega)
  rcases Nat.lt_or_ge k 171 with h2 | h2
  · exact key 114 kcb_2 (by omega) (by omega)
  rcases Nat.lt_or_ge k 228 with h3 | h3
  · exact key 171 kcb_3 (by omega) (by omega)
  rcases Nat.lt_or_ge k 285 with h4 | h4
  · exact key 228 kcb_4 (by omega) (by omega)
  rcases Nat.lt_or_ge k 342 with h5 | h5
  · exact key 285 kcb_5 (by omega) (by omega)
  rcases Nat.lt_or_ge k 399 with h6 | h6
  · exact key 342 kcb_6 (by omega) (by omega)
  rcases Nat.lt_or_ge k 456 with h7 | h7
  · exact key 399 kcb_7 (by omega) (by omega)
  rcases Nat.lt_or_ge k 513 with h8 | h8
  · exact key 456 kcb_8 (by omega) (by omega)
  omega
theorem knn_n {r : UInt64} (h : knn r = true) : vf_n64 r := by
  unfold knn at h
  have h2 := of_decide_eq_true h
  exact h2
theorem kbit {k : Nat} (hk : k < 513) : vf_n64 (kd1 k) ∧ vf_n64 (kd2 k) ∧ jbp (kd2 k) ∧ (¬ lg_cmp (mb1 (1 + (nI k).toInt64) 10).1 (1 + (nI k).toInt64) < 0) ∧ jbV (kd2 k) = mbV (1 + (nI k).toInt64) := by
  have h := kcb_all hk
  unfold kcb kck kcv at h
  simp only [Bool.and_eq_true] at h
  obtain ⟨⟨⟨⟨⟨⟨⟨h1, h2⟩, h3⟩, h4⟩, h5⟩, h6⟩, h7⟩, h8⟩ := h
  refine ⟨knn_n h1, knn_n h2, ⟨fun i hi hc => ?_, of_decide_eq_true h4, knn_n h5, knn_n h6⟩, of_decide_eq_true h7, of_decide_eq_true h8⟩
  have h9 := List.all_eq_true.mp h3 i (List.mem_range.mpr hi)
  rcases Bool.or_eq_true_iff.mp h9 with z | z
  · exact absurd (of_decide_eq_true z) hc
  · exact knn_n z
