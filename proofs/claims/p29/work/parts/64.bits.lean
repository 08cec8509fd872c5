/-! one divided by a number: no NaN, and like itself -/
def kd1 (k : Nat) : UInt64 := FP.dadd 4607182418800017408 (FP.i2d (nI k))
def kd2 (k : Nat) : UInt64 := FP.ddiv 4607182418800017408 (kd1 k)
def knn (r : UInt64) : Bool := decide (r &&& 0x7fffffffffffffff ≤ 0x7ff0000000000000)
def kck (k : Nat) : Bool := knn (kd1 k) && knn (kd2 k) && decide (Op.cmpValue (FP.dcmp (kd2 k) (kd2 k)) .l = 0)
theorem kck_a : ((List.range 64).all kck) = true := by decide +kernel
theorem knn_n {r : UInt64} (h : knn r = true) : vf_n64 r := by
  unfold knn at h
  have h2 := of_decide_eq_true h
  exact h2
theorem kbit {k : Nat} (hk : k < 64) : vf_n64 (kd1 k) ∧ vf_n64 (kd2 k) ∧ Op.cmpValue (FP.dcmp (kd2 k) (kd2 k)) .l = 0 := by
  have h := List.all_eq_true.mp kck_a k (List.mem_range.mpr hk)
  unfold kck at h
  simp only [Bool.and_eq_true] at h
  exact ⟨knn_n h.1.1, knn_n h.1.2, of_decide_eq_true h.2⟩
