/-! the bits of one divided by a number, both ways -/
def kd1 (k : Nat) : UInt64 := FP.dadd 4607182418800017408 (FP.i2d (nI k))
def kd2 (k : Nat) : UInt64 := FP.ddiv 4607182418800017408 (kd1 k)
def knn (r : UInt64) : Bool := decide (r &&& 0x7fffffffffffffff ≤ 0x7ff0000000000000)
def kck (k : Nat) : Bool := knn (kd1 k) && knn (kd2 k) && ((List.range 10).all fun i => decide (0 ≤ Op.cmpValue (FP.dcmp ((jb1 (kd2 k) i).1) 4607182418800017408) .g) || knn (FP.dmul (jb1 (kd2 k) i).1 4611686018427387904)) && decide (0 ≤ Op.cmpValue (FP.dcmp ((jb1 (kd2 k) 10).1) 4607182418800017408) .g) && knn (FP.dsub (jb1 (kd2 k) 10).1 4607182418800017408) && knn (FP.dmul (FP.dsub (jb1 (kd2 k) 10).1 4607182418800017408) 4841369599423283200) && decide (¬ lg_cmp (mb1 (1 + (nI k).toInt64) 10).1 (1 + (nI k).toInt64) < 0)
def kcv (k : Nat) : Bool := decide (jbV (kd2 k) = mbV (1 + (nI k).toInt64))
def kcb (k : Nat) : Bool := kck k && kcv k
theorem kcb_0 : ((List.range 57).all fun k => kcb (0 + k)) = true := by decide +kernel
theorem kcb_1 : ((List.range 57).all fun k => kcb (57 + k)) = true := by decide +kernel
theorem kcb_2 : ((List.range 57).all fun k => kcb (114 + k)) = true := by decide +kernel
theorem kcb_3 : ((List.range 57).all fun k => kcb (171 + k)) = true := by decide +kernel
theorem kcb_4 : ((List.range 57).all fun k => kcb (228 + k)) = true := by decide +kernel
theorem kcb_5 : ((List.range 57).all fun k => kcb (285 + k)) = true := by decide +kernel
theorem kcb_6 : ((List.range 57).all fun k => kcb (342 + k)) = true := by decide +kernel
theorem kcb_7 : ((List.range 57).all fun k => kcb (399 + k)) = true := by decide +kernel
theorem kcb_8 : ((List.range 57).all fun k => kcb (456 + k)) = true := by decide +kernel
