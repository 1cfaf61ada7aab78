theorem z30 (a : Nat) : nI a + 30 = nI (a + 30) := nI_add a 30
theorem zlt_jf {x y : Int64} (h : y ≤ x) : ¬ x < y := by rw [Int64.lt_iff_toInt_lt]; rw [Int64.le_iff_toInt_le] at h; omega
theorem zlt_jt {x y : Int64} (h : ¬ y ≤ x) : x < y := by rw [Int64.lt_iff_toInt_lt]; rw [Int64.le_iff_toInt_le] at h; omega
