theorem zgt_n {x y : Int32} (h : y < x) : ¬ x ≤ y := by rw [Int32.le_iff_toInt_le]; rw [Int32.lt_iff_toInt_lt] at h; omega
theorem zngt {x y : Int32} (h : ¬ y < x) : x ≤ y := by rw [Int32.le_iff_toInt_le]; rw [Int32.lt_iff_toInt_lt] at h; omega
theorem nI_pos_lt {n : Nat} (h0 : 0 < n) (h : n < 2 ^ 31) : 0 < nI n := by
  rw [Int32.lt_iff_toInt_lt, nI_toInt h]
  show (0 : Int) < _
  omega
