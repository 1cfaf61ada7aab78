theorem zsL_t (S : zS) (v : Nat) : (zsN S 0 v).2.2.2 = S.2.2.2 := rfl
theorem zlt_n {x y : Int32} (h : x < y) : ¬ y ≤ x := by rw [Int32.le_iff_toInt_le]; rw [Int32.lt_iff_toInt_lt] at h; omega
theorem znlt {x y : Int32} (h : ¬ x < y) : y ≤ x := by rw [Int32.le_iff_toInt_le]; rw [Int32.lt_iff_toInt_lt] at h; omega
