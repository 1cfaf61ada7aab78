theorem canMarry_30 {S : zS} {h w : Nat} (e : canMarry S h w = true) : S.1 25 ≠ 30 := by
  unfold canMarry at e
  simp only [Bool.and_eq_true, decide_eq_true_eq] at e
  exact e.2.2.1
