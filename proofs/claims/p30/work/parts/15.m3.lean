theorem isNum_out {w x : Int32} (h : w.toInt < 0 ∨ 6 < w.toInt) : isNum w x = rng x 0 1 := by
  have hne : ∀ j : Nat, j < 7 → w ≠ nI j := fun j hj e => by
    rw [e, nI_toInt (by omega)] at h
    omega
  unfold isNum
  rw [if_neg (show ¬ w = 0 from hne 0 (by decide)), if_neg (show ¬ w = 1 from hne 1 (by decide)), if_neg (show ¬ w = 2 from hne 2 (by decide)), if_neg (show ¬ w = 3 from hne 3 (by decide)), if_neg (show ¬ w = 6 from hne 6 (by decide))]
