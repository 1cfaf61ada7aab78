theorem iPar_eq {S A : zS} {k : Nat} (h1 : A.2.2.1 15 = S.2.2.1 15) (h2 : A.2.2.1 16 = S.2.2.1 16) {f : Nat → Int32} (h : iPar S k) : iPar (zsA A 24 f) k := by
  unfold iPar parentOf at h ⊢
  simp only [zsA_g, h1, h2]
  exact h
