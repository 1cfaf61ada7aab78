/-! both objects at once -/
theorem lc_pair {T : Nat → zK → zS → Prop} {n : Nat} {Ko Kp K1 K2 : zK} {S1 : zS} {x y : Nat} {cds : List Nat} {e f : Prop} (h : lcal T n Ko x cds K1 S1 e) (h2 : lcal T n Kp y cds K2 S1 f) (hx : x = 0 ∨ ∃ j : Nat, cds[j]? = some x) (hy : y = 0 ∨ ∃ j : Nat, cds[j]? = some y) : (x = 0 → y = 0 ∧ e ∧ f ∧ T (n + 1) K1 S1 ∧ T (n + 1) K2 S1 ∧ cF Ko ≤ cF K1 ∧ cF Kp ≤ cF K2) ∧ (¬ x = 0 → ¬ y = 0) := by
  constructor
  · intro h0
    obtain ⟨a1, a2, a3, a4⟩ := h.1 h0
    rcases hy with hy | ⟨j, hj⟩
    · obtain ⟨b1, b2, b3, b4⟩ := h2.1 hy
      exact ⟨hy, a2, b2, a3, b3, a4, b4⟩
    · have := (h2.2 j y hj rfl).1
      omega
  · intro h0 h1
    obtain ⟨j, hj⟩ := hx.resolve_left h0
    have := (h.2 j x hj rfl).1
    have := (h2.1 h1).1
    omega
theorem cx_community (K : zK)  : x_community K  = 0 ∨ ∃ j : Nat, ([3] : List Nat)[j]? = some (x_community K ) := by
  unfold x_community
  (repeat' split) <;> first | exact Or.inl rfl | exact Or.inr ⟨0, rfl⟩
theorem cx_recognise (K : zK) (a : Int32) : x_recognise K a = 0 ∨ ∃ j : Nat, ([1] : List Nat)[j]? = some (x_recognise K a) := by
  unfold x_recognise
  (repeat' split) <;> first | exact Or.inl rfl | exact Or.inr ⟨0, rfl⟩
theorem cx_decree (K : zK) (a b c : Int32) : x_decree K a b c = 0 ∨ ∃ j : Nat, ([1, 2, 3] : List Nat)[j]? = some (x_decree K a b c) := by
  unfold x_decree
  (repeat' split) <;> first | exact Or.inl rfl | exact Or.inr ⟨0, rfl⟩ | exact Or.inr ⟨1, rfl⟩ | exact Or.inr ⟨2, rfl⟩
theorem cx_rule (K : zK) (a b : Int32) : x_rule K a b = 0 ∨ ∃ j : Nat, ([2, 3] : List Nat)[j]? = some (x_rule K a b) := by
  unfold x_rule
  (repeat' split) <;> first | exact Or.inl rfl | exact Or.inr ⟨0, rfl⟩ | exact Or.inr ⟨1, rfl⟩
theorem cx_law (K : zK) (a b c : Int32) : x_law K a b c = 0 ∨ ∃ j : Nat, ([1, 2] : List Nat)[j]? = some (x_law K a b c) := by
  unfold x_law
  (repeat' split) <;> first | exact Or.inl rfl | exact Or.inr ⟨0, rfl⟩ | exact Or.inr ⟨1, rfl⟩
theorem cx_court (K : zK) (a b c d : Int32) : x_court K a b c d = 0 ∨ ∃ j : Nat, ([1, 2] : List Nat)[j]? = some (x_court K a b c d) := by
  unfold x_court
  (repeat' split) <;> first | exact Or.inl rfl | exact Or.inr ⟨0, rfl⟩ | exact Or.inr ⟨1, rfl⟩
theorem cx_person (K : zK) (a b c : Int32) : x_person K a b c = 0 ∨ ∃ j : Nat, ([1, 2, 3] : List Nat)[j]? = some (x_person K a b c) := by
  unfold x_person
  (repeat' split) <;> first | exact Or.inl rfl | exact Or.inr ⟨0, rfl⟩ | exact Or.inr ⟨1, rfl⟩ | exact Or.inr ⟨2, rfl⟩
theorem cx_turn (K : zK) (a b c d : Int32) : x_turn K a b c d = 0 ∨ ∃ j : Nat, ([1, 2, 3] : List Nat)[j]? = some (x_turn K a b c d) := by
  unfold x_turn
  (repeat' split) <;> first | exact Or.inl rfl | exact Or.inr ⟨0, rfl⟩ | exact Or.inr ⟨1, rfl⟩ | exact Or.inr ⟨2, rfl⟩
theorem cx_recant (K : zK) (a : Int32) : x_recant K a = 0 ∨ ∃ j : Nat, ([1, 3] : List Nat)[j]? = some (x_recant K a) := by
  unfold x_recant
  (repeat' split) <;> first | exact Or.inl rfl | exact Or.inr ⟨0, rfl⟩ | exact Or.inr ⟨1, rfl⟩
theorem cx_faith (K : zK) (a b : Int32) : x_faith K a b = 0 ∨ ∃ j : Nat, ([1, 2] : List Nat)[j]? = some (x_faith K a b) := by
  unfold x_faith
  (repeat' split) <;> first | exact Or.inl rfl | exact Or.inr ⟨0, rfl⟩ | exact Or.inr ⟨1, rfl⟩
theorem cx_marry (K : zK) (a b c : Int32) : x_marry K a b c = 0 ∨ ∃ j : Nat, ([1, 2, 3] : List Nat)[j]? = some (x_marry K a b c) := by
  unfold x_marry
  (repeat' split) <;> first | exact Or.inl rfl | exact Or.inr ⟨0, rfl⟩ | exact Or.inr ⟨1, rfl⟩ | exact Or.inr ⟨2, rfl⟩
theorem cx_divorce (K : zK) (a : Int32) : x_divorce K a = 0 ∨ ∃ j : Nat, ([1, 3] : List Nat)[j]? = some (x_divorce K a) := by
  unfold x_divorce
  (repeat' split) <;> first | exact Or.inl rfl | exact Or.inr ⟨0, rfl⟩ | exact Or.inr ⟨1, rfl⟩
theorem cx_goods (K : zK) (a b : Int32) : x_goods K a b = 0 ∨ ∃ j : Nat, ([1, 2, 3] : List Nat)[j]? = some (x_goods K a b) := by
  unfold x_goods
  (repeat' split) <;> first | exact Or.inl rfl | exact Or.inr ⟨0, rfl⟩ | exact Or.inr ⟨1, rfl⟩ | exact Or.inr ⟨2, rfl⟩
theorem cx_dies (K : zK) (a : Int32) : x_dies K a = 0 ∨ ∃ j : Nat, ([1, 3] : List Nat)[j]? = some (x_dies K a) := by
  unfold x_dies
  (repeat' split) <;> first | exact Or.inl rfl | exact Or.inr ⟨0, rfl⟩ | exact Or.inr ⟨1, rfl⟩
theorem cx_sue (K : zK) (a b c d : Int32) : x_sue K a b c d = 0 ∨ ∃ j : Nat, ([1, 2, 3] : List Nat)[j]? = some (x_sue K a b c d) := by
  unfold x_sue
  (repeat' split) <;> first | exact Or.inl rfl | exact Or.inr ⟨0, rfl⟩ | exact Or.inr ⟨1, rfl⟩ | exact Or.inr ⟨2, rfl⟩
theorem cx_appear (K : zK) (a : Int32) : x_appear K a = 0 ∨ ∃ j : Nat, ([1, 3] : List Nat)[j]? = some (x_appear K a) := by
  unfold x_appear
  (repeat' split) <;> first | exact Or.inl rfl | exact Or.inr ⟨0, rfl⟩ | exact Or.inr ⟨1, rfl⟩
theorem cx_testify (K : zK) (a b : Int32) : x_testify K a b = 0 ∨ ∃ j : Nat, ([1, 3] : List Nat)[j]? = some (x_testify K a b) := by
  unfold x_testify
  (repeat' split) <;> first | exact Or.inl rfl | exact Or.inr ⟨0, rfl⟩ | exact Or.inr ⟨1, rfl⟩
theorem cx_judge (K : zK) (a : Int32) : x_judge K a = 0 ∨ ∃ j : Nat, ([1, 3] : List Nat)[j]? = some (x_judge K a) := by
  unfold x_judge
  (repeat' split) <;> first | exact Or.inl rfl | exact Or.inr ⟨0, rfl⟩ | exact Or.inr ⟨1, rfl⟩
theorem cx_appeal (K : zK) (a : Int32) : x_appeal K a = 0 ∨ ∃ j : Nat, ([1, 3] : List Nat)[j]? = some (x_appeal K a) := by
  unfold x_appeal
  (repeat' split) <;> first | exact Or.inl rfl | exact Or.inr ⟨0, rfl⟩ | exact Or.inr ⟨1, rfl⟩
theorem cx_execute (K : zK) (a : Int32) : x_execute K a = 0 ∨ ∃ j : Nat, ([1, 3] : List Nat)[j]? = some (x_execute K a) := by
  unfold x_execute
  (repeat' split) <;> first | exact Or.inl rfl | exact Or.inr ⟨0, rfl⟩ | exact Or.inr ⟨1, rfl⟩
theorem cx_wins (K : zK) (a b : Int32) : x_wins K a b = 0 ∨ ∃ j : Nat, ([1] : List Nat)[j]? = some (x_wins K a b) := by
  unfold x_wins
  (repeat' split) <;> first | exact Or.inl rfl | exact Or.inr ⟨0, rfl⟩
theorem cx_pass (K : zK) (a : Int32) : x_pass K a = 0 ∨ ∃ j : Nat, ([2, 3] : List Nat)[j]? = some (x_pass K a) := by
  unfold x_pass
  (repeat' split) <;> first | exact Or.inl rfl | exact Or.inr ⟨0, rfl⟩ | exact Or.inr ⟨1, rfl⟩
theorem cx_of (n : Nat) (hi p w : Int32) : x_of n hi p w = 0 ∨ ∃ j : Nat, ([1, 2] : List Nat)[j]? = some (x_of n hi p w) := by
  unfold x_of
  (repeat' split) <;> first | exact Or.inl rfl | exact Or.inr ⟨0, rfl⟩ | exact Or.inr ⟨1, rfl⟩
theorem pcall {n : Nat} {Ko Kp : zK} {S : zS} (h : tie2 n Ko S) (h2 : tie2 n Kp S) (hn : n < 512) (j : Nat) (a b c d : Int32) (hj : j ≤ 24) : (dX Ko j a b c d = 0 → dX Kp j a b c d = 0 ∧ dA Ko j a b c d = dA Kp j a b c d ∧ (∃ S1, tie2 (n + 1) (dK Ko j a b c d) S1 ∧ tie2 (n + 1) (dK Kp j a b c d) S1) ∧ cF Ko ≤ cF (dK Ko j a b c d) ∧ cF Kp ≤ cF (dK Kp j a b c d)) ∧ (¬ dX Ko j a b c d = 0 → ¬ dX Kp j a b c d = 0) := by
  obtain ⟨-, -, -, p_community, p_recognise, p_decree, p_rule, p_law, p_court, p_person, p_turn, p_recant, p_faith, p_marry, p_divorce, p_goods, p_dies, p_sue, p_appear, p_testify, p_judge, p_appeal, p_execute, p_wins, p_ofPerson, p_ofMarriage, p_ofSuit, p_treasury, p_all, p_pass⟩ := tie_pack
  match j, hj with
  | 0, _ =>
    have q := lc_pair (p_community n Ko S h hn ) (p_community n Kp S h2 hn ) (cx_community Ko ) (cx_community Kp )
    refine ⟨fun hx => ?_, fun hx => q.2 hx⟩
    obtain ⟨x2, e1, e2, t1, t2, f1, f2⟩ := q.1 hx
    exact ⟨x2, congrArg Int32.toInt64 (e1.trans e2.symm), ⟨_, t1, t2⟩, f1, f2⟩
  | 1, _ =>
    have q := lc_pair (p_recognise n Ko S h hn a (decide (b = 1))) (p_recognise n Kp S h2 hn a (decide (b = 1))) (cx_recognise Ko a) (cx_recognise Kp a)
    refine ⟨fun hx => ?_, fun hx => q.2 hx⟩
    obtain ⟨x2, e1, e2, t1, t2, f1, f2⟩ := q.1 hx
    exact ⟨x2, congrArg Int32.toInt64 (e1.trans e2.symm), ⟨_, t1, t2⟩, f1, f2⟩
  | 2, _ =>
    have q := lc_pair (p_decree n Ko S h hn a b c) (p_decree n Kp S h2 hn a b c) (cx_decree Ko a b c) (cx_decree Kp a b c)
    refine ⟨fun hx => ?_, fun hx => q.2 hx⟩
    obtain ⟨x2, e1, e2, t1, t2, f1, f2⟩ := q.1 hx
    exact ⟨x2, congrArg Int32.toInt64 (e1.trans e2.symm), ⟨_, t1, t2⟩, f1, f2⟩
  | 3, _ =>
    have q := lc_pair (p_rule n Ko S h hn a b) (p_rule n Kp S h2 hn a b) (cx_rule Ko a b) (cx_rule Kp a b)
    refine ⟨fun hx => ?_, fun hx => q.2 hx⟩
    obtain ⟨x2, e1, e2, t1, t2, f1, f2⟩ := q.1 hx
    exact ⟨x2, congrArg Int32.toInt64 (e1.trans e2.symm), ⟨_, t1, t2⟩, f1, f2⟩
  | 4, _ =>
    have q := lc_pair (p_law n Ko S h hn a b c) (p_law n Kp S h2 hn a b c) (cx_law Ko a b c) (cx_law Kp a b c)
    refine ⟨fun hx => ?_, fun hx => q.2 hx⟩
    obtain ⟨x2, e1, e2, t1, t2, f1, f2⟩ := q.1 hx
    exact ⟨x2, congrArg Int32.toInt64 (e1.trans e2.symm), ⟨_, t1, t2⟩, f1, f2⟩
  | 5, _ =>
    have q := lc_pair (p_court n Ko S h hn a b c d) (p_court n Kp S h2 hn a b c d) (cx_court Ko a b c d) (cx_court Kp a b c d)
    refine ⟨fun hx => ?_, fun hx => q.2 hx⟩
    obtain ⟨x2, e1, e2, t1, t2, f1, f2⟩ := q.1 hx
    exact ⟨x2, congrArg Int32.toInt64 (e1.trans e2.symm), ⟨_, t1, t2⟩, f1, f2⟩
  | 6, _ =>
    have q := lc_pair (p_person n Ko S h hn (decide (d = 1)) a b (c - 1)) (p_person n Kp S h2 hn (decide (d = 1)) a b (c - 1)) (cx_person Ko a b (c - 1)) (cx_person Kp a b (c - 1))
    refine ⟨fun hx => ?_, fun hx => q.2 hx⟩
    obtain ⟨x2, e1, e2, t1, t2, f1, f2⟩ := q.1 hx
    exact ⟨x2, congrArg Int32.toInt64 (e1.trans e2.symm), ⟨_, t1, t2⟩, f1, f2⟩
  | 7, _ =>
    have q := lc_pair (p_turn n Ko S h hn a b c d) (p_turn n Kp S h2 hn a b c d) (cx_turn Ko a b c d) (cx_turn Kp a b c d)
    refine ⟨fun hx => ?_, fun hx => q.2 hx⟩
    obtain ⟨x2, e1, e2, t1, t2, f1, f2⟩ := q.1 hx
    exact ⟨x2, congrArg Int32.toInt64 (e1.trans e2.symm), ⟨_, t1, t2⟩, f1, f2⟩
  | 8, _ =>
    have q := lc_pair (p_recant n Ko S h hn a) (p_recant n Kp S h2 hn a) (cx_recant Ko a) (cx_recant Kp a)
    refine ⟨fun hx => ?_, fun hx => q.2 hx⟩
    obtain ⟨x2, e1, e2, t1, t2, f1, f2⟩ := q.1 hx
    exact ⟨x2, congrArg Int32.toInt64 (e1.trans e2.symm), ⟨_, t1, t2⟩, f1, f2⟩
  | 9, _ =>
    have q := lc_pair (p_faith n Ko S h hn a b) (p_faith n Kp S h2 hn a b) (cx_faith Ko a b) (cx_faith Kp a b)
    refine ⟨fun hx => ?_, fun hx => q.2 hx⟩
    obtain ⟨x2, e1, e2, t1, t2, f1, f2⟩ := q.1 hx
    exact ⟨x2, congrArg Int32.toInt64 (e1.trans e2.symm), ⟨_, t1, t2⟩, f1, f2⟩
  | 10, _ =>
    have q := lc_pair (p_marry n Ko S h hn a b c) (p_marry n Kp S h2 hn a b c) (cx_marry Ko a b c) (cx_marry Kp a b c)
    refine ⟨fun hx => ?_, fun hx => q.2 hx⟩
    obtain ⟨x2, e1, e2, t1, t2, f1, f2⟩ := q.1 hx
    exact ⟨x2, congrArg Int32.toInt64 (e1.trans e2.symm), ⟨_, t1, t2⟩, f1, f2⟩
  | 11, _ =>
    have q := lc_pair (p_divorce n Ko S h hn a (decide (b = 1))) (p_divorce n Kp S h2 hn a (decide (b = 1))) (cx_divorce Ko a) (cx_divorce Kp a)
    refine ⟨fun hx => ?_, fun hx => q.2 hx⟩
    obtain ⟨x2, e1, e2, t1, t2, f1, f2⟩ := q.1 hx
    exact ⟨x2, congrArg Int32.toInt64 (e1.trans e2.symm), ⟨_, t1, t2⟩, f1, f2⟩
  | 12, _ =>
    have q := lc_pair (p_goods n Ko S h hn a b) (p_goods n Kp S h2 hn a b) (cx_goods Ko a b) (cx_goods Kp a b)
    refine ⟨fun hx => ?_, fun hx => q.2 hx⟩
    obtain ⟨x2, e1, e2, t1, t2, f1, f2⟩ := q.1 hx
    exact ⟨x2, e1.trans e2.symm, ⟨_, t1, t2⟩, f1, f2⟩
  | 13, _ =>
    have q := lc_pair (p_dies n Ko S h hn a) (p_dies n Kp S h2 hn a) (cx_dies Ko a) (cx_dies Kp a)
    refine ⟨fun hx => ?_, fun hx => q.2 hx⟩
    obtain ⟨x2, e1, e2, t1, t2, f1, f2⟩ := q.1 hx
    exact ⟨x2, e1.trans e2.symm, ⟨_, t1, t2⟩, f1, f2⟩
  | 14, _ =>
    have q := lc_pair (p_sue n Ko S h hn a b c d) (p_sue n Kp S h2 hn a b c d) (cx_sue Ko a b c d) (cx_sue Kp a b c d)
    refine ⟨fun hx => ?_, fun hx => q.2 hx⟩
    obtain ⟨x2, e1, e2, t1, t2, f1, f2⟩ := q.1 hx
    exact ⟨x2, congrArg Int32.toInt64 (e1.trans e2.symm), ⟨_, t1, t2⟩, f1, f2⟩
  | 15, _ =>
    have q := lc_pair (p_appear n Ko S h hn a) (p_appear n Kp S h2 hn a) (cx_appear Ko a) (cx_appear Kp a)
    refine ⟨fun hx => ?_, fun hx => q.2 hx⟩
    obtain ⟨x2, e1, e2, t1, t2, f1, f2⟩ := q.1 hx
    exact ⟨x2, congrArg Int32.toInt64 (e1.trans e2.symm), ⟨_, t1, t2⟩, f1, f2⟩
  | 16, _ =>
    have q := lc_pair (p_testify n Ko S h hn a b (decide (c = 1))) (p_testify n Kp S h2 hn a b (decide (c = 1))) (cx_testify Ko a b) (cx_testify Kp a b)
    refine ⟨fun hx => ?_, fun hx => q.2 hx⟩
    obtain ⟨x2, e1, e2, t1, t2, f1, f2⟩ := q.1 hx
    exact ⟨x2, congrArg Int32.toInt64 (e1.trans e2.symm), ⟨_, t1, t2⟩, f1, f2⟩
  | 17, _ =>
    have q := lc_pair (p_judge n Ko S h hn a) (p_judge n Kp S h2 hn a) (cx_judge Ko a) (cx_judge Kp a)
    refine ⟨fun hx => ?_, fun hx => q.2 hx⟩
    obtain ⟨x2, e1, e2, t1, t2, f1, f2⟩ := q.1 hx
    exact ⟨x2, congrArg Int32.toInt64 (e1.trans e2.symm), ⟨_, t1, t2⟩, f1, f2⟩
  | 18, _ =>
    have q := lc_pair (p_appeal n Ko S h hn a) (p_appeal n Kp S h2 hn a) (cx_appeal Ko a) (cx_appeal Kp a)
    refine ⟨fun hx => ?_, fun hx => q.2 hx⟩
    obtain ⟨x2, e1, e2, t1, t2, f1, f2⟩ := q.1 hx
    exact ⟨x2, congrArg Int32.toInt64 (e1.trans e2.symm), ⟨_, t1, t2⟩, f1, f2⟩
  | 19, _ =>
    have q := lc_pair (p_execute n Ko S h hn a) (p_execute n Kp S h2 hn a) (cx_execute Ko a) (cx_execute Kp a)
    refine ⟨fun hx => ?_, fun hx => q.2 hx⟩
    obtain ⟨x2, e1, e2, t1, t2, f1, f2⟩ := q.1 hx
    exact ⟨x2, e1.trans e2.symm, ⟨_, t1, t2⟩, f1, f2⟩
  | 20, _ =>
    have q := lc_pair (p_wins n Ko S h hn a b) (p_wins n Kp S h2 hn a b) (cx_wins Ko a b) (cx_wins Kp a b)
    refine ⟨fun hx => ?_, fun hx => q.2 hx⟩
    obtain ⟨x2, e1, e2, t1, t2, f1, f2⟩ := q.1 hx
    exact ⟨x2, congrArg Int32.toInt64 (e1.trans e2.symm), ⟨_, t1, t2⟩, f1, f2⟩
  | 21, _ =>
    have q := lc_pair (p_ofPerson n Ko S h hn a b) (p_ofPerson n Kp S h2 hn a b) (cx_of (Ko.1 13) 5 a b) (cx_of (Kp.1 13) 5 a b)
    refine ⟨fun hx => ?_, fun hx => q.2 hx⟩
    obtain ⟨x2, e1, e2, t1, t2, f1, f2⟩ := q.1 hx
    exact ⟨x2, e1.trans e2.symm, ⟨_, t1, t2⟩, f1, f2⟩
  | 22, _ =>
    have q := lc_pair (p_ofMarriage n Ko S h hn a b) (p_ofMarriage n Kp S h2 hn a b) (cx_of (Ko.1 25) 4 a b) (cx_of (Kp.1 25) 4 a b)
    refine ⟨fun hx => ?_, fun hx => q.2 hx⟩
    obtain ⟨x2, e1, e2, t1, t2, f1, f2⟩ := q.1 hx
    exact ⟨x2, congrArg Int32.toInt64 (e1.trans e2.symm), ⟨_, t1, t2⟩, f1, f2⟩
  | 23, _ =>
    have q := lc_pair (p_ofSuit n Ko S h hn a b) (p_ofSuit n Kp S h2 hn a b) (cx_of (Ko.1 33) 4 a b) (cx_of (Kp.1 33) 4 a b)
    refine ⟨fun hx => ?_, fun hx => q.2 hx⟩
    obtain ⟨x2, e1, e2, t1, t2, f1, f2⟩ := q.1 hx
    exact ⟨x2, congrArg Int32.toInt64 (e1.trans e2.symm), ⟨_, t1, t2⟩, f1, f2⟩
  | 24, _ =>
    have q := lc_pair (p_pass n Ko S h hn a) (p_pass n Kp S h2 hn a) (cx_pass Ko a) (cx_pass Kp a)
    refine ⟨fun hx => ?_, fun hx => q.2 hx⟩
    obtain ⟨x2, e1, e2, t1, t2, f1, f2⟩ := q.1 hx
    exact ⟨x2, congrArg Int32.toInt64 (e1.trans e2.symm), ⟨_, t1, t2⟩, f1, f2⟩
  | j + 25, h => exact absurd h (by omega)
theorem i64nn {v : Int64} (h : 0 ≤ v.toInt) : ¬ v = -2100000000 := fun e => by
  rw [e] at h
  exact absurd h (by decide)
theorem b2i64 (q : Bool) : 0 ≤ (b2i q).toInt64.toInt := by cases q <;> decide
theorem nI64p {m : Nat} (h : m < 2 ^ 31) : 0 ≤ (nI m).toInt64.toInt := by rw [nI64i h]; exact Int.natCast_nonneg m
theorem divorce_1 (K : zK) (m : Int32) (b : Bool) : (k_divorce K m b).1 = K.1 := by
  unfold k_divorce dv1
  (repeat' split) <;> rfl
theorem judge_1 (K : zK) (s : Int32) : (k_judge K s).1 = K.1 := by
  unfold k_judge
  split <;> rfl
theorem appeal_1 (K : zK) (s : Int32) : (k_appeal K s).1 = K.1 := by
  unfold k_appeal bckK
  (repeat' split) <;> rfl
theorem dies_1 {n : Nat} {K : zK} {S : zS} (ht : tie n K S) {j : Nat} (hj : j < K.1 13) : (k_dies K j).1 = K.1 :=
  (lvK_fr (diB K j) j (diL K j) (diQ K j (diS K j)) (diQ K j (diC K j))).1.trans (enK_fr j (di_tie ht hj).ik.2.2.1.1 (K.1 25) (Nat.le_refl _)).1.1
/-- what a call keeps, what it answers -/
def keeps (n : Nat) (B : Int) (K : zK) (j : Nat) (a b c d : Int32) : Prop :=
  iJ (B + gdI j b) (dK K j a b c d) ∧ B + gdI j b ≤ 1000000 * (n + 1) ∧
  (j = 24 → ∃ t, 1 ≤ t ∧ K.1 1 + t ≤ 30000 ∧ dA K j a b c d = (nI (K.1 1 + t)).toInt64 ∧ (dK K j a b c d).1 1 = K.1 1 + t) ∧ (¬ j = 24 → (dK K j a b c d).1 1 = K.1 1) ∧ K.1 2 ≤ (dK K j a b c d).1 2 ∧ K.1 13 ≤ (dK K j a b c d).1 13 ∧
  (j = 12 → 0 ≤ (dA K j a b c d).toInt) ∧ (j = 1 ∨ j = 2 ∨ j = 3 ∨ j = 6 ∨ j = 7 ∨ j = 8 ∨ (10 ≤ j ∧ j ≤ 19) ∨ j = 24 → 0 ≤ (dA K j a b c d).toInt)
theorem keeps_of {n : Nat} {B : Int} {K : zK} {j : Nat} {a b c d : Int32} (hB : B ≤ 1000000 * n) (h12 : ¬ j = 12) (h24 : ¬ j = 24) (hJ : iJ B (dK K j a b c d)) (h1 : (dK K j a b c d).1 1 = K.1 1) (h2 : K.1 2 ≤ (dK K j a b c d).1 2) (h13 : K.1 13 ≤ (dK K j a b c d).1 13) (ha : (j = 1 ∨ j = 2 ∨ j = 3 ∨ j = 6 ∨ j = 7 ∨ j = 8 ∨ (10 ≤ j ∧ j ≤ 19) ∨ j = 24) → 0 ≤ (dA K j a b c d).toInt) : keeps n B K j a b c d := by
  have e : gdI j b = 0 := if_neg h12
  refine ⟨by rw [e, Int.add_zero]; exact hJ, by rw [e]; omega, fun h => absurd h h24, fun _ => h1, h2, h13, fun h => absurd h h12, ha⟩
set_option maxHeartbeats 1000000 in
theorem jcall {n : Nat} {B : Int} {K : zK} {S : zS} (h : iJ B K) (ht2 : tie2 n K S) (hB : B ≤ 1000000 * n) (j : Nat) (a b c d : Int32) (hj : j ≤ 24) (hx : dX K j a b c d = 0) : keeps n B K j a b c d := by
  obtain ⟨ht, hM, hL⟩ := ht2
  have hb1 := ht.bd.1
  have hb2 := ht.bd.2.1
  have hb5 := ht.bd.2.2.2.2.1
  have hb6 := ht.bd.2.2.2.2.2.1
  have hb7 := ht.bd.2.2.2.2.2.2
  have hma := ht.ik.2.2.1.1
  have hn := ht.1.1.1
  have hBB : B ≤ 600000000 := by omega
  match j, hj with
  | 0, _ =>
    have hx : x_community K = 0 := hx
    have h6 : K.1 2 < 6 := by
      apply Classical.byContradiction
      intro hh
      rw [x_community, if_pos (decide_eq_false hh)] at hx
      cases hx
    exact keeps_of hB (by decide) (by decide) (j_community h h6) rfl (Nat.le_succ _) (Nat.le_refl _) (fun hh => absurd hh (by omega))
  | 1, _ => exact keeps_of hB (by decide) (by decide) (j_recognise h a _) rfl (Nat.le_refl _) (Nat.le_refl _) (fun _ => b2i64 _)
  | 2, _ =>
    have hx : x_decree K a b c = 0 := hx
    refine keeps_of hB (by decide) (by decide) (j_decree h a b c hx) rfl (Nat.le_refl _) (Nat.le_refl _) (fun _ => ?_)
    unfold x_decree at hx
    by_cases e1 : okK K a = false
    · rw [if_pos e1] at hx; cases hx
    rw [if_neg e1] at hx
    by_cases e2 : (wthn b 0 6 && wthn c (zLL b.toNatClampNeg) (zLH b.toNatClampNeg)) = false
    · rw [if_pos e2] at hx; cases hx
    have e2 := bF e2
    rw [Bool.and_eq_true] at e2
    obtain ⟨dd, d1, d2, rfl⟩ := rng_N (a := 0) (b := 6) (by decide) (by decide) e2.1
    obtain ⟨l, l1, l2, l3⟩ := okK_of (bF e1) hb2
    show 0 ≤ (lawK K (lixN a) (nI dd).toNatClampNeg (nI (K.1 1))).toInt64.toInt
    rw [nI_clamp (by omega), l3]
    obtain ⟨v, v1, v2⟩ := chOn_some (d := nI (K.1 1)) (P := fun x => ∃ j, j ≤ 100 ∧ x = nI j) _ (h.2.2.2.2 l dd l1 (by omega))
    have v2 : lawK K l dd (nI (K.1 1)) = nI v := v2
    rw [v2]
    exact nI64p (by omega)
  | 3, _ =>
    have hx : x_rule K a b = 0 := hx
    refine keeps_of hB (by decide) (by decide) (j_rule h a b hx) rfl (Nat.le_refl _) (Nat.le_refl _) (fun _ => ?_)
    unfold x_rule at hx
    by_cases e1 : (wthn a 0 3 && wthn b 0 3) = false
    · rw [if_pos e1] at hx; cases hx
    have e1 := bF e1
    rw [Bool.and_eq_true] at e1
    obtain ⟨dd, d1, d2, rfl⟩ := rng_N (a := 0) (b := 3) (by decide) (by decide) e1.1
    show 0 ≤ (chN (kch K (nI dd).toNatClampNeg)).toInt64.toInt
    rw [nI_clamp (by omega)]
    obtain ⟨v, v1, v2⟩ := (ht.C.2.1 dd (by omega)).2.2.2 _ (Nat.le_refl _)
    have v2 : chN (kch K dd) = nI v := v2
    rw [v2]
    exact nI64p (by omega)
  | 4, _ => exact keeps_of hB (by decide) (by decide) h rfl (Nat.le_refl _) (Nat.le_refl _) (fun hh => absurd hh (by omega))
  | 5, _ => exact keeps_of hB (by decide) (by decide) h rfl (Nat.le_refl _) (Nat.le_refl _) (fun hh => absurd hh (by omega))
  | 6, _ => exact keeps_of hB (by decide) (by decide) (j_person h _ _ _ _ hb2) rfl (Nat.le_refl _) (Nat.le_succ _) (fun _ => nI64p (by omega))
  | 7, _ =>
    refine keeps_of hB (by decide) (by decide) (iJ_pe h hma rfl rfl) rfl (Nat.le_refl _) (Nat.le_refl _) (fun _ => ?_)
    show 0 ≤ (nI (K.1 1) + 30).toInt64.toInt
    rw [show nI (K.1 1) + 30 = nI (K.1 1 + 30) from nI_add (K.1 1) 30]
    exact nI64p (by omega)
  | 8, _ =>
    have hx : x_recant K a = 0 := hx
    refine keeps_of hB (by decide) (by decide) (iJ_pe h hma rfl rfl) rfl (Nat.le_refl _) (Nat.le_refl _) (fun _ => ?_)
    unfold x_recant at hx
    by_cases e1 : zix a (K.1 13) = false
    · rw [if_pos e1] at hx; cases hx
    rw [if_neg e1] at hx
    obtain ⟨p, hp, rfl⟩ := zix_of (bF e1) (by omega)
    rw [nI_clamp (by omega)] at hx
    show 0 ≤ ((kpe K (nI p).toNatClampNeg).2.2.2.2.2.2.1).toInt64.toInt
    rw [nI_clamp (by omega)]
    obtain ⟨bb, -, -, hq⟩ := ht.P.2.1 p hp
    rcases hq with ⟨-, hq⟩ | ⟨-, -, cc, e, c1, c2, -⟩
    · rw [if_pos hq] at hx; cases hx
    · rw [c2]; exact nI64p (by omega)
  | 9, _ => exact keeps_of hB (by decide) (by decide) h rfl (Nat.le_refl _) (Nat.le_refl _) (fun hh => absurd hh (by omega))
  | 10, _ => exact keeps_of hB (by decide) (by decide) (j_marry h a b c hx) rfl (Nat.le_refl _) (Nat.le_refl _) (fun _ => nI64p (by omega))
  | 11, _ =>
    have e := divorce_1 K a (decide (b = 1))
    exact keeps_of hB (by decide) (by decide) (j_divorce h ht a _ hx) (congrFun e 1) (Nat.le_of_eq (congrFun e 2).symm) (Nat.le_of_eq (congrFun e 13).symm) (fun _ => b2i64 _)
  | 12, _ =>
    obtain ⟨q1, q2, q3, q4⟩ := j_goods h ht hn a b hx
    have e : gdI 12 b = b.toInt := rfl
    exact ⟨by rw [e]; exact q1, by rw [e]; omega, fun hh => absurd hh (by decide), fun _ => rfl, Nat.le_refl _, Nat.le_refl _, fun _ => q4, fun _ => q4⟩
  | 13, _ =>
    have hx : x_dies K a = 0 := hx
    unfold x_dies at hx
    by_cases e1 : zix a (K.1 13) = false
    · rw [if_pos e1] at hx; cases hx
    obtain ⟨p, hp, rfl⟩ := zix_of (bF e1) (by omega)
    have e : (dK K 13 (nI p) b c d).1 = K.1 := by
      show (k_dies K (nI p).toNatClampNeg).1 = K.1
      rw [nI_clamp (by omega)]
      exact dies_1 ht hp
    obtain ⟨q1, q2⟩ := j_dies h hBB ht hM hL hp
    refine keeps_of hB (by decide) (by decide) ?_ (congrFun e 1) (Nat.le_of_eq (congrFun e 2).symm) (Nat.le_of_eq (congrFun e 13).symm) (fun _ => ?_)
    · show iJ B (k_dies K (nI p).toNatClampNeg)
      rw [nI_clamp (by omega)]; exact q1
    · show 0 ≤ (a_dies K (nI p).toNatClampNeg).toInt
      rw [nI_clamp (by omega)]; exact q2
  | 14, _ => exact keeps_of hB (by decide) (by decide) (j_sue h a b c d) rfl (Nat.le_refl _) (Nat.le_refl _) (fun _ => nI64p (by omega))
  | 15, _ => exact keeps_of hB (by decide) (by decide) (j_appear h hma a) rfl (Nat.le_refl _) (Nat.le_refl _) (fun _ => b2i64 _)
  | 16, _ =>
    refine keeps_of hB (by decide) (by decide) (j_testify h a b _ hx) rfl (Nat.le_refl _) (Nat.le_refl _) (fun _ => ?_)
    have := ht.ik.2.2.2.2.1 a.toNatClampNeg
    exact nI64p (by omega)
  | 17, _ =>
    have e := judge_1 K a
    exact keeps_of hB (by decide) (by decide) (j_judge h hma a) (congrFun e 1) (Nat.le_of_eq (congrFun e 2).symm) (Nat.le_of_eq (congrFun e 13).symm) (fun _ => b2i64 _)
  | 18, _ =>
    have e := appeal_1 K a
    exact keeps_of hB (by decide) (by decide) (j_appeal h ht a hx) (congrFun e 1) (Nat.le_of_eq (congrFun e 2).symm) (Nat.le_of_eq (congrFun e 13).symm) (fun _ => b2i64 _)
  | 19, _ =>
    have hx : x_execute K a = 0 := hx
    refine keeps_of hB (by decide) (by decide) (j_execute h ht a hx) rfl (Nat.le_refl _) (Nat.le_refl _) (fun _ => ?_)
    unfold x_execute at hx
    by_cases e1 : zix a (K.1 33) = false
    · rw [if_pos e1] at hx; cases hx
    obtain ⟨p, hp, rfl⟩ := zix_of (bF e1) (by omega)
    obtain ⟨c1, c2, c3⟩ := ht.ik.2.2.1.2.1 p hp
    obtain ⟨x, y, x1, x2, x3, x4, -⟩ := ht.Su.2.1 p hp
    have hv := paid_of (gdB_t ht) (a := (ksu K p).2.1) (o := (ksu K p).2.2.2.2.2.2.1) c2 x4 (by omega)
    show 0 ≤ (exeA K (nI p).toNatClampNeg).toInt64.toInt
    rw [nI_clamp (by omega)]
    exact hv.1
  | 20, _ => exact keeps_of hB (by decide) (by decide) h rfl (Nat.le_refl _) (Nat.le_refl _) (fun hh => absurd hh (by omega))
  | 21, _ => exact keeps_of hB (by decide) (by decide) h rfl (Nat.le_refl _) (Nat.le_refl _) (fun hh => absurd hh (by omega))
  | 22, _ => exact keeps_of hB (by decide) (by decide) h rfl (Nat.le_refl _) (Nat.le_refl _) (fun hh => absurd hh (by omega))
  | 23, _ => exact keeps_of hB (by decide) (by decide) h rfl (Nat.le_refl _) (Nat.le_refl _) (fun hh => absurd hh (by omega))
  | 24, _ =>
    have hx : x_pass K a = 0 := hx
    unfold x_pass at hx
    by_cases e1 : wthn a 1 2000 = false
    · rw [if_pos e1] at hx; cases hx
    rw [if_neg e1] at hx
    by_cases e2 : decide (a ≤ 30000 - nI (K.1 1)) = false
    · rw [if_pos e2] at hx; cases hx
    obtain ⟨t, t1, t2, rfl⟩ := days_of (bF e1)
    have e2 := of_decide_eq_true (bF e2)
    rw [Int32.le_iff_toInt_le, show (30000 : Int32) = nI 30000 from rfl, pk_sub_toInt (by decide) (by omega), nI_toInt (by omega)] at e2
    obtain ⟨q1, q2⟩ := psK1 K t
    have ec : (nI t).toNatClampNeg = t := nI_clamp (by omega)
    have ek : dK K 24 (nI t) b c d = psK K t := by show psK K (nI t).toNatClampNeg = _; rw [ec]
    have ea : dA K 24 (nI t) b c d = (nI (K.1 1 + t)).toInt64 := by show (nI (K.1 1 + (nI t).toNatClampNeg)).toInt64 = _; rw [ec]
    have eg : gdI 24 b = 0 := rfl
    refine ⟨?_, by rw [eg]; omega, fun _ => ⟨t, t1, by omega, ea, by rw [ek]; exact q1⟩, fun hh => absurd rfl hh, ?_, ?_, fun hh => absurd hh (by decide), fun _ => ?_⟩
    · rw [ek, eg, Int.add_zero]; exact j_pass h hma hb2 t
    · rw [ek, q2]; exact Nat.le_refl _
    · rw [ek, psK13]; exact Nat.le_refl _
    · rw [ea]; exact nI64p (by omega)
  | j + 25, hh => exact absurd hh (by omega)
