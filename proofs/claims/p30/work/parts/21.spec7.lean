def fRow (S : zS) (j : Nat) : Int32 := S.2.2.1 21 j
def undoB (S : zS) (p t : Nat) (its : Int32) : Bool := decide (1 ≤ t) && (decide (S.2.2.1 21 (1024 * p + (t + 1) - 2) - S.2.2.1 21 (1024 * p + (t + 1) - 2) / 8 * 8 = its) && decide (nI (S.1 1) - S.2.2.1 21 (1024 * p + (t + 1) - 1) / 8 < 100))
def turn1 (S : zS) (p t : Nat) (its : Int32) : zS := if undoB S p t its = true then zsA S 20 (upd (S.2.2.1 20) p (nI t)) else takesS S p its
def turnK (p : Nat) (its : Int32) (A : zS) (k : Nat) : zS := if k ≠ p ∧ follows (zsA A 24 (upd (A.2.2.1 24) k (b2i (decide (k = p))))) k its = true then takesS (zsA (zsA A 24 (upd (A.2.2.1 24) k (b2i (decide (k = p))))) 24 (upd (upd (A.2.2.1 24) k (b2i (decide (k = p)))) k 1)) k its else zsA A 24 (upd (A.2.2.1 24) k (b2i (decide (k = p))))
def turnL (p : Nat) (its : Int32) (T : zS) : Nat → zS
  | 0 => T
  | k + 1 => turnK p its (turnL p its T k) k
def turnsS (S : zS) (p : Nat) : zS := turnL p (S.2.2.1 22 p) (turn1 (staysS S p) p (fT S p) (S.2.2.1 22 p)) (S.1 13)
theorem turnK_f (p : Nat) (its : Int32) (A : zS) (k : Nat) : (turnK p its A k).1 = A.1 ∧ (turnK p its A k).2.1 = A.2.1 ∧ (turnK p its A k).2.2.2 = A.2.2.2 ∧ (∀ j, j ≠ 20 → j ≠ 21 → j ≠ 24 → (turnK p its A k).2.2.1 j = A.2.2.1 j) ∧ (∀ i, i ≠ k → (turnK p its A k).2.2.1 20 i = A.2.2.1 20 i) := by
  unfold turnK
  split
  · refine ⟨rfl, rfl, rfl, fun j h1 h2 h3 => ?_, fun i hi => ?_⟩
    · simp [takesS, zsA_g, h1, h2, h3]
    · simp [takesS, zsA_g, upd, hi]
  · exact ⟨rfl, rfl, rfl, fun j _ _ h => by simp [zsA_g, h], fun i _ => rfl⟩
theorem turnL_f (p : Nat) (its : Int32) (T : zS) : ∀ k, (turnL p its T k).1 = T.1 ∧ (turnL p its T k).2.1 = T.2.1 ∧ (turnL p its T k).2.2.2 = T.2.2.2 ∧ (∀ j, j ≠ 20 → j ≠ 21 → j ≠ 24 → (turnL p its T k).2.2.1 j = T.2.2.1 j) ∧ (∀ i, k ≤ i → (turnL p its T k).2.2.1 20 i = T.2.2.1 20 i)
  | 0 => ⟨rfl, rfl, rfl, fun _ _ _ _ => rfl, fun _ _ => rfl⟩
  | k + 1 => by
    obtain ⟨a1, a2, a3, a4, a5⟩ := turnL_f p its T k
    obtain ⟨b1, b2, b3, b4, b5⟩ := turnK_f p its (turnL p its T k) k
    exact ⟨b1.trans a1, b2.trans a2, b3.trans a3, fun j h1 h2 h3 => (b4 j h1 h2 h3).trans (a4 j h1 h2 h3), fun i hi => (b5 i (by omega)).trans (a5 i (by omega))⟩
theorem turn1_f (S : zS) (p t : Nat) (its : Int32) : (turn1 S p t its).1 = S.1 ∧ (turn1 S p t its).2.1 = S.2.1 ∧ (turn1 S p t its).2.2.2 = S.2.2.2 ∧ (∀ j, j ≠ 20 → j ≠ 21 → (turn1 S p t its).2.2.1 j = S.2.2.1 j) ∧ (∀ i, i ≠ p → (turn1 S p t its).2.2.1 20 i = S.2.2.1 20 i) := by
  unfold turn1
  split
  · exact ⟨rfl, rfl, rfl, fun j h _ => by simp [zsA_g, h], fun i hi => by simp [zsA_g, upd, hi]⟩
  · exact ⟨rfl, rfl, rfl, fun j h1 h2 => by simp [takesS, zsA_g, h1, h2], fun i hi => by simp [takesS, zsA_g, upd, hi]⟩
/-- whose child a person is -/
def iPar (S : zS) (k : Nat) : Prop := parentOf S k = -1 ∨ ∃ q, q < 40 ∧ parentOf S k = nI q

