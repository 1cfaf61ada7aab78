/-- the reference's state: its counters, the crown's goods, its rows of ints (and booleans), its rows of longs, by the places of the fields -/
abbrev zS : Type := (Nat → Nat) × Int64 × (Nat → Nat → Int32) × (Nat → Nat → Int64)
def zkd : Nat → Nat × Nat := fun j => [(0, 0), (0, 0), (0, 0), (2, 5628), (0, 0), (2, 100), (2, 100), (2, 100), (2, 100), (0, 0), (2, 40), (2, 40), (2, 40), (0, 0), (3, 40), (2, 40), (2, 40), (2, 40), (3, 40), (4, 40), (2, 40), (2, 40960), (2, 40), (2, 40), (3, 40), (0, 0), (2, 30), (2, 30), (2, 30), (2, 30), (2, 30), (3, 30), (3, 30), (0, 0), (2, 20), (2, 20), (2, 20), (2, 20), (3, 20), (2, 20), (3, 20), (2, 800), (4, 20), (4, 20), (2, 20), (3, 20), (1, 0), (3, 40)].getD j (0, 0)
def zsN (S : zS) (j v : Nat) : zS := (va_up S.1 j v, S.2)
def zsC (S : zS) (v : Int64) : zS := (S.1, v, S.2.2)
def zsA (S : zS) (j : Nat) (f : Nat → Int32) : zS := (S.1, S.2.1, va_up S.2.2.1 j f, S.2.2.2)
def zsL (S : zS) (j : Nat) (f : Nat → Int64) : zS := (S.1, S.2.1, S.2.2.1, va_up S.2.2.2 j f)
theorem zkd_lt (j : Nat) : (zkd j).2 < 2 ^ 31 := by
  by_cases h : j < 48
  · have : ∀ j, j < 48 → (zkd j).2 < 2 ^ 31 := by decide +kernel
    exact this j h
  · have : zkd j = (0, 0) := by
      unfold zkd
      rw [List.getD_eq_getElem?_getD, List.getElem?_eq_none (by simp; omega)]
      rfl
    rw [this]
    decide
section ZMR
variable {g : zGh} {X : zX} {cc : ByteArray} {nL fr lc mc ms : Nat} {M0 M : zM} {mo : Nat} {ad : Nat → Nat} {S : zS} {k n pc : Nat} {L : List (Option Value)} {st : List Value} {idx j : Nat}
end ZMR
def b2i (b : Bool) : Int32 := if b = true then 1 else 0
theorem b2i_t : b2i true = 1 := rfl
theorem b2i_f : b2i false = 0 := rfl
theorem b2i_0 {b : Bool} : b2i b = 0 ↔ b = false := by cases b <;> decide
theorem b2i_1 {b : Bool} : b2i b = 1 ↔ b = true := by cases b <;> decide
theorem b2i_b (b : Bool) : b2i b = 0 ∨ b2i b = 1 := by cases b <;> decide
/-- k is a number below n -/
def zix (k : Int32) (n : Nat) : Bool := decide (0 ≤ k.toInt) && decide (k.toInt < n)
theorem zix_of {k : Int32} {n : Nat} (h : zix k n = true) (hn : n < 2 ^ 31) : ∃ j, j < n ∧ k = nI j := by
  simp only [zix, Bool.and_eq_true, decide_eq_true_eq] at h
  exact vp_in_of (vp_in_iff.mpr h) hn
theorem zix_nI {j n : Nat} (hj : j < 2 ^ 31) : zix (nI j) n = decide (j < n) := by
  unfold zix
  rw [nI_toInt hj]
  simp

