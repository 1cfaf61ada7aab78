theorem b2i_n0 {b : Bool} : ¬ b2i b = 0 ↔ b = true := by cases b <;> decide
theorem zup_up {α : Type} (f : Nat → α) (j : Nat) (x y : α) : va_up (va_up f j x) j y = va_up f j y := by
  funext i
  unfold va_up
  split <;> rfl
theorem zsA_A (S : zS) (j : Nat) (f h : Nat → Int32) : zsA (zsA S j f) j h = zsA S j h := by
  unfold zsA
  simp only [zup_up]
theorem zsA_s (S : zS) (j : Nat) (f : Nat → Int32) : (zsA S j f).2.2.1 j = f := by simp [zsA, va_up]
theorem zsA_n (S : zS) (j : Nat) (f : Nat → Int32) {i : Nat} (h : i ≠ j) : (zsA S j f).2.2.1 i = S.2.2.1 i := by simp [zsA, va_up, h]
theorem zsA_id (S : zS) (j : Nat) : zsA S j (S.2.2.1 j) = S := by
  obtain ⟨a, b, c, d⟩ := S
  unfold zsA
  congr
  funext i
  unfold va_up
  split
  · rename_i h; rw [h]
  · rfl
