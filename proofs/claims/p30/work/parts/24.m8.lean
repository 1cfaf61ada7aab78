theorem zsL_L (S : zS) (j : Nat) (f h : Nat → Int64) : zsL (zsL S j f) j h = zsL S j h := by
  unfold zsL
  simp only [zup_up]
theorem zsL_id (S : zS) (j : Nat) : zsL S j (S.2.2.2 j) = S := by
  obtain ⟨a, b, c, d⟩ := S
  unfold zsL
  congr
  funext i
  unfold va_up
  split
  · rename_i h; rw [h]
  · rfl
