theorem zR.eqv {g : zGh} {M0 M : zM} {mo : Nat} {ad : Nat → Nat} {S S1 : zS} (h : zR g M0 mo ad S M) (e : S = S1) : zR g M0 mo ad S1 M := e ▸ h
theorem zup_up {α : Type} (f : Nat → α) (j : Nat) (x y : α) : va_up (va_up f j x) j y = va_up f j y := by
  funext i
  unfold va_up
  split <;> rfl
theorem zsA_A (S : zS) (j : Nat) (f h : Nat → Int32) : zsA (zsA S j f) j h = zsA S j h := by
  unfold zsA
  simp only [zup_up]
theorem zsA_s (S : zS) (j : Nat) (f : Nat → Int32) : (zsA S j f).2.2.1 j = f := by simp [zsA, va_up]
theorem zsA_n (S : zS) (j : Nat) (f : Nat → Int32) {i : Nat} (h : i ≠ j) : (zsA S j f).2.2.1 i = S.2.2.1 i := by simp [zsA, va_up, h]
theorem zsA_id (S : zS) (j : Nat) : zsA S j (S.2.2.1 j) = S := by
  obtain ⟨a, b, c, d⟩ := S
  unfold zsA
  congr
  funext i
  unfold va_up
  split
  · rename_i h; rw [h]
  · rfl
set_option maxRecDepth 100000 in
set_option maxHeartbeats 200000 in
theorem m_in {g : zGh} {M : zM} (x lo hi : Int32)  : zCt g yX8_in cX8_in 3 (some .boolean) 0 0 mkI [.int x, .int lo, .int hi] M 0 0 (fun v M1 => v = b2i (decide (lo ≤ x) && decide (x ≤ hi)) ∧ M1 = M) noX := by
  refine zof [some (.int x), some (.int lo), some (.int hi)] (by decide +kernel) rfl rfl (Nat.le_of_ble_eq_true rfl) ?_
  intro X C hE hnm
  have C : zC g X RX8 cX8_in 3 0 0 0 0 := C
  refine ziload_n C dX8_in_0 rfl ?_
  refine ziload_n C dX8_in_1 rfl ?_
  refine zicmp_lt (tgt := 14) C dX8_in_2 (by decide) (fun h2 => ?_) (fun h2 => ?_)
  · refine zconst (v := 0) C dX8_in_14 (by decide) ?_
    exact zend_z C hE dX8_in_15 (by omega) (by omega) (by first | exact Or.inl rfl | exact Or.inr rfl | exact b2i_b _) ⟨by simp_all [b2i, Int32.le_iff_toInt_le, Int32.lt_iff_toInt_lt] <;> omega, rfl⟩
  · refine ziload_n C dX8_in_5 rfl ?_
    refine ziload_n C dX8_in_6 rfl ?_
    refine zicmp_gt (tgt := 14) C dX8_in_7 (by decide) (fun h7 => ?_) (fun h7 => ?_)
    · refine zconst (v := 0) C dX8_in_14 (by decide) ?_
      exact zend_z C hE dX8_in_15 (by omega) (by omega) (by first | exact Or.inl rfl | exact Or.inr rfl | exact b2i_b _) ⟨by simp_all [b2i, Int32.le_iff_toInt_le, Int32.lt_iff_toInt_lt] <;> omega, rfl⟩
    · refine zconst (v := 1) C dX8_in_10 (by decide) ?_
      refine zgoto (tgt := 15) C dX8_in_11 (by decide) ?_
      exact zend_z C hE dX8_in_15 (by omega) (by omega) (by first | exact Or.inl rfl | exact Or.inr rfl | exact b2i_b _) ⟨by simp_all [b2i, Int32.le_iff_toInt_le, Int32.lt_iff_toInt_lt] <;> omega, rfl⟩

