/-- a number within its bounds -/
def wthn (x lo hi : Int32) : Bool := decide (lo ≤ x) && decide (x ≤ hi)
def IAE : String := "java/lang/IllegalArgumentException"
def ISE : String := "java/lang/IllegalStateException"
def IOE : String := "java/lang/IndexOutOfBoundsException"
set_option maxRecDepth 100000 in
set_option maxHeartbeats 1000000 in
theorem k_needWithin {g : zGh} {M : zM} (x lo hi : Int32)  : zCt g yX7_needWithin cX7_needWithin 3 none 6 90 mkV [.int x, .int lo, .int hi] M 1 6 (fun v M1 => wthn x lo hi = true ∧ M1 = M) (fun E M1 => E = IAE ∧ wthn x lo hi = false ∧ M1 = M) := by
  refine zof [some (.int x), some (.int lo), some (.int hi)] (by decide +kernel) rfl rfl (Nat.le_of_ble_eq_true rfl) ?_
  intro X C hE hnm
  have C : zC g X RX7 cX7_needWithin 3 6 90 1 6 := C
  refine ziload_n C dX7_needWithin_0 rfl ?_
  refine ziload_n C dX7_needWithin_1 rfl ?_
  refine zicmp_lt (tgt := 10) C dX7_needWithin_2 (by decide) (fun h2 => ?_) (fun h2 => ?_)
  · have e : decide (lo ≤ x) = false := decide_eq_false (zlt_nle h2)
    exact zthrowW C hE ht_X7_393_152 rfl (by decide) (by decide) (by omega) (by omega) dX7_needWithin_10 dX7_needWithin_13 dX7_needWithin_14 dX7_needWithin_17 dX7_needWithin_20 ⟨rfl, by rw [wthn, e]; rfl, rfl⟩
  · have e : decide (lo ≤ x) = true := decide_eq_true (zgt_le h2)
    refine ziload_n C dX7_needWithin_5 rfl ?_
    refine ziload_n C dX7_needWithin_6 rfl ?_
    refine zicmp_le (tgt := 21) C dX7_needWithin_7 (by decide) (fun h7 => ?_) (fun h7 => ?_)
    · have e2 : decide (x ≤ hi) = true := decide_eq_true h7
      exact zend_v C hE dX7_needWithin_21 (by omega) (by omega) ⟨by rw [wthn, e, e2]; rfl, rfl⟩
    · have e2 : decide (x ≤ hi) = false := decide_eq_false h7
      exact zthrowW C hE ht_X7_393_152 rfl (by decide) (by decide) (by omega) (by omega) dX7_needWithin_10 dX7_needWithin_13 dX7_needWithin_14 dX7_needWithin_17 dX7_needWithin_20 ⟨rfl, by rw [wthn, e, e2]; rfl, rfl⟩
