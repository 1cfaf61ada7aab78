/-- a number within its bounds -/
def wthn (x lo hi : Int32) : Bool := decide (lo ≤ x) && decide (x ≤ hi)
def IAE : String := "java/lang/IllegalArgumentException"
def ISE : String := "java/lang/IllegalStateException"
def IOE : String := "java/lang/IndexOutOfBoundsException"
theorem zts_o {x : Int32} (h0 : ¬ x = 0) (h1 : ¬ x = 1) (h2 : ¬ x = 2) : x.toInt < 0 ∨ 2 < x.toInt := by
  apply Classical.byContradiction
  intro hn
  have e : x.toInt = 0 ∨ x.toInt = 1 ∨ x.toInt = 2 := by omega
  rcases e with e | e | e
  · exact h0 (Int32.toInt_inj.mp e)
  · exact h1 (Int32.toInt_inj.mp e)
  · exact h2 (Int32.toInt_inj.mp e)
def endsB (how : Int32) (byH he she : Bool) : Bool := if how = 0 then byH else if how = 1 then true else if how = 2 then he && she else false
set_option maxRecDepth 100000 in
set_option maxHeartbeats 1000000 in
theorem k_needWithin {g : zGh} {M : zM} (x lo hi : Int32)  : zCt g yX7_needWithin cX7_needWithin 3 none 6 90 mkV [.int x, .int lo, .int hi] M 1 6 (fun v M1 => wthn x lo hi = true ∧ M1 = M) (fun E M1 => E = IAE ∧ wthn x lo hi = false ∧ M1 = M) := by
  refine zof [some (.int x), some (.int lo), some (.int hi)] (by decide +kernel) rfl rfl (Nat.le_of_ble_eq_true rfl) ?_
  intro X C hE hnm
  have C : zC g X RX7 cX7_needWithin 3 6 90 1 6 := C
  refine ziload_n C dX7_needWithin_0 rfl ?_
  refine ziload_n C dX7_needWithin_1 rfl ?_
  refine zicmp_lt (tgt := 10) C dX7_needWithin_2 (by decide) (fun h2 => ?_) (fun h2 => ?_)
  · have e : decide (lo ≤ x) = false := decide_eq_false (zlt_nle h2)
    exact zthrowW C hE ht_X7_393_152 rfl (by decide) (by decide) (by omega) (by omega) dX7_needWithin_10 dX7_needWithin_13 dX7_needWithin_14 dX7_needWithin_17 dX7_needWithin_20 ⟨rfl, by rw [wthn, e]; rfl, rfl⟩
  · have e : decide (lo ≤ x) = true := decide_eq_true (zgt_le h2)
    refine ziload_n C dX7_needWithin_5 rfl ?_
    refine ziload_n C dX7_needWithin_6 rfl ?_
    refine zicmp_le (tgt := 21) C dX7_needWithin_7 (by decide) (fun h7 => ?_) (fun h7 => ?_)
    · have e2 : decide (x ≤ hi) = true := decide_eq_true h7
      exact zend_v C hE dX7_needWithin_21 (by omega) (by omega) ⟨by rw [wthn, e, e2]; rfl, rfl⟩
    · have e2 : decide (x ≤ hi) = false := decide_eq_false h7
      exact zthrowW C hE ht_X7_393_152 rfl (by decide) (by decide) (by omega) (by omega) dX7_needWithin_10 dX7_needWithin_13 dX7_needWithin_14 dX7_needWithin_17 dX7_needWithin_20 ⟨rfl, by rw [wthn, e, e2]; rfl, rfl⟩
set_option maxRecDepth 100000 in
set_option maxHeartbeats 1000000 in
theorem k_needSeised {g : zGh} {M : zM} {a : Nat} {p d wl : Nat} {court cents status can owed judged app : Int32} (hA : M a = some (zob 6 (suiF p d court cents wl status can owed judged app))) : zCt g yX7_needSeised cX7_needSeised 1 none 6 90 mkV [.ref a] M 1 6 (fun v M1 => status = 0 ∧ M1 = M) (fun E M1 => E = ISE ∧ ¬ status = 0 ∧ M1 = M) := by
  refine zof [some (.ref a)] (by decide +kernel) rfl rfl (Nat.le_of_ble_eq_true rfl) ?_
  intro X C hE hnm
  have C : zC g X RX7 cX7_needSeised 1 6 90 1 6 := C
  refine zaload_n C dX7_needSeised_0 rfl ?_
  refine zget C hf_X7_287 hA (by rfl) dX7_needSeised_1 ?_
  refine zif_eq (tgt := 18) C dX7_needSeised_4 (by decide) (fun h4 => ?_) (fun h4 => ?_)
  · exact zend_v C hE dX7_needSeised_18 (by omega) (by omega) ⟨h4, rfl⟩
  · exact zthrowW C hE ht_X7_409_66 rfl (by decide) (by decide) (by omega) (by omega) dX7_needSeised_7 dX7_needSeised_10 dX7_needSeised_11 dX7_needSeised_14 dX7_needSeised_17 ⟨rfl, h4, rfl⟩
set_option maxRecDepth 100000 in
set_option maxHeartbeats 1000000 in
theorem k_faithThatRules {g : zGh} {M : zM} (x f1 f2 : Int32)  : zCt g yX7_faithThatRules cX7_faithThatRules 3 (some .int) 0 0 mkI [.int x, .int f1, .int f2] M 0 0 (fun v M1 => v = (if x = 0 then f1 else if x = 1 then f2 else if x = 2 then (if f1 = f2 then f1 else -1) else -1) ∧ M1 = M) noX := by
  refine zof [some (.int x), some (.int f1), some (.int f2)] (by decide +kernel) rfl rfl (Nat.le_of_ble_eq_true rfl) ?_
  intro X C hE hnm
  have C : zC g X RX7 cX7_faithThatRules 3 0 0 0 0 := C
  refine ziload_n C dX7_faithThatRules_0 rfl ?_
  by_cases hs0 : x = 0
  · subst hs0
    refine zts_in (tgt := 28) C dX7_faithThatRules_1 (by decide) (by decide) rfl (by decide) ?_
    refine ziload_n C dX7_faithThatRules_28 rfl ?_
    exact zend_i C hE dX7_faithThatRules_29 (by omega) (by omega) ⟨by simp [], rfl⟩
  by_cases hs1 : x = 1
  · subst hs1
    refine zts_in (tgt := 30) C dX7_faithThatRules_1 (by decide) (by decide) rfl (by decide) ?_
    refine ziload_n C dX7_faithThatRules_30 rfl ?_
    exact zend_i C hE dX7_faithThatRules_31 (by omega) (by omega) ⟨by simp [], rfl⟩
  by_cases hs2 : x = 2
  · subst hs2
    refine zts_in (tgt := 32) C dX7_faithThatRules_1 (by decide) (by decide) rfl (by decide) ?_
    refine ziload_n C dX7_faithThatRules_32 rfl ?_
    refine ziload_n C dX7_faithThatRules_33 rfl ?_
    refine zicmp_ne (tgt := 41) C dX7_faithThatRules_34 (by decide) (fun h34 => ?_) (fun h34 => ?_)
    · refine zconst (v := -1) C dX7_faithThatRules_41 (by decide) ?_
      exact zend_i C hE dX7_faithThatRules_42 (by omega) (by omega) ⟨by simp [h34], rfl⟩
    · refine ziload_n C dX7_faithThatRules_37 rfl ?_
      refine zgoto (tgt := 42) C dX7_faithThatRules_38 (by decide) ?_
      exact zend_i C hE dX7_faithThatRules_42 (by omega) (by omega) ⟨by simp [h34], rfl⟩
  refine zts_out (tgt := 43) C dX7_faithThatRules_1 (zts_o hs0 hs1 hs2) (by decide) ?_
  refine zconst (v := -1) C dX7_faithThatRules_43 (by decide) ?_
  exact zend_i C hE dX7_faithThatRules_44 (by omega) (by omega) ⟨by simp [hs0, hs1, hs2], rfl⟩
set_option maxRecDepth 100000 in
set_option maxHeartbeats 1000000 in
theorem k_endsByAsking {g : zGh} {M : zM} {a h w : Nat} {court status owed : Int32} (how : Int32) (byH he she : Bool) (hA : M a = some (zob 4 (marF h w court status owed (b2i he) (b2i she)))) : zCt g yX7_endsByAsking cX7_endsByAsking 3 (some .boolean) 0 0 mkI [.ref a, .int (b2i byH), .int how] M 0 0 (fun v M1 => v = b2i (endsB how byH he she) ∧ M1 = M) noX := by
  refine zof [some (.ref a), some (.int (b2i byH)), some (.int how)] (by decide +kernel) rfl rfl (Nat.le_of_ble_eq_true rfl) ?_
  intro X C hE hnm
  have C : zC g X RX7 cX7_endsByAsking 3 0 0 0 0 := C
  refine ziload_n C dX7_endsByAsking_0 rfl ?_
  by_cases hs0 : how = 0
  · subst hs0
    refine zts_in (tgt := 28) C dX7_endsByAsking_1 (by decide) (by decide) rfl (by decide) ?_
    refine ziload_n C dX7_endsByAsking_28 rfl ?_
    exact zend_z C hE dX7_endsByAsking_29 (by omega) (by omega) (by first | exact Or.inl rfl | exact Or.inr rfl | exact b2i_b _) ⟨by simp [endsB, b2i, ], rfl⟩
  by_cases hs1 : how = 1
  · subst hs1
    refine zts_in (tgt := 30) C dX7_endsByAsking_1 (by decide) (by decide) rfl (by decide) ?_
    refine zconst (v := 1) C dX7_endsByAsking_30 (by decide) ?_
    exact zend_z C hE dX7_endsByAsking_31 (by omega) (by omega) (by first | exact Or.inl rfl | exact Or.inr rfl | exact b2i_b _) ⟨by simp [endsB, b2i, ], rfl⟩
  by_cases hs2 : how = 2
  · subst hs2
    refine zts_in (tgt := 32) C dX7_endsByAsking_1 (by decide) (by decide) rfl (by decide) ?_
    refine zaload_n C dX7_endsByAsking_32 rfl ?_
    refine zget C hf_X7_231 hA (by rfl) dX7_endsByAsking_33 ?_
    refine zif_eq (tgt := 50) C dX7_endsByAsking_36 (by decide) (fun h36 => ?_) (fun h36 => ?_)
    · replace h36 := b2i_0.mp h36
      refine zconst (v := 0) C dX7_endsByAsking_50 (by decide) ?_
      exact zend_z C hE dX7_endsByAsking_51 (by omega) (by omega) (by first | exact Or.inl rfl | exact Or.inr rfl | exact b2i_b _) ⟨by simp [endsB, b2i, h36], rfl⟩
    · replace h36 := b2i_n0.mp h36
      refine zaload_n C dX7_endsByAsking_39 rfl ?_
      refine zget C hf_X7_234 hA (by rfl) dX7_endsByAsking_40 ?_
      refine zif_eq (tgt := 50) C dX7_endsByAsking_43 (by decide) (fun h43 => ?_) (fun h43 => ?_)
      · replace h43 := b2i_0.mp h43
        refine zconst (v := 0) C dX7_endsByAsking_50 (by decide) ?_
        exact zend_z C hE dX7_endsByAsking_51 (by omega) (by omega) (by first | exact Or.inl rfl | exact Or.inr rfl | exact b2i_b _) ⟨by simp [endsB, b2i, h36, h43], rfl⟩
      · replace h43 := b2i_n0.mp h43
        refine zconst (v := 1) C dX7_endsByAsking_46 (by decide) ?_
        refine zgoto (tgt := 51) C dX7_endsByAsking_47 (by decide) ?_
        exact zend_z C hE dX7_endsByAsking_51 (by omega) (by omega) (by first | exact Or.inl rfl | exact Or.inr rfl | exact b2i_b _) ⟨by simp [endsB, b2i, h36, h43], rfl⟩
  refine zts_out (tgt := 52) C dX7_endsByAsking_1 (zts_o hs0 hs1 hs2) (by decide) ?_
  refine zconst (v := 0) C dX7_endsByAsking_52 (by decide) ?_
  exact zend_z C hE dX7_endsByAsking_53 (by omega) (by omega) (by first | exact Or.inl rfl | exact Or.inr rfl | exact b2i_b _) ⟨by simp [endsB, b2i, hs0, hs1, hs2], rfl⟩
