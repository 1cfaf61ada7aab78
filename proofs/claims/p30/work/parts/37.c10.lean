/-- the fields of a person -/
def perF (num man : Int32) (mo fa : Option Nat) (birth : Int32) (ch : Nat) (lives : Int32) (goods : Int64) (to on leads : Int32) : List Value := [.int num, .int man, va_rf mo, va_rf fa, .int birth, .ref ch, .int lives, .long goods, .int to, .int on, .int leads]
/-- the fields of a marriage -/
def marF (h w : Nat) (court status owed he she : Int32) : List Value := [.ref h, .ref w, .int court, .int status, .int owed, .int he, .int she]
def paidI (goods : Int64) (x : Int32) : Int32 := (if x.toInt64 < goods then x.toInt64 else goods).toInt32
set_option maxRecDepth 100000 in
set_option maxHeartbeats 1000000 in
theorem p_faithNow {g : zGh} {M : zM} {a : Nat} {num man birth lives to on leads : Int32} {mo fa : Option Nat} {ch : Nat} {goods : Int64} {da na cap k : Nat} {fd fn : Nat → Int32} (hA : M a = some (zob 5 (perF num man mo fa birth ch lives goods to on leads))) (h : zChr g M ch da na cap k fd fn) : zCt g yX4_faithNow cX4_faithNow 1 (some .int) 1 20 mkI [.ref a] M 0 0 (fun v M1 => v = fn k ∧ M1 = M) noX := by
  refine zof [some (.ref a)] (by decide +kernel) rfl rfl (Nat.le_of_ble_eq_true rfl) ?_
  intro X C hE hnm
  have C : zC g X RX4 cX4_faithNow 1 1 20 0 0 := C
  refine zaload_n C dX4_faithNow_0 rfl ?_
  refine zget C hf_X4_50 hA (by rfl) dX4_faithNow_1 ?_
  refine zcallV C (c_newest h) hy_X0_newest hv_X0_newest hl_X4_54 h.1 rfl rfl rfl rfl (by decide) (by decide) (by omega) (by omega) rfl (by exact Nat.le_of_ble_eq_true rfl) dX4_faithNow_4 (fun v4 M hp4 => ?_)
  obtain ⟨rfl, rfl⟩ := hp4
  exact zend_i C hE dX4_faithNow_7 (by omega) (by omega) ⟨rfl, rfl⟩
set_option maxRecDepth 100000 in
set_option maxHeartbeats 1000000 in
theorem p_isMinorOn {g : zGh} {M : zM} {a : Nat} {num man birth lives to on leads : Int32} {mo fa : Option Nat} {ch : Nat} {goods : Int64} (d : Int32) (hA : M a = some (zob 5 (perF num man mo fa birth ch lives goods to on leads)))  : zCt g yX4_isMinorOn cX4_isMinorOn 2 (some .boolean) 0 0 mkI [.ref a, .int d] M 0 0 (fun v M1 => v = b2i (decide (d - birth < 5000)) ∧ M1 = M) noX := by
  refine zof [some (.ref a), some (.int d)] (by decide +kernel) rfl rfl (Nat.le_of_ble_eq_true rfl) ?_
  intro X C hE hnm
  have C : zC g X RX4 cX4_isMinorOn 2 0 0 0 0 := C
  refine ziload_n C dX4_isMinorOn_0 rfl ?_
  refine zaload_n C dX4_isMinorOn_1 rfl ?_
  refine zget C hf_X4_42 hA (by rfl) dX4_isMinorOn_2 ?_
  refine zisub C dX4_isMinorOn_5 ?_
  refine zsipush (v := 5000) C dX4_isMinorOn_6 (by decide) ?_
  refine zicmp_ge (tgt := 16) C dX4_isMinorOn_9 (by decide) (fun h9 => ?_) (fun h9 => ?_)
  · replace h9 := zlt_f h9
    refine zconst (v := 0) C dX4_isMinorOn_16 (by decide) ?_
    exact zend_z C hE dX4_isMinorOn_17 (by omega) (by omega) (by first | exact Or.inl rfl | exact Or.inr rfl | exact b2i_b _) ⟨by rw [h9]; rfl, rfl⟩
  · replace h9 := zlt_t h9
    refine zconst (v := 1) C dX4_isMinorOn_12 (by decide) ?_
    refine zgoto (tgt := 17) C dX4_isMinorOn_13 (by decide) ?_
    exact zend_z C hE dX4_isMinorOn_17 (by omega) (by omega) (by first | exact Or.inl rfl | exact Or.inr rfl | exact b2i_b _) ⟨by rw [h9]; rfl, rfl⟩
set_option maxRecDepth 100000 in
set_option maxHeartbeats 1000000 in
theorem p_isGrownOn {g : zGh} {M : zM} {a : Nat} {num man birth lives to on leads : Int32} {mo fa : Option Nat} {ch : Nat} {goods : Int64} (d : Int32) (b : Bool) (hA : M a = some (zob 5 (perF num man mo fa birth ch lives goods to on leads))) (hl : lives = b2i b) : zCt g yX4_isGrownOn cX4_isGrownOn 2 (some .boolean) 1 21 mkI [.ref a, .int d] M 0 0 (fun v M1 => v = b2i (b && !decide (d - birth < 5000)) ∧ M1 = M) noX := by
  refine zof [some (.ref a), some (.int d)] (by decide +kernel) rfl rfl (Nat.le_of_ble_eq_true rfl) ?_
  intro X C hE hnm
  have C : zC g X RX4 cX4_isGrownOn 2 1 21 0 0 := C
  refine zaload_n C dX4_isGrownOn_0 rfl ?_
  refine zget C hf_X4_9 hA (by rfl) dX4_isGrownOn_1 ?_
  rw [hl]
  refine zif_eq (tgt := 19) C dX4_isGrownOn_4 (by decide) (fun h4 => ?_) (fun h4 => ?_)
  · replace h4 := b2i_0.mp h4
    refine zconst (v := 0) C dX4_isGrownOn_19 (by decide) ?_
    exact zend_z C hE dX4_isGrownOn_20 (by omega) (by omega) (by first | exact Or.inl rfl | exact Or.inr rfl | exact b2i_b _) ⟨by rw [h4]; rfl, rfl⟩
  · replace h4 := b2i_n0.mp h4
    refine zaload_n C dX4_isGrownOn_7 rfl ?_
    refine ziload_n C dX4_isGrownOn_8 rfl ?_
    refine zcallV C (p_isMinorOn d hA) hy_X4_isMinorOn hv_X4_isMinorOn hl_X4_58 hA rfl rfl rfl rfl (by decide) (by decide) (by omega) (by omega) rfl (by exact Nat.le_of_ble_eq_true rfl) dX4_isGrownOn_9 (fun v9 M hp9 => ?_)
    obtain ⟨rfl, rfl⟩ := hp9
    refine zif_ne (tgt := 19) C dX4_isGrownOn_12 (by decide) (fun h12 => ?_) (fun h12 => ?_)
    · replace h12 := b2i_n0.mp h12
      refine zconst (v := 0) C dX4_isGrownOn_19 (by decide) ?_
      exact zend_z C hE dX4_isGrownOn_20 (by omega) (by omega) (by first | exact Or.inl rfl | exact Or.inr rfl | exact b2i_b _) ⟨by rw [h4, h12]; rfl, rfl⟩
    · replace h12 := b2i_0.mp h12
      refine zconst (v := 1) C dX4_isGrownOn_15 (by decide) ?_
      refine zgoto (tgt := 20) C dX4_isGrownOn_16 (by decide) ?_
      exact zend_z C hE dX4_isGrownOn_20 (by omega) (by omega) (by first | exact Or.inl rfl | exact Or.inr rfl | exact b2i_b _) ⟨by rw [h4, h12]; rfl, rfl⟩
set_option maxRecDepth 100000 in
set_option maxHeartbeats 1000000 in
theorem p_isTurning {g : zGh} {M : zM} {a : Nat} {num man birth lives to on leads : Int32} {mo fa : Option Nat} {ch : Nat} {goods : Int64}  (hA : M a = some (zob 5 (perF num man mo fa birth ch lives goods to on leads)))  : zCt g yX4_isTurning cX4_isTurning 1 (some .boolean) 0 0 mkI [.ref a] M 0 0 (fun v M1 => v = b2i (decide (¬ on = -1)) ∧ M1 = M) noX := by
  refine zof [some (.ref a)] (by decide +kernel) rfl rfl (Nat.le_of_ble_eq_true rfl) ?_
  intro X C hE hnm
  have C : zC g X RX4 cX4_isTurning 1 0 0 0 0 := C
  refine zaload_n C dX4_isTurning_0 rfl ?_
  refine zget C hf_X4_23 hA (by rfl) dX4_isTurning_1 ?_
  refine zconst (v := -1) C dX4_isTurning_4 (by decide) ?_
  refine zicmp_eq (tgt := 12) C dX4_isTurning_5 (by decide) (fun h5 => ?_) (fun h5 => ?_)
  · refine zconst (v := 0) C dX4_isTurning_12 (by decide) ?_
    exact zend_z C hE dX4_isTurning_13 (by omega) (by omega) (by first | exact Or.inl rfl | exact Or.inr rfl | exact b2i_b _) ⟨by simp [b2i, h5], rfl⟩
  · refine zconst (v := 1) C dX4_isTurning_8 (by decide) ?_
    refine zgoto (tgt := 13) C dX4_isTurning_9 (by decide) ?_
    exact zend_z C hE dX4_isTurning_13 (by omega) (by omega) (by first | exact Or.inl rfl | exact Or.inr rfl | exact b2i_b _) ⟨by simp [b2i, h5], rfl⟩
set_option maxRecDepth 100000 in
set_option maxHeartbeats 1000000 in
theorem p_endTurning {g : zGh} {M : zM} {a : Nat} {num man birth lives to on leads : Int32} {mo fa : Option Nat} {ch : Nat} {goods : Int64}  (hA : M a = some (zob 5 (perF num man mo fa birth ch lives goods to on leads)))  : zCt g yX4_endTurning cX4_endTurning 1 none 0 0 mkV [.ref a] M 0 0 (fun v M1 => M1 = zup M a (zob 5 (perF num man mo fa birth ch lives goods (-1) (-1) leads))) noX := by
  refine zof [some (.ref a)] (by decide +kernel) rfl rfl (Nat.le_of_ble_eq_true rfl) ?_
  intro X C hE hnm
  have C : zC g X RX4 cX4_endTurning 1 0 0 0 0 := C
  refine zaload_n C dX4_endTurning_0 rfl ?_
  refine zconst (v := -1) C dX4_endTurning_1 (by decide) ?_
  refine zput (fs1 := [_, _, _, _, _, _, _, _, _, _, _]) C hf_X4_19 hp_X4 rfl hA rfl rfl (by exact Nat.le_of_ble_eq_true rfl) (by rfl) dX4_endTurning_2 ?_
  refine zaload_n C dX4_endTurning_5 rfl ?_
  refine zconst (v := -1) C dX4_endTurning_6 (by decide) ?_
  refine zput (fs1 := [_, _, _, _, _, _, _, _, _, _, _]) C hf_X4_23 hp_X4 rfl zup_same rfl rfl (by exact Nat.le_of_ble_eq_true rfl) (by rfl) dX4_endTurning_7 ?_
  exact zend_v C hE dX4_endTurning_10 (by omega) (by omega) zup_up2
set_option maxRecDepth 100000 in
set_option maxHeartbeats 1000000 in
theorem p_isLivingChildOf {g : zGh} {M : zM} {a : Nat} {num man birth lives to on leads : Int32} {mo fa : Option Nat} {ch : Nat} {goods : Int64} (q : Nat) (b : Bool) (hA : M a = some (zob 5 (perF num man mo fa birth ch lives goods to on leads))) (hl : lives = b2i b) : zCt g yX4_isLivingChildOf cX4_isLivingChildOf 2 (some .boolean) 0 0 mkI [.ref a, .ref q] M 0 0 (fun v M1 => v = b2i (b && (decide (mo = some q) || decide (fa = some q))) ∧ M1 = M) noX := by
  refine zof [some (.ref a), some (.ref q)] (by decide +kernel) rfl rfl (Nat.le_of_ble_eq_true rfl) ?_
  intro X C hE hnm
  have C : zC g X RX4 cX4_isLivingChildOf 2 0 0 0 0 := C
  refine zaload_n C dX4_isLivingChildOf_0 rfl ?_
  refine zget C hf_X4_9 hA (by rfl) dX4_isLivingChildOf_1 ?_
  rw [hl]
  refine zif_eq (tgt := 27) C dX4_isLivingChildOf_4 (by decide) (fun h4 => ?_) (fun h4 => ?_)
  · replace h4 := b2i_0.mp h4
    refine zconst (v := 0) C dX4_isLivingChildOf_27 (by decide) ?_
    exact zend_z C hE dX4_isLivingChildOf_28 (by omega) (by omega) (by first | exact Or.inl rfl | exact Or.inr rfl | exact b2i_b _) ⟨by simp [b2i, h4], rfl⟩
  · replace h4 := b2i_n0.mp h4
    refine zaload_n C dX4_isLivingChildOf_7 rfl ?_
    refine zget C hf_X4_35 hA (by rfl) dX4_isLivingChildOf_8 ?_
    refine zaload_n C dX4_isLivingChildOf_11 rfl ?_
    refine zacmp_eq (tgt := 23) C dX4_isLivingChildOf_12 (by decide) rfl (show va_rf (some q) = _ from rfl) (fun h12 => ?_) (fun h12 => ?_)
    · refine zconst (v := 1) C dX4_isLivingChildOf_23 (by decide) ?_
      refine zgoto (tgt := 28) C dX4_isLivingChildOf_24 (by decide) ?_
      exact zend_z C hE dX4_isLivingChildOf_28 (by omega) (by omega) (by first | exact Or.inl rfl | exact Or.inr rfl | exact b2i_b _) ⟨by simp [b2i, h4, h12], rfl⟩
    · refine zaload_n C dX4_isLivingChildOf_15 rfl ?_
      refine zget C hf_X4_39 hA (by rfl) dX4_isLivingChildOf_16 ?_
      refine zaload_n C dX4_isLivingChildOf_19 rfl ?_
      refine zacmp_ne (tgt := 27) C dX4_isLivingChildOf_20 (by decide) rfl (show va_rf (some q) = _ from rfl) (fun h20 => ?_) (fun h20 => ?_)
      · refine zconst (v := 0) C dX4_isLivingChildOf_27 (by decide) ?_
        exact zend_z C hE dX4_isLivingChildOf_28 (by omega) (by omega) (by first | exact Or.inl rfl | exact Or.inr rfl | exact b2i_b _) ⟨by simp [b2i, h4, h12, h20], rfl⟩
      · refine zconst (v := 1) C dX4_isLivingChildOf_23 (by decide) ?_
        refine zgoto (tgt := 28) C dX4_isLivingChildOf_24 (by decide) ?_
        exact zend_z C hE dX4_isLivingChildOf_28 (by omega) (by omega) (by first | exact Or.inl rfl | exact Or.inr rfl | exact b2i_b _) ⟨by simp [b2i, h4, h12, h20], rfl⟩
set_option maxRecDepth 100000 in
set_option maxHeartbeats 1000000 in
theorem p_shares {g : zGh} {M : zM} {a : Nat} {num man birth lives to on leads : Int32} {mo fa : Option Nat} {ch : Nat} {goods : Int64} (b c : Bool) (hA : M a = some (zob 5 (perF num man mo fa birth ch lives goods to on leads))) (hm : man = b2i c) : zCt g yX4_shares cX4_shares 2 (some .int) 0 0 mkI [.ref a, .int (b2i b)] M 0 0 (fun v M1 => v = (if (b && c) = true then 2 else 1) ∧ M1 = M) noX := by
  refine zof [some (.ref a), some (.int (b2i b))] (by decide +kernel) rfl rfl (Nat.le_of_ble_eq_true rfl) ?_
  intro X C hE hnm
  have C : zC g X RX4 cX4_shares 2 0 0 0 0 := C
  refine ziload_n C dX4_shares_0 rfl ?_
  refine zif_eq (tgt := 15) C dX4_shares_1 (by decide) (fun h1 => ?_) (fun h1 => ?_)
  · replace h1 := b2i_0.mp h1
    refine zconst (v := 1) C dX4_shares_15 (by decide) ?_
    exact zend_i C hE dX4_shares_16 (by omega) (by omega) ⟨by simp [h1], rfl⟩
  · replace h1 := b2i_n0.mp h1
    refine zaload_n C dX4_shares_4 rfl ?_
    refine zget C hf_X4_32 hA (by rfl) dX4_shares_5 ?_
    rw [hm]
    refine zif_eq (tgt := 15) C dX4_shares_8 (by decide) (fun h8 => ?_) (fun h8 => ?_)
    · replace h8 := b2i_0.mp h8
      refine zconst (v := 1) C dX4_shares_15 (by decide) ?_
      exact zend_i C hE dX4_shares_16 (by omega) (by omega) ⟨by simp [h1, h8], rfl⟩
    · replace h8 := b2i_n0.mp h8
      refine zconst (v := 2) C dX4_shares_11 (by decide) ?_
      refine zgoto (tgt := 16) C dX4_shares_12 (by decide) ?_
      exact zend_i C hE dX4_shares_16 (by omega) (by omega) ⟨by simp [h1, h8], rfl⟩
set_option maxRecDepth 100000 in
set_option maxHeartbeats 1000000 in
theorem p_payUpTo {g : zGh} {M : zM} {a b : Nat} {num man birth lives to on leads : Int32} {mo fa : Option Nat} {ch : Nat} {goods : Int64} {num2 man2 birth2 lives2 to2 on2 leads2 : Int32} {mo2 fa2 : Option Nat} {ch2 : Nat} {goods2 : Int64} (x : Int32) (hA : M a = some (zob 5 (perF num man mo fa birth ch lives goods to on leads))) (hB : M b = some (zob 5 (perF num2 man2 mo2 fa2 birth2 ch2 lives2 goods2 to2 on2 leads2))) (hab : a ≠ b) : zCt g yX4_payUpTo cX4_payUpTo 4 (some .int) 1 23 mkI [.ref a, .int x, .ref b] M 0 0 (fun v M1 => v = paidI goods x ∧ M1 = zup (zup M a (zob 5 (perF num man mo fa birth ch lives (goods - (paidI goods x).toInt64) to on leads))) b (zob 5 (perF num2 man2 mo2 fa2 birth2 ch2 lives2 (goods2 + (paidI goods x).toInt64) to2 on2 leads2))) noX := by
  refine zof [some (.ref a), some (.int x), some (.ref b), none] (by decide +kernel) rfl rfl (Nat.le_of_ble_eq_true rfl) ?_
  intro X C hE hnm
  have C : zC g X RX4 cX4_payUpTo 4 1 23 0 0 := C
  have hB1 : ∀ e, zup M a e b = some (zob 5 (perF num2 man2 mo2 fa2 birth2 ch2 lives2 goods2 to2 on2 leads2)) := fun e => by rw [zup_ne hab.symm]; exact hB
  refine zaload_n C dX4_payUpTo_0 rfl ?_
  refine zget C hf_X4_15 hA (by rfl) dX4_payUpTo_1 ?_
  refine ziload_n C dX4_payUpTo_4 rfl ?_
  refine zi2l C dX4_payUpTo_5 ?_
  refine zmminl C hl_X4_62 rfl (by decide) (Nat.le_of_ble_eq_true rfl) (by omega) (by omega) dX4_payUpTo_6 ?_
  refine zl2i C dX4_payUpTo_9 ?_
  refine zistore_n (L1 := [_, _, _, _]) C dX4_payUpTo_10 rfl (Nat.le_of_ble_eq_true rfl) ?_
  refine zaload_n C dX4_payUpTo_11 rfl ?_
  refine zdup C dX4_payUpTo_12 rfl ?_
  refine zget C hf_X4_15 hA (by rfl) dX4_payUpTo_13 ?_
  refine ziload_n C dX4_payUpTo_16 rfl ?_
  refine zi2l C dX4_payUpTo_17 ?_
  refine zlsub C dX4_payUpTo_18 ?_
  refine zput (fs1 := [_, _, _, _, _, _, _, _, _, _, _]) C hf_X4_15 hp_X4 rfl hA rfl rfl (by exact Nat.le_of_ble_eq_true rfl) (by rfl) dX4_payUpTo_19 ?_
  refine zaload_n C dX4_payUpTo_22 rfl ?_
  refine zdup C dX4_payUpTo_23 rfl ?_
  refine zget C hf_X4_15 (hB1 _) (by rfl) dX4_payUpTo_24 ?_
  refine ziload_n C dX4_payUpTo_27 rfl ?_
  refine zi2l C dX4_payUpTo_28 ?_
  refine zladd C dX4_payUpTo_29 ?_
  refine zput (fs1 := [_, _, _, _, _, _, _, _, _, _, _]) C hf_X4_15 hp_X4 rfl (hB1 _) rfl rfl (by exact Nat.le_of_ble_eq_true rfl) (by rfl) dX4_payUpTo_30 ?_
  refine ziload_n C dX4_payUpTo_33 rfl ?_
  exact zend_i C hE dX4_payUpTo_34 (by omega) (by omega) ⟨rfl, rfl⟩
set_option maxRecDepth 100000 in
set_option maxHeartbeats 1000000 in
theorem p_leaderN {g : zGh} {M : zM} {a : Nat} {x : Nat} {num man birth lives to on leads : Int32} {mo : Option Nat} {ch : Nat} {goods : Int64} (hA : M a = some (zob 5 (perF num man mo none birth ch lives goods to on leads))) : zCt g yX4_leader cX4_leader 1 (some (.object "Milletcourt$Person")) 0 0 (fun r => some (va_rf r)) [.ref a] M 0 0 (fun v M1 => v = mo ∧ M1 = M) noX := by
  refine zof [some (.ref a)] (by decide +kernel) rfl rfl (Nat.le_of_ble_eq_true rfl) ?_
  intro X C hE hnm
  have C : zC g X RX4 cX4_leader 1 0 0 0 0 := C
  refine zaload_n C dX4_leader_0 rfl ?_
  refine zget C hf_X4_39 hA (by rfl) dX4_leader_1 ?_
  refine zifnullN (tgt := 14) C dX4_leader_4 (by decide) ?_
  refine zaload_n C dX4_leader_14 rfl ?_
  refine zget C hf_X4_35 hA (by rfl) dX4_leader_15 ?_
  exact zend_q C hE rfl (Or.inl ⟨_, rfl⟩) dX4_leader_18 (by omega) (by omega) ⟨rfl, rfl⟩
set_option maxRecDepth 100000 in
set_option maxHeartbeats 1000000 in
theorem p_leaderS {g : zGh} {M : zM} {a : Nat} {x : Nat} {num man birth lives to on leads : Int32} {mo : Option Nat} {ch : Nat} {goods : Int64} (hA : M a = some (zob 5 (perF num man mo (some x) birth ch lives goods to on leads))) : zCt g yX4_leader cX4_leader 1 (some (.object "Milletcourt$Person")) 0 0 (fun r => some (va_rf r)) [.ref a] M 0 0 (fun v M1 => v = some x ∧ M1 = M) noX := by
  refine zof [some (.ref a)] (by decide +kernel) rfl rfl (Nat.le_of_ble_eq_true rfl) ?_
  intro X C hE hnm
  have C : zC g X RX4 cX4_leader 1 0 0 0 0 := C
  refine zaload_n C dX4_leader_0 rfl ?_
  refine zget C hf_X4_39 hA (by rfl) dX4_leader_1 ?_
  refine zifnull C dX4_leader_4 ?_
  refine zaload_n C dX4_leader_7 rfl ?_
  refine zget C hf_X4_39 hA (by rfl) dX4_leader_8 ?_
  refine zgoto (tgt := 18) C dX4_leader_11 (by decide) ?_
  exact zend_q (v := some x) C hE rfl (Or.inl ⟨_, rfl⟩) dX4_leader_18 (by omega) (by omega) ⟨rfl, rfl⟩
