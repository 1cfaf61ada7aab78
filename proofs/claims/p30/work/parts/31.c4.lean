theorem hf_Jxc12de_7 : zF RJxc12de 7 0 0 RJx4a65c TJx4a65c 3 "java/util/AbstractList" := ⟨rfl, by decide, hs_Jxc12de_7, hu_Jx4a65c, Or.inl rfl⟩
/-- a list that has held something: its object, its row -/
def zLst (g : zGh) (M : zM) (a ea cap len : Nat) (f : Nat → Option Nat) (mc : Int32) : Prop :=
  M a = some (zob 0 [.int mc, .ref ea, .int (nI len)]) ∧ M ea = some (zao g cap f) ∧ len ≤ cap ∧ 10 ≤ cap ∧ cap ≤ 4096
theorem zob_ao {g : zGh} {M : zM} {a d ci N : Nat} {fs : List Value} {f : Nat → Option Nat} (h1 : M a = some (zob ci fs)) (h2 : M d = some (zao g N f)) : a ≠ d := fun e => by
  rw [e, h2] at h1
  simp [zao, zob] at h1
set_option maxRecDepth 100000 in
set_option maxHeartbeats 1000000 in
theorem c_init {g : zGh} {M : zM} {a : Nat} (d x : Int32) (hA : M a = some (zob 1 [.null, .null, .int 0])) : zCt g yX0_init cX0_init 3 none 1 20 mkV [.ref a, .int d, .int x] M 2 4 (fun v M1 => ∃ d1 n1, M d1 = none ∧ M n1 = none ∧ zChr g M1 a d1 n1 2 0 (upd (fun _ => 0) 0 d) (upd (fun _ => 0) 0 x) ∧ ∀ q e, M q = some e → q ≠ a → M1 q = some e) noX := by
  refine zof [some (.ref a), some (.int d), some (.int x)] (by decide +kernel) rfl rfl (Nat.le_of_ble_eq_true rfl) ?_
  intro X C hE hnm
  have C : zC g X RX0 cX0_init 3 1 20 2 4 := C
  refine zaload_n C dX0_init_0 rfl ?_
  refine zobj C hl_X0_1 hoi1 hoi2 rfl (by decide) (by decide) dX0_init_1 ?_
  refine zaload_n C dX0_init_4 rfl ?_
  refine zconst (v := 2) C dX0_init_5 (by decide) ?_
  refine znewi (N := 2) C ha_int (by decide) rfl (by decide) (by omega) (by omega) dX0_init_6 (fun q1 hq1 => ?_)
  have e1 := znone hA hq1
  have hA1 : zup M q1 (zai g 2 fun _ => 0) a = some (zob 1 [.null, .null, .int 0]) := by rw [zup_ne e1]; exact hA
  refine zput (fs1 := [_, _, _]) C hf_X0_7 hp_X0 rfl hA1 rfl rfl (by exact Nat.le_of_ble_eq_true rfl) (by rfl) dX0_init_8 ?_
  refine zaload_n C dX0_init_11 rfl ?_
  refine zconst (v := 2) C dX0_init_12 (by decide) ?_
  refine znewi (N := 2) C ha_int (by decide) rfl (by decide) (by omega) (by omega) dX0_init_13 (fun q2 hq2 => ?_)
  have e2 := znone zup_same hq2
  have hA2 : zup (zup (zup M q1 (zai g 2 fun _ => 0)) a (zob 1 [.ref q1, .null, .int 0])) q2 (zai g 2 fun _ => 0) a = some (zob 1 [.ref q1, .null, .int 0]) := by rw [zup_ne e2]; exact zup_same
  refine zput (fs1 := [_, _, _]) C hf_X0_13 hp_X0 rfl hA2 rfl rfl (by exact Nat.le_of_ble_eq_true rfl) (by rfl) dX0_init_15 ?_
  refine zaload_n C dX0_init_18 rfl ?_
  refine zconst (v := 1) C dX0_init_19 (by decide) ?_
  refine zput (fs1 := [_, _, _]) C hf_X0_16 hp_X0 rfl zup_same rfl rfl (by exact Nat.le_of_ble_eq_true rfl) (by rfl) dX0_init_20 ?_
  refine zaload_n C dX0_init_23 rfl ?_
  refine zget C hf_X0_7 zup_same (by rfl) dX0_init_24 ?_
  refine zconst (v := 0) C dX0_init_27 (by decide) ?_
  refine ziload_n C dX0_init_28 rfl ?_
  have e3 : q1 ≠ q2 := fun e => by rw [← e, zup_ne e1.symm, zup_same] at hq2; cases hq2
  have hD1 := zup_same (M := M) (a := q1) (e := zai g 2 fun _ => 0)
  have e4 : M q2 = none := by rw [zup_ne e2.symm, zup_ne e3.symm] at hq2; exact hq2
  refine zriast (i0 := 0) C (by rw [zup_ne e1.symm, zup_ne e1.symm, zup_ne e3, zup_ne e1.symm]; exact hD1) rfl (by omega) (by omega) dX0_init_29 ?_
  refine zaload_n C dX0_init_30 rfl ?_
  refine zget C hf_X0_13 (by rw [zup_ne e1]; exact zup_same) (by rfl) dX0_init_31 ?_
  refine zconst (v := 0) C dX0_init_34 (by decide) ?_
  refine ziload_n C dX0_init_35 rfl ?_
  refine zriast (i0 := 0) C (by rw [zup_ne e3.symm, zup_ne e2.symm, zup_ne e2.symm]; exact zup_same) rfl (by omega) (by omega) dX0_init_36 ?_
  exact zend_v C hE dX0_init_37 (by omega) (by omega) ⟨q1, q2, hq1, e4, ⟨by rw [zup_ne e2, zup_ne e1]; exact zup_same, by rw [zup_ne e3]; exact zup_same, zup_same, by omega, by omega, e3⟩, fun q e hq ha => by rw [zup_ne (znone hq e4), zup_ne (znone hq hq1), zup_ne ha, zup_ne ha, zup_ne (znone hq e4), zup_ne ha, zup_ne (znone hq hq1)]; exact hq⟩
set_option maxRecDepth 100000 in
set_option maxHeartbeats 1000000 in
theorem l_size {g : zGh} {M : zM} {a : Nat} {w : Value} {mc s : Int32} (hA : M a = some (zob 0 [.int mc, w, .int s])) : zCt g yJx4a65c_size_8abf5 cJx4a65c_size_8abf5 1 (some .int) 0 0 mkI [.ref a] M 0 0 (fun v M1 => v = s ∧ M1 = M) noX := by
  refine zof [some (.ref a)] (by decide +kernel) rfl rfl (Nat.le_of_ble_eq_true rfl) ?_
  intro X C hE hnm
  have C : zC g X RJx4a65c cJx4a65c_size_8abf5 1 0 0 0 0 := C
  refine zaload_n C dJx4a65c_size_8abf5_0 rfl ?_
  refine zget C hf_Jx4a65c_48 hA (by rfl) dJx4a65c_size_8abf5_1 ?_
  exact zend_i C hE dJx4a65c_size_8abf5_4 (by omega) (by omega) ⟨rfl, rfl⟩
set_option maxRecDepth 100000 in
set_option maxHeartbeats 1000000 in
theorem l_isEmpty {g : zGh} {M : zM} {a : Nat} {w : Value} {mc s : Int32} (hA : M a = some (zob 0 [.int mc, w, .int s])) : zCt g yJx4a65c_isEmpty_aae02 cJx4a65c_isEmpty_aae02 1 (some .boolean) 0 0 mkI [.ref a] M 0 0 (fun v M1 => v = b2i (decide (s = 0)) ∧ M1 = M) noX := by
  refine zof [some (.ref a)] (by decide +kernel) rfl rfl (Nat.le_of_ble_eq_true rfl) ?_
  intro X C hE hnm
  have C : zC g X RJx4a65c cJx4a65c_isEmpty_aae02 1 0 0 0 0 := C
  refine zaload_n C dJx4a65c_isEmpty_aae02_0 rfl ?_
  refine zget C hf_Jx4a65c_48 hA (by rfl) dJx4a65c_isEmpty_aae02_1 ?_
  refine zif_ne (tgt := 11) C dJx4a65c_isEmpty_aae02_4 (by decide) (fun h4 => ?_) (fun h4 => ?_)
  · refine zconst (v := 0) C dJx4a65c_isEmpty_aae02_11 (by decide) ?_
    exact zend_z C hE dJx4a65c_isEmpty_aae02_12 (by omega) (by omega) (by first | exact Or.inl rfl | exact Or.inr rfl | exact b2i_b _) ⟨by simp [b2i, h4], rfl⟩
  · refine zconst (v := 1) C dJx4a65c_isEmpty_aae02_7 (by decide) ?_
    refine zgoto (tgt := 12) C dJx4a65c_isEmpty_aae02_8 (by decide) ?_
    exact zend_z C hE dJx4a65c_isEmpty_aae02_12 (by omega) (by omega) (by first | exact Or.inl rfl | exact Or.inr rfl | exact b2i_b _) ⟨by simp [b2i, h4], rfl⟩
set_option maxRecDepth 100000 in
set_option maxHeartbeats 1000000 in
theorem j_check3 {g : zGh} {M : zM} (i n : Nat) (hi : i < n) (hn : n < 2 ^ 31) : zCt g yJ3_checkIndex_8e157 cJ3_checkIndex_8e157 3 (some .int) 0 0 mkI [.int (nI i), .int (nI n), .null] M 0 0 (fun v M1 => v = nI i ∧ M1 = M) noX := by
  refine zof [some (.int (nI i)), some (.int (nI n)), some .null] (by decide +kernel) rfl rfl (Nat.le_of_ble_eq_true rfl) ?_
  intro X C hE hnm
  have C : zC g X RJ3 cJ3_checkIndex_8e157 3 0 0 0 0 := C
  refine ziload_n C dJ3_checkIndex_8e157_0 rfl ?_
  refine zif_lt_f (tgt := 9) C dJ3_checkIndex_8e157_1 (by decide) (nI_nn (by omega)) ?_
  refine ziload_n C dJ3_checkIndex_8e157_4 rfl ?_
  refine ziload_n C dJ3_checkIndex_8e157_5 rfl ?_
  refine zicmp_lt (tgt := 16) C dJ3_checkIndex_8e157_6 (by decide) (fun h6 => ?_) (fun h6 => by first | exact absurd (nI_lt hi hn) h6 | exact absurd h6 (nI_lt hi hn))
  refine ziload_n C dJ3_checkIndex_8e157_16 rfl ?_
  exact zend_i C hE dJ3_checkIndex_8e157_17 (by omega) (by omega) ⟨rfl, rfl⟩
set_option maxRecDepth 100000 in
set_option maxHeartbeats 1000000 in
theorem j_check {g : zGh} {M : zM} (i n : Nat) (hi : i < n) (hn : n < 2 ^ 31) : zCt g yJ15_checkIndex_7cf53 cJ15_checkIndex_7cf53 2 (some .int) 1 22 mkI [.int (nI i), .int (nI n)] M 0 0 (fun v M1 => v = nI i ∧ M1 = M) noX := by
  refine zof [some (.int (nI i)), some (.int (nI n))] (by decide +kernel) rfl rfl (Nat.le_of_ble_eq_true rfl) ?_
  intro X C hE hnm
  have C : zC g X RJ15 cJ15_checkIndex_7cf53 2 1 22 0 0 := C
  refine ziload_n C dJ15_checkIndex_7cf53_0 rfl ?_
  refine ziload_n C dJ15_checkIndex_7cf53_1 rfl ?_
  refine znull C dJ15_checkIndex_7cf53_2 ?_
  refine zcallS C (j_check3 i n hi hn) hy_J3_checkIndex_8e157 hst_J3_checkIndex_8e157 hl_J15_105 rfl rfl (by decide) (by decide) (by omega) (by omega) rfl (by exact Nat.le_of_ble_eq_true rfl) dJ15_checkIndex_7cf53_3 (fun v3 M hp3 => ?_)
  obtain ⟨rfl, rfl⟩ := hp3
  exact zend_i C hE dJ15_checkIndex_7cf53_6 (by omega) (by omega) ⟨rfl, rfl⟩
set_option maxRecDepth 100000 in
set_option maxHeartbeats 1000000 in
theorem l_elem {g : zGh} {M : zM} {a ea cap : Nat} {f : Nat → Option Nat} {mc s : Int32} (j : Nat) (hA : M a = some (zob 0 [.int mc, .ref ea, .int s])) (hE1 : M ea = some (zao g cap f)) (hj : j < cap) (hc : cap ≤ 4096) : zCt g yJx4a65c_elementData_915e3 cJx4a65c_elementData_915e3 2 (some (.object "java/lang/Object")) 0 0 (fun r => some (va_rf r)) [.ref a, .int (nI j)] M 0 0 (fun v M1 => v = f j ∧ M1 = M) noX := by
  refine zof [some (.ref a), some (.int (nI j))] (by decide +kernel) rfl rfl (Nat.le_of_ble_eq_true rfl) ?_
  intro X C hE hnm
  have C : zC g X RJx4a65c cJx4a65c_elementData_915e3 2 0 0 0 0 := C
  refine zaload_n C dJx4a65c_elementData_915e3_0 rfl ?_
  refine zget C hf_Jx4a65c_9 hA (by rfl) dJx4a65c_elementData_915e3_1 ?_
  refine ziload_n C dJx4a65c_elementData_915e3_4 rfl ?_
  refine zroald (i0 := j) C hE1 rfl (by omega) (by omega) dJx4a65c_elementData_915e3_5 ?_
  exact zend_q C hE rfl (Or.inl ⟨_, rfl⟩) dJx4a65c_elementData_915e3_6 (by omega) (by omega) ⟨rfl, rfl⟩
set_option maxRecDepth 100000 in
set_option maxHeartbeats 1000000 in
theorem l_get {g : zGh} {M : zM} {a ea cap len : Nat} {f : Nat → Option Nat} {mc : Int32} (j : Nat) (h : zLst g M a ea cap len f mc) (hj : j < len) : zCt g yJx4a65c_get_915e3 cJx4a65c_get_915e3 2 (some (.object "java/lang/Object")) 2 43 (fun r => some (va_rf r)) [.ref a, .int (nI j)] M 0 0 (fun v M1 => v = f j ∧ M1 = M) noX := by
  refine zof [some (.ref a), some (.int (nI j))] (by decide +kernel) rfl rfl (Nat.le_of_ble_eq_true rfl) ?_
  intro X C hE hnm
  have C : zC g X RJx4a65c cJx4a65c_get_915e3 2 2 43 0 0 := C
  obtain ⟨hA, hE1, h2, h3, h4⟩ := h
  refine ziload_n C dJx4a65c_get_915e3_0 rfl ?_
  refine zaload_n C dJx4a65c_get_915e3_1 rfl ?_
  refine zget C hf_Jx4a65c_48 hA (by rfl) dJx4a65c_get_915e3_2 ?_
  refine zcallS C (j_check j len hj (by omega)) hy_J15_checkIndex_7cf53 hst_J15_checkIndex_7cf53 hl_Jx4a65c_118 rfl rfl (by decide) (by decide) (by omega) (by omega) rfl (by exact Nat.le_of_ble_eq_true rfl) dJx4a65c_get_915e3_5 (fun v5 M hp5 => ?_)
  obtain ⟨rfl, rfl⟩ := hp5
  refine zpop C dJx4a65c_get_915e3_8 rfl ?_
  refine zaload_n C dJx4a65c_get_915e3_9 rfl ?_
  refine ziload_n C dJx4a65c_get_915e3_10 rfl ?_
  refine zcallV C (l_elem j hA hE1 (by omega) h4) hy_Jx4a65c_elementData_915e3 hv_Jx4a65c_elementData_915e3 hl_Jx4a65c_123 hA rfl rfl rfl rfl (by decide) (by decide) (by omega) (by omega) rfl (by exact Nat.le_of_ble_eq_true rfl) dJx4a65c_get_915e3_11 (fun v11 M hp11 => ?_)
  obtain ⟨rfl, rfl⟩ := hp11
  exact zend_q C hE rfl (Or.inl ⟨_, rfl⟩) dJx4a65c_get_915e3_14 (by omega) (by omega) ⟨rfl, rfl⟩
