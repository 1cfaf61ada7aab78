set_option maxRecDepth 100000 in
set_option maxHeartbeats 1000000 in
theorem s_init {g : zGh} {M : zM} {a : Nat} (p d : Nat) (court cents : Int32) (hA : M a = some (zob 6 [.null, .null, .int 0, .int 0, .null, .int 0, .int 0, .int 0, .int 0, .int 0])) : zCt g yX5_init cX5_init 5 none 4 80 mkV [.ref a, .ref p, .ref d, .int court, .int cents] M 1 3 (fun v M1 => ∃ q, M q = none ∧ M1 q = some (zob 0 [.int 0, .ref (g.2.2.2.1 4), .int 0]) ∧ M1 a = some (zob 6 (suiF p d court cents q 0 0 0 (-1) 0)) ∧ ∀ x e, M x = some e → x ≠ a → M1 x = some e) noX := by
  refine zof [some (.ref a), some (.ref p), some (.ref d), some (.int court), some (.int cents)] (by decide +kernel) rfl rfl (Nat.le_of_ble_eq_true rfl) ?_
  intro X C hE hnm
  have C : zC g X RX5 cX5_init 5 4 80 1 3 := C
  refine zaload_n C dX5_init_0 rfl ?_
  refine zobj C hl_X5_3 hoi1 hoi2 rfl (by decide) (by decide) dX5_init_1 ?_
  refine zaload_n C dX5_init_4 rfl ?_
  refine znew C hw_X5_9 rfl (by omega) (by omega) dX5_init_5 (fun q hq => ?_)
  refine zdup C dX5_init_8 rfl ?_
  refine zcallI C (l_init zup_same) hy_Jx4a65c_init_da8c8 hi_Jx4a65c_init_da8c8 hl_X5_11 rfl rfl (by decide) (by decide) (by omega) (by omega) rfl (by exact Nat.le_of_ble_eq_true rfl) dX5_init_9 (fun M1 hp => ?_)
  obtain rfl := hp
  have haq := znone hA hq
  simp only [zup_up2]
  have hA1 : zup M q (zob 0 [.int 0, .ref (g.2.2.2.1 4), .int 0]) a = some (zob 6 [.null, .null, .int 0, .int 0, .null, .int 0, .int 0, .int 0, .int 0, .int 0]) := by rw [zup_ne haq]; exact hA
  refine zputF (fs1 := [_, _, _, _, _, _, _, _, _, _]) C hnm hf_X5_12 hp_X5 rfl rfl hA1 rfl rfl (by exact Nat.le_of_ble_eq_true rfl) (by rfl) dX5_init_12 ?_
  refine zaload_n C dX5_init_15 rfl ?_
  refine zconst (v := 0) C dX5_init_16 (by decide) ?_
  refine zput (fs1 := [_, _, _, _, _, _, _, _, _, _]) C hf_X5_18 hp_X5 rfl zup_same rfl rfl (by exact Nat.le_of_ble_eq_true rfl) (by rfl) dX5_init_17 ?_
  refine zaload_n C dX5_init_20 rfl ?_
  refine zconst (v := 0) C dX5_init_21 (by decide) ?_
  refine zput (fs1 := [_, _, _, _, _, _, _, _, _, _]) C hf_X5_22 hp_X5 rfl zup_same rfl rfl (by exact Nat.le_of_ble_eq_true rfl) (by rfl) dX5_init_22 ?_
  refine zaload_n C dX5_init_25 rfl ?_
  refine zconst (v := 0) C dX5_init_26 (by decide) ?_
  refine zput (fs1 := [_, _, _, _, _, _, _, _, _, _]) C hf_X5_26 hp_X5 rfl zup_same rfl rfl (by exact Nat.le_of_ble_eq_true rfl) (by rfl) dX5_init_27 ?_
  refine zaload_n C dX5_init_30 rfl ?_
  refine zconst (v := -1) C dX5_init_31 (by decide) ?_
  refine zput (fs1 := [_, _, _, _, _, _, _, _, _, _]) C hf_X5_29 hp_X5 rfl zup_same rfl rfl (by exact Nat.le_of_ble_eq_true rfl) (by rfl) dX5_init_32 ?_
  refine zaload_n C dX5_init_35 rfl ?_
  refine zconst (v := 0) C dX5_init_36 (by decide) ?_
  refine zput (fs1 := [_, _, _, _, _, _, _, _, _, _]) C hf_X5_32 hp_X5 rfl zup_same rfl rfl (by exact Nat.le_of_ble_eq_true rfl) (by rfl) dX5_init_37 ?_
  refine zaload_n C dX5_init_40 rfl ?_
  refine zaload_n C dX5_init_41 rfl ?_
  refine zputF (fs1 := [_, _, _, _, _, _, _, _, _, _]) C hnm hf_X5_35 hp_X5 rfl rfl zup_same rfl rfl (by exact Nat.le_of_ble_eq_true rfl) (by rfl) dX5_init_42 ?_
  refine zaload_n C dX5_init_45 rfl ?_
  refine zaload_n C dX5_init_46 rfl ?_
  refine zputF (fs1 := [_, _, _, _, _, _, _, _, _, _]) C hnm hf_X5_39 hp_X5 rfl rfl zup_same rfl rfl (by exact Nat.le_of_ble_eq_true rfl) (by rfl) dX5_init_47 ?_
  refine zaload_n C dX5_init_50 rfl ?_
  refine ziload_n C dX5_init_51 rfl ?_
  refine zputF (fs1 := [_, _, _, _, _, _, _, _, _, _]) C hnm hf_X5_42 hp_X5 rfl rfl zup_same rfl rfl (by exact Nat.le_of_ble_eq_true rfl) (by rfl) dX5_init_52 ?_
  refine zaload_n C dX5_init_55 rfl ?_
  refine ziload C dX5_init_56 rfl ?_
  refine zputF (fs1 := [_, _, _, _, _, _, _, _, _, _]) C hnm hf_X5_45 hp_X5 rfl rfl zup_same rfl rfl (by exact Nat.le_of_ble_eq_true rfl) (by rfl) dX5_init_58 ?_
  simp only [zup_up2]
  exact zend_v C hE dX5_init_61 (by omega) (by omega) ⟨q, hq, by rw [zup_ne haq.symm]; exact zup_same, zup_same, fun x e hx ha => by rw [zup_ne ha, zup_ne (znone hx hq)]; exact hx⟩
