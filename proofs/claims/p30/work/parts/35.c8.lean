theorem zob_ci {M : zM} {a y ci : Nat} {vs fs : List Value} (hy : M y = some (zob ci vs)) (ha : M a = some (zob 0 fs)) (hci : ci ≠ 0) : y ≠ a := fun e => by
  rw [e, ha] at hy
  simp [zob] at hy
  exact hci hy.1.symm
theorem znoneU {M : zM} {a q : Nat} {e : va_E} (h : zup M a e q = none) : M q = none := by
  unfold zup at h
  split at h
  · cases h
  · exact h
theorem zEl.up {M : zM} {a ci n : Nat} {fs : List Value} {f : Nat → Option Nat} {e : va_E} (h : zEl M ci n f) (ha : M a = some (zob 0 fs)) (hci : ci ≠ 0) : zEl (zup M a e) ci n f := fun i hi => by
  obtain ⟨y, vs, h1, h2⟩ := h i hi
  exact ⟨y, vs, h1, by rw [zup_ne (zob_ci h2 ha hci)]; exact h2⟩
set_option maxRecDepth 100000 in
set_option maxHeartbeats 1000000 in
theorem l_addA {g : zGh} {M : zM} {a ea cap len v0 : Nat} {vs : List Value} {f : Nat → Option Nat} {mc : Int32} {ci : Nat} {r : vw_C} (h : zLst g M a ea cap len f mc) (hl : len < cap) (hc : vwCl[ci]? = some r) (hw : Cond.castable r.1 "java/lang/Object" ∈ lw_tbl) (hci : ci ≠ 0) (hv : M v0 = some (zob ci vs)) : zCt g yJx4a65c_add_9ea2d cJx4a65c_add_9ea2d 2 (some .boolean) 6 150 mkI [.ref a, .ref v0] M 0 0 (fun v M1 => v = 1 ∧ zLst g M1 a ea cap (len + 1) (va_up f len (some v0)) (mc + 1) ∧ ∀ q e, M q = some e → q ≠ a → q ≠ ea → M1 q = some e) noX := by
  refine zof [some (.ref a), some (.ref v0)] (by decide +kernel) rfl rfl (Nat.le_of_ble_eq_true rfl) ?_
  intro X C hE hnm
  have C : zC g X RJx4a65c cJx4a65c_add_9ea2d 2 6 150 0 0 := C
  obtain ⟨hA, hE1, h2, h3, h4⟩ := id h
  have hva := zob_ci hv hA hci
  refine zaload_n C dJx4a65c_add_9ea2d_0 rfl ?_
  refine zdup C dJx4a65c_add_9ea2d_1 rfl ?_
  refine zget C hf_Jx4a65c_63 hA (by rfl) dJx4a65c_add_9ea2d_2 ?_
  refine zconst (v := 1) C dJx4a65c_add_9ea2d_5 (by decide) ?_
  refine ziadd C dJx4a65c_add_9ea2d_6 ?_
  refine zput (fs1 := [_, _, _]) C hf_Jx4a65c_63 hp_Jx4a65c rfl hA rfl rfl (by exact Nat.le_of_ble_eq_true rfl) (by rfl) dJx4a65c_add_9ea2d_7 ?_
  refine zaload_n C dJx4a65c_add_9ea2d_10 rfl ?_
  refine zaload_n C dJx4a65c_add_9ea2d_11 rfl ?_
  refine zaload_n C dJx4a65c_add_9ea2d_12 rfl ?_
  refine zget C hf_Jx4a65c_9 zup_same (by rfl) dJx4a65c_add_9ea2d_13 ?_
  refine zaload_n C dJx4a65c_add_9ea2d_16 rfl ?_
  refine zget C hf_Jx4a65c_48 zup_same (by rfl) dJx4a65c_add_9ea2d_17 ?_
  refine zcallV C (l_add3A zup_same (by rw [zup_ne (zob_ao hA hE1).symm]; exact hE1) hl h4 hc hw (by rw [zup_ne hva]; exact hv)) hy_Jx4a65c_add_72be8 hv_Jx4a65c_add_72be8 hl_Jx4a65c_131 zup_same rfl rfl rfl rfl (by decide) (by decide) (by omega) (by omega) rfl (by exact Nat.le_of_ble_eq_true rfl) dJx4a65c_add_9ea2d_20 (fun v20 M1 hp20 => ?_)
  obtain rfl := hp20
  refine zconst (v := 1) C dJx4a65c_add_9ea2d_23 (by decide) ?_
  exact zend_z C hE dJx4a65c_add_9ea2d_24 (by omega) (by omega) (by first | exact Or.inl rfl | exact Or.inr rfl | exact b2i_b _) ⟨rfl, ⟨zup_same, by rw [zup_ne (zob_ao hA hE1).symm]; exact zup_same, by omega, h3, h4⟩, fun q e hq ha he => by rw [zup_ne ha, zup_ne he, zup_ne ha]; exact hq⟩
set_option maxRecDepth 100000 in
set_option maxHeartbeats 1000000 in
theorem l_addB {g : zGh} {M : zM} {a ea cap v0 : Nat} {vs : List Value} {f : Nat → Option Nat} {mc : Int32} {ci : Nat} {r : vw_C} (h : zLst g M a ea cap cap f mc) (hl : cap ≤ 2048) (hc : vwCl[ci]? = some r) (hw : Cond.castable r.1 "java/lang/Object" ∈ lw_tbl) (hci : ci ≠ 0) (hel : zEl M ci cap f) (hv : M v0 = some (zob ci vs)) : zCt g yJx4a65c_add_9ea2d cJx4a65c_add_9ea2d 2 (some .boolean) 6 150 mkI [.ref a, .ref v0] M 1 (cap + cap / 2) (fun v M1 => v = 1 ∧ ∃ e1, M e1 = none ∧ zLst g M1 a e1 (cap + cap / 2) (cap + 1) (va_up (extO cap f) cap (some v0)) (mc + 1) ∧ ∀ q e, M q = some e → q ≠ a → M1 q = some e) noX := by
  refine zof [some (.ref a), some (.ref v0)] (by decide +kernel) rfl rfl (Nat.le_of_ble_eq_true rfl) ?_
  intro X C hE hnm
  have C : zC g X RJx4a65c cJx4a65c_add_9ea2d 2 6 150 1 (cap + cap / 2) := C
  obtain ⟨hA, hE1, h2, h3, h4⟩ := id h
  have hva := zob_ci hv hA hci
  refine zaload_n C dJx4a65c_add_9ea2d_0 rfl ?_
  refine zdup C dJx4a65c_add_9ea2d_1 rfl ?_
  refine zget C hf_Jx4a65c_63 hA (by rfl) dJx4a65c_add_9ea2d_2 ?_
  refine zconst (v := 1) C dJx4a65c_add_9ea2d_5 (by decide) ?_
  refine ziadd C dJx4a65c_add_9ea2d_6 ?_
  refine zput (fs1 := [_, _, _]) C hf_Jx4a65c_63 hp_Jx4a65c rfl hA rfl rfl (by exact Nat.le_of_ble_eq_true rfl) (by rfl) dJx4a65c_add_9ea2d_7 ?_
  refine zaload_n C dJx4a65c_add_9ea2d_10 rfl ?_
  refine zaload_n C dJx4a65c_add_9ea2d_11 rfl ?_
  refine zaload_n C dJx4a65c_add_9ea2d_12 rfl ?_
  refine zget C hf_Jx4a65c_9 zup_same (by rfl) dJx4a65c_add_9ea2d_13 ?_
  refine zaload_n C dJx4a65c_add_9ea2d_16 rfl ?_
  refine zget C hf_Jx4a65c_48 zup_same (by rfl) dJx4a65c_add_9ea2d_17 ?_
  refine zcallV C (l_add3B zup_same (by rw [zup_ne (zob_ao hA hE1).symm]; exact hE1) h3 hl hc hw (hel.up hA hci) (by rw [zup_ne hva]; exact hv) hva) hy_Jx4a65c_add_72be8 hv_Jx4a65c_add_72be8 hl_Jx4a65c_131 zup_same rfl rfl rfl rfl (by decide) (by decide) (by omega) (by omega) rfl (by exact Nat.le_of_ble_eq_true rfl) dJx4a65c_add_9ea2d_20 (fun v20 M1 hp20 => ?_)
  obtain ⟨q1, hq, rfl⟩ := hp20
  have hqa := (znone zup_same hq).symm
  refine zconst (v := 1) C dJx4a65c_add_9ea2d_23 (by decide) ?_
  exact zend_z C hE dJx4a65c_add_9ea2d_24 (by omega) (by omega) (by first | exact Or.inl rfl | exact Or.inr rfl | exact b2i_b _) ⟨rfl, q1, znoneU hq, ⟨zup_same, by rw [zup_ne hqa]; exact zup_same, by omega, by omega, by omega⟩, fun q e he ha => by rw [zup_ne ha, zup_ne (znone he (znoneU hq)), zup_ne ha, zup_ne (znone he (znoneU hq)), zup_ne ha]; exact he⟩
set_option maxRecDepth 100000 in
set_option maxHeartbeats 1000000 in
theorem l_addC {g : zGh} {M : zM} {a v0 : Nat} {vs : List Value} {mc : Int32} {ci : Nat} {r : vw_C} (hA : M a = some (zob 0 [.int mc, .ref (g.2.2.2.1 4), .int 0])) (hc : vwCl[ci]? = some r) (hw : Cond.castable r.1 "java/lang/Object" ∈ lw_tbl) (hci : ci ≠ 0) (hv : M v0 = some (zob ci vs)) : zCt g yJx4a65c_add_9ea2d cJx4a65c_add_9ea2d 2 (some .boolean) 6 150 mkI [.ref a, .ref v0] M 1 10 (fun v M1 => v = 1 ∧ ∃ e1, M e1 = none ∧ zLst g M1 a e1 10 1 (va_up (fun _ => none) 0 (some v0)) (mc + 1) ∧ ∀ q e, M q = some e → q ≠ a → M1 q = some e) noX := by
  refine zof [some (.ref a), some (.ref v0)] (by decide +kernel) rfl rfl (Nat.le_of_ble_eq_true rfl) ?_
  intro X C hE hnm
  have C : zC g X RJx4a65c cJx4a65c_add_9ea2d 2 6 150 1 10 := C
  have hva := zob_ci hv hA hci
  refine zaload_n C dJx4a65c_add_9ea2d_0 rfl ?_
  refine zdup C dJx4a65c_add_9ea2d_1 rfl ?_
  refine zget C hf_Jx4a65c_63 hA (by rfl) dJx4a65c_add_9ea2d_2 ?_
  refine zconst (v := 1) C dJx4a65c_add_9ea2d_5 (by decide) ?_
  refine ziadd C dJx4a65c_add_9ea2d_6 ?_
  refine zput (fs1 := [_, _, _]) C hf_Jx4a65c_63 hp_Jx4a65c rfl hA rfl rfl (by exact Nat.le_of_ble_eq_true rfl) (by rfl) dJx4a65c_add_9ea2d_7 ?_
  refine zaload_n C dJx4a65c_add_9ea2d_10 rfl ?_
  refine zaload_n C dJx4a65c_add_9ea2d_11 rfl ?_
  refine zaload_n C dJx4a65c_add_9ea2d_12 rfl ?_
  refine zget C hf_Jx4a65c_9 zup_same (by rfl) dJx4a65c_add_9ea2d_13 ?_
  refine zaload_n C dJx4a65c_add_9ea2d_16 rfl ?_
  refine zget C hf_Jx4a65c_48 zup_same (by rfl) dJx4a65c_add_9ea2d_17 ?_
  refine zcallV C (l_add3C zup_same hc hw (by rw [zup_ne hva]; exact hv) hva) hy_Jx4a65c_add_72be8 hv_Jx4a65c_add_72be8 hl_Jx4a65c_131 zup_same rfl rfl rfl rfl (by decide) (by decide) (by omega) (by omega) rfl (by exact Nat.le_of_ble_eq_true rfl) dJx4a65c_add_9ea2d_20 (fun v20 M1 hp20 => ?_)
  obtain ⟨q1, hq, rfl⟩ := hp20
  have hqa := (znone zup_same hq).symm
  refine zconst (v := 1) C dJx4a65c_add_9ea2d_23 (by decide) ?_
  exact zend_z C hE dJx4a65c_add_9ea2d_24 (by omega) (by omega) (by first | exact Or.inl rfl | exact Or.inr rfl | exact b2i_b _) ⟨rfl, q1, znoneU hq, ⟨zup_same, by rw [zup_ne hqa]; exact zup_same, by omega, by omega, by omega⟩, fun q e he ha => by rw [zup_ne ha, zup_ne (znone he (znoneU hq)), zup_ne ha, zup_ne (znone he (znoneU hq)), zup_ne ha]; exact he⟩
set_option maxRecDepth 100000 in
set_option maxHeartbeats 1000000 in
theorem l_init0 {g : zGh} {M : zM} {a : Nat}  : zCt g yJxa1e45_init_da8c8 cJxa1e45_init_da8c8 1 none 1 20 mkV [.ref a] M 0 0 (fun v M1 => M1 = M) noX := by
  refine zof [some (.ref a)] (by decide +kernel) rfl rfl (Nat.le_of_ble_eq_true rfl) ?_
  intro X C hE hnm
  have C : zC g X RJxa1e45 cJxa1e45_init_da8c8 1 1 20 0 0 := C
  refine zaload_n C dJxa1e45_init_da8c8_0 rfl ?_
  refine zobj C hl_Jxa1e45_1 hoi1 hoi2 rfl (by decide) (by decide) dJxa1e45_init_da8c8_1 ?_
  exact zend_v C hE dJxa1e45_init_da8c8_4 (by omega) (by omega) rfl
set_option maxRecDepth 100000 in
set_option maxHeartbeats 1000000 in
theorem l_init1 {g : zGh} {M : zM} {a : Nat} (hA : M a = some (zob 0 [.int 0, .null, .int 0])) : zCt g yJxc12de_init_da8c8 cJxc12de_init_da8c8 1 none 2 40 mkV [.ref a] M 0 0 (fun v M1 => M1 = zup M a (zob 0 [.int 0, .null, .int 0])) noX := by
  refine zof [some (.ref a)] (by decide +kernel) rfl rfl (Nat.le_of_ble_eq_true rfl) ?_
  intro X C hE hnm
  have C : zC g X RJxc12de cJxc12de_init_da8c8 1 2 40 0 0 := C
  refine zaload_n C dJxc12de_init_da8c8_0 rfl ?_
  refine zcallI C l_init0 hy_Jxa1e45_init_da8c8 hi_Jxa1e45_init_da8c8 hl_Jxc12de_1 rfl rfl (by decide) (by decide) (by omega) (by omega) rfl (by exact Nat.le_of_ble_eq_true rfl) dJxc12de_init_da8c8_1 (fun M1 hp1 => ?_)
  obtain rfl := hp1
  refine zaload_n C dJxc12de_init_da8c8_4 rfl ?_
  refine zconst (v := 0) C dJxc12de_init_da8c8_5 (by decide) ?_
  refine zput (fs1 := [_, _, _]) C hf_Jxc12de_7 hp_Jx4a65c rfl hA rfl rfl (by exact Nat.le_of_ble_eq_true rfl) (by rfl) dJxc12de_init_da8c8_6 ?_
  exact zend_v C hE dJxc12de_init_da8c8_9 (by omega) (by omega) rfl
set_option maxRecDepth 100000 in
set_option maxHeartbeats 1000000 in
theorem l_init {g : zGh} {M : zM} {a : Nat} (hA : M a = some (zob 0 [.int 0, .null, .int 0])) : zCt g yJx4a65c_init_da8c8 cJx4a65c_init_da8c8 1 none 3 60 mkV [.ref a] M 0 0 (fun v M1 => M1 = zup M a (zob 0 [.int 0, .ref (g.2.2.2.1 4), .int 0])) noX := by
  refine zof [some (.ref a)] (by decide +kernel) rfl rfl (Nat.le_of_ble_eq_true rfl) ?_
  intro X C hE hnm
  have C : zC g X RJx4a65c cJx4a65c_init_da8c8 1 3 60 0 0 := C
  refine zaload_n C dJx4a65c_init_da8c8_0 rfl ?_
  refine zcallI C (l_init1 hA) hy_Jxc12de_init_da8c8 hi_Jxc12de_init_da8c8 hl_Jx4a65c_1 rfl rfl (by decide) (by decide) (by omega) (by omega) rfl (by exact Nat.le_of_ble_eq_true rfl) dJx4a65c_init_da8c8_1 (fun M1 hp1 => ?_)
  obtain rfl := hp1
  refine zaload_n C dJx4a65c_init_da8c8_4 rfl ?_
  refine zgets C C.2.2.2.2.2.1.2.2.1.2.2.1 hs_Jx4a65c_39 dJx4a65c_init_da8c8_5 ?_
  refine zput (fs1 := [_, _, _]) C hf_Jx4a65c_9 hp_Jx4a65c rfl zup_same rfl rfl (by exact Nat.le_of_ble_eq_true rfl) (by rfl) dJx4a65c_init_da8c8_8 ?_
  exact zend_v C hE dJx4a65c_init_da8c8_11 (by omega) (by omega) zup_up2
