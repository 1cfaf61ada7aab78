set_option maxRecDepth 100000 in
set_option maxHeartbeats 1000000 in
theorem l_growB {g : zGh} {M : zM} {a ea cap : Nat} {f : Nat → Option Nat} {mc : Int32} {ci : Nat} {r : vw_C} (hA : M a = some (zob 0 [.int mc, .ref ea, .int (nI cap)])) (hE1 : M ea = some (zao g cap f)) (h3 : 10 ≤ cap) (h4 : cap ≤ 4096) (hc : vwCl[ci]? = some r) (hw : Cond.castable r.1 "java/lang/Object" ∈ lw_tbl) (hel : zEl M ci cap f) : zCt g yJx4a65c_grow_92f84 cJx4a65c_grow_92f84 4 (some (.array (.object "java/lang/Object"))) 3 84 mkR [.ref a, .int (nI (cap + 1))] M 1 (cap + cap / 2) (fun v M1 => M v = none ∧ M1 = zup (zup M v (zao g (cap + cap / 2) (extO cap f))) a (zob 0 [.int mc, .ref v, .int (nI cap)])) noX := by
  refine zof [some (.ref a), some (.int (nI (cap + 1))), none, none] (by decide +kernel) rfl rfl (Nat.le_of_ble_eq_true rfl) ?_
  intro X C hE hnm
  have C : zC g X RJx4a65c cJx4a65c_grow_92f84 4 3 84 1 (cap + cap / 2) := C
  refine zaload_n C dJx4a65c_grow_92f84_0 rfl ?_
  refine zget C hf_Jx4a65c_9 hA (by rfl) dJx4a65c_grow_92f84_1 ?_
  refine zaleno (v := nI cap) C hE1 rfl dJx4a65c_grow_92f84_4 ?_
  refine zistore_n (L1 := [_, _, _, _]) C dJx4a65c_grow_92f84_5 rfl (Nat.le_of_ble_eq_true rfl) ?_
  refine ziload_n C dJx4a65c_grow_92f84_6 rfl ?_
  refine zif_gt_t (tgt := 20) C dJx4a65c_grow_92f84_7 (by decide) (nI_pos_lt (by omega) (by omega)) ?_
  refine ziload_n C dJx4a65c_grow_92f84_20 rfl ?_
  refine ziload_n C dJx4a65c_grow_92f84_21 rfl ?_
  refine ziload_n C dJx4a65c_grow_92f84_22 rfl ?_
  refine zisub C dJx4a65c_grow_92f84_23 ?_
  refine ziload_n C dJx4a65c_grow_92f84_24 rfl ?_
  refine zconst (v := 1) C dJx4a65c_grow_92f84_25 (by decide) ?_
  refine zishr C dJx4a65c_grow_92f84_26 ?_
  rw [show nI (cap + 1) - nI cap = nI 1 from by rw [pk_sub (by omega)]; congr 1; omega, show nI cap >>> ((1 : Int32) &&& 31) = nI (cap / 2) from pk_shrN (by omega) _ 1 (by decide)]
  refine zcallS C (j_newLength cap 1 (cap / 2) (by omega) (by omega) (by omega) (by omega)) hy_J8_newLength_cabcc hst_J8_newLength_cabcc hl_Jx4a65c_73 rfl rfl (by decide) (by decide) (by omega) (by omega) rfl (by exact Nat.le_of_ble_eq_true rfl) dJx4a65c_grow_92f84_27 (fun v27 M hp27 => ?_)
  obtain ⟨rfl, rfl⟩ := hp27
  refine zistore_n (L1 := [_, _, _, _]) C dJx4a65c_grow_92f84_30 rfl (Nat.le_of_ble_eq_true rfl) ?_
  refine zaload_n C dJx4a65c_grow_92f84_31 rfl ?_
  refine zaload_n C dJx4a65c_grow_92f84_32 rfl ?_
  refine zget C hf_Jx4a65c_9 hA (by rfl) dJx4a65c_grow_92f84_33 ?_
  refine ziload_n C dJx4a65c_grow_92f84_36 rfl ?_
  refine zcallS C (c_copyo hE1 (by omega) (by omega) hc hw hel) hy_J7_copyOf_1904c hst_J7_copyOf_1904c hl_Jx4a65c_66 rfl rfl (by decide) (by decide) (by omega) (by omega) rfl (by exact Nat.le_of_ble_eq_true rfl) dJx4a65c_grow_92f84_37 (fun v37 M1 hp37 => ?_)
  obtain ⟨hq, rfl⟩ := hp37
  have hA1 : zup M v37 (zao g (cap + cap / 2) (extO cap f)) a = some (zob 0 [.int mc, .ref ea, .int (nI cap)]) := by rw [zup_ne (znone hA hq)]; exact hA
  refine zdup_x1 C dJx4a65c_grow_92f84_40 rfl rfl ?_
  refine zput (fs1 := [_, _, _]) C hf_Jx4a65c_9 hp_Jx4a65c rfl hA1 rfl rfl (by exact Nat.le_of_ble_eq_true rfl) (by rfl) dJx4a65c_grow_92f84_41 ?_
  exact zend_r C hE (by first | exact Or.inl ⟨_, rfl⟩ | exact Or.inr ⟨_, rfl⟩) dJx4a65c_grow_92f84_44 (by omega) (by omega) ⟨hq, rfl⟩
set_option maxRecDepth 100000 in
set_option maxHeartbeats 1000000 in
theorem l_growC {g : zGh} {M : zM} {a : Nat} {mc : Int32} (hA : M a = some (zob 0 [.int mc, .ref (g.2.2.2.1 4), .int 0])) : zCt g yJx4a65c_grow_92f84 cJx4a65c_grow_92f84 4 (some (.array (.object "java/lang/Object"))) 3 84 mkR [.ref a, .int 1] M 1 10 (fun v M1 => M v = none ∧ M1 = zup (zup M v (zao g 10 (fun _ => none))) a (zob 0 [.int mc, .ref v, .int 0])) noX := by
  refine zof [some (.ref a), some (.int 1), none, none] (by decide +kernel) rfl rfl (Nat.le_of_ble_eq_true rfl) ?_
  intro X C hE hnm
  have C : zC g X RJx4a65c cJx4a65c_grow_92f84 4 3 84 1 10 := C
  refine zaload_n C dJx4a65c_grow_92f84_0 rfl ?_
  refine zget C hf_Jx4a65c_9 hA (by rfl) dJx4a65c_grow_92f84_1 ?_
  refine zsalen (v := 0) C C.2.2.2.2.2.1.2.2.1.2.2.2 rfl dJx4a65c_grow_92f84_4 ?_
  refine zistore_n (L1 := [_, _, _, _]) C dJx4a65c_grow_92f84_5 rfl (Nat.le_of_ble_eq_true rfl) ?_
  refine ziload_n C dJx4a65c_grow_92f84_6 rfl ?_
  refine zif_gt_f (tgt := 20) C dJx4a65c_grow_92f84_7 (by decide) (by decide) ?_
  refine zaload_n C dJx4a65c_grow_92f84_10 rfl ?_
  refine zget C hf_Jx4a65c_9 hA (by rfl) dJx4a65c_grow_92f84_11 ?_
  refine zgets C C.2.2.2.2.2.1.2.2.1.2.2.1 hs_Jx4a65c_39 dJx4a65c_grow_92f84_14 ?_
  refine zacmp_eq (tgt := 45) C dJx4a65c_grow_92f84_17 (by decide) (show va_rf (some (g.2.2.2.1 4)) = _ from rfl) (show va_rf (some (g.2.2.2.1 4)) = _ from rfl) (fun h17 => ?_) (fun h17 => by first | exact absurd rfl h17 | exact absurd h17 rfl)
  refine zaload_n C dJx4a65c_grow_92f84_45 rfl ?_
  refine zbipush (v := 10) C dJx4a65c_grow_92f84_46 (by decide) ?_
  refine ziload_n C dJx4a65c_grow_92f84_48 rfl ?_
  refine zmmax C hl_Jx4a65c_79 rfl (by decide) (Nat.le_of_ble_eq_true rfl) (by omega) (by omega) dJx4a65c_grow_92f84_49 ?_
  rw [show (if (10 : Int32) < 1 then (1 : Int32) else 10) = 10 from rfl]
  refine znewO (N := 10) C hc_Jx4a65c_7 (by decide) rfl (by decide) (by omega) (by omega) dJx4a65c_grow_92f84_52 (fun q hq => ?_)
  have hA1 : zup M q (zao g 10 fun _ => none) a = some (zob 0 [.int mc, .ref (g.2.2.2.1 4), .int 0]) := by rw [zup_ne (znone hA hq)]; exact hA
  refine zdup_x1 C dJx4a65c_grow_92f84_55 rfl rfl ?_
  refine zput (fs1 := [_, _, _]) C hf_Jx4a65c_9 hp_Jx4a65c rfl hA1 rfl rfl (by exact Nat.le_of_ble_eq_true rfl) (by rfl) dJx4a65c_grow_92f84_56 ?_
  exact zend_r C hE (by first | exact Or.inl ⟨_, rfl⟩ | exact Or.inr ⟨_, rfl⟩) dJx4a65c_grow_92f84_59 (by omega) (by omega) ⟨hq, rfl⟩
set_option maxRecDepth 100000 in
set_option maxHeartbeats 1000000 in
theorem l_grow1B {g : zGh} {M : zM} {a ea cap : Nat} {f : Nat → Option Nat} {mc : Int32} {ci : Nat} {r : vw_C} (hA : M a = some (zob 0 [.int mc, .ref ea, .int (nI cap)])) (hE1 : M ea = some (zao g cap f)) (h3 : 10 ≤ cap) (h4 : cap ≤ 4096) (hc : vwCl[ci]? = some r) (hw : Cond.castable r.1 "java/lang/Object" ∈ lw_tbl) (hel : zEl M ci cap f) : zCt g yJx4a65c_grow_d5877 cJx4a65c_grow_d5877 1 (some (.array (.object "java/lang/Object"))) 4 107 mkR [.ref a] M 1 (cap + cap / 2) (fun v M1 => M v = none ∧ M1 = zup (zup M v (zao g (cap + cap / 2) (extO cap f))) a (zob 0 [.int mc, .ref v, .int (nI cap)])) noX := by
  refine zof [some (.ref a)] (by decide +kernel) rfl rfl (Nat.le_of_ble_eq_true rfl) ?_
  intro X C hE hnm
  have C : zC g X RJx4a65c cJx4a65c_grow_d5877 1 4 107 1 (cap + cap / 2) := C
  refine zaload_n C dJx4a65c_grow_d5877_0 rfl ?_
  refine zaload_n C dJx4a65c_grow_d5877_1 rfl ?_
  refine zget C hf_Jx4a65c_48 hA (by rfl) dJx4a65c_grow_d5877_2 ?_
  refine zconst (v := 1) C dJx4a65c_grow_d5877_5 (by decide) ?_
  refine ziadd C dJx4a65c_grow_d5877_6 ?_
  rw [nI_1 cap]
  refine zcallV C (l_growB hA hE1 h3 h4 hc hw hel) hy_Jx4a65c_grow_92f84 hv_Jx4a65c_grow_92f84 hl_Jx4a65c_69 hA rfl rfl rfl rfl (by decide) (by decide) (by omega) (by omega) rfl (by exact Nat.le_of_ble_eq_true rfl) dJx4a65c_grow_d5877_7 (fun v7 M1 hp7 => ?_)
  obtain ⟨hq, rfl⟩ := hp7
  exact zend_r C hE (by first | exact Or.inl ⟨_, rfl⟩ | exact Or.inr ⟨_, rfl⟩) dJx4a65c_grow_d5877_10 (by omega) (by omega) ⟨hq, rfl⟩
set_option maxRecDepth 100000 in
set_option maxHeartbeats 1000000 in
theorem l_grow1C {g : zGh} {M : zM} {a : Nat} {mc : Int32} (hA : M a = some (zob 0 [.int mc, .ref (g.2.2.2.1 4), .int 0])) : zCt g yJx4a65c_grow_d5877 cJx4a65c_grow_d5877 1 (some (.array (.object "java/lang/Object"))) 4 107 mkR [.ref a] M 1 10 (fun v M1 => M v = none ∧ M1 = zup (zup M v (zao g 10 (fun _ => none))) a (zob 0 [.int mc, .ref v, .int 0])) noX := by
  refine zof [some (.ref a)] (by decide +kernel) rfl rfl (Nat.le_of_ble_eq_true rfl) ?_
  intro X C hE hnm
  have C : zC g X RJx4a65c cJx4a65c_grow_d5877 1 4 107 1 10 := C
  refine zaload_n C dJx4a65c_grow_d5877_0 rfl ?_
  refine zaload_n C dJx4a65c_grow_d5877_1 rfl ?_
  refine zget C hf_Jx4a65c_48 hA (by rfl) dJx4a65c_grow_d5877_2 ?_
  refine zconst (v := 1) C dJx4a65c_grow_d5877_5 (by decide) ?_
  refine ziadd C dJx4a65c_grow_d5877_6 ?_
  rw [show (0 : Int32) + 1 = 1 from rfl]
  refine zcallV C (l_growC hA) hy_Jx4a65c_grow_92f84 hv_Jx4a65c_grow_92f84 hl_Jx4a65c_69 hA rfl rfl rfl rfl (by decide) (by decide) (by omega) (by omega) rfl (by exact Nat.le_of_ble_eq_true rfl) dJx4a65c_grow_d5877_7 (fun v7 M1 hp7 => ?_)
  obtain ⟨hq, rfl⟩ := hp7
  exact zend_r C hE (by first | exact Or.inl ⟨_, rfl⟩ | exact Or.inr ⟨_, rfl⟩) dJx4a65c_grow_d5877_10 (by omega) (by omega) ⟨hq, rfl⟩
set_option maxRecDepth 100000 in
set_option maxHeartbeats 1000000 in
theorem l_add3A {g : zGh} {M : zM} {a ea cap len v0 : Nat} {vs : List Value} {f : Nat → Option Nat} {mc : Int32} {ci : Nat} {r : vw_C} (hA : M a = some (zob 0 [.int mc, .ref ea, .int (nI len)])) (hE1 : M ea = some (zao g cap f)) (h2 : len < cap) (h4 : cap ≤ 4096) (hc : vwCl[ci]? = some r) (hw : Cond.castable r.1 "java/lang/Object" ∈ lw_tbl) (hv : M v0 = some (zob ci vs)) : zCt g yJx4a65c_add_72be8 cJx4a65c_add_72be8 4 none 5 127 mkV [.ref a, .ref v0, .ref ea, .int (nI len)] M 0 0 (fun v M1 => M1 = zup (zup M ea (zao g cap (va_up f len (some v0)))) a (zob 0 [.int mc, .ref ea, .int (nI (len + 1))])) noX := by
  refine zof [some (.ref a), some (.ref v0), some (.ref ea), some (.int (nI len))] (by decide +kernel) rfl rfl (Nat.le_of_ble_eq_true rfl) ?_
  intro X C hE hnm
  have C : zC g X RJx4a65c cJx4a65c_add_72be8 4 5 127 0 0 := C
  refine ziload_n C dJx4a65c_add_72be8_0 rfl ?_
  refine zaload_n C dJx4a65c_add_72be8_1 rfl ?_
  refine zaleno (v := nI cap) C hE1 rfl dJx4a65c_add_72be8_2 ?_
  refine zicmp_ne (tgt := 11) C dJx4a65c_add_72be8_3 (by decide) (fun h3 => ?_) (fun h3 => by first | exact absurd (fun e => by have := (nI_eq (a := len) (b := cap) (by omega) (by omega)).mp e; omega) h3 | exact absurd h3 (fun e => by have := (nI_eq (a := len) (b := cap) (by omega) (by omega)).mp e; omega))
  refine zaload_n C dJx4a65c_add_72be8_11 rfl ?_
  refine ziload_n C dJx4a65c_add_72be8_12 rfl ?_
  refine zaload_n C dJx4a65c_add_72be8_13 rfl ?_
  refine zoast (i0 := len) C hE1 hv hc hw rfl h2 (by omega) dJx4a65c_add_72be8_14 ?_
  have hA1 : zup M ea (zao g cap (va_up f len (some v0))) a = some (zob 0 [.int mc, .ref ea, .int (nI len)]) := by rw [zup_ne (zob_ao hA hE1)]; exact hA
  refine zaload_n C dJx4a65c_add_72be8_15 rfl ?_
  refine ziload_n C dJx4a65c_add_72be8_16 rfl ?_
  refine zconst (v := 1) C dJx4a65c_add_72be8_17 (by decide) ?_
  refine ziadd C dJx4a65c_add_72be8_18 ?_
  rw [nI_1 len]
  refine zput (fs1 := [_, _, _]) C hf_Jx4a65c_48 hp_Jx4a65c rfl hA1 rfl rfl (by exact Nat.le_of_ble_eq_true rfl) (by rfl) dJx4a65c_add_72be8_19 ?_
  exact zend_v C hE dJx4a65c_add_72be8_22 (by omega) (by omega) rfl
set_option maxRecDepth 100000 in
set_option maxHeartbeats 1000000 in
theorem l_add3B {g : zGh} {M : zM} {a ea cap v0 : Nat} {vs : List Value} {f : Nat → Option Nat} {mc : Int32} {ci : Nat} {r : vw_C} (hA : M a = some (zob 0 [.int mc, .ref ea, .int (nI cap)])) (hE1 : M ea = some (zao g cap f)) (ht : 10 ≤ cap) (h4 : cap ≤ 2048) (hc : vwCl[ci]? = some r) (hw : Cond.castable r.1 "java/lang/Object" ∈ lw_tbl) (hel : zEl M ci cap f) (hv : M v0 = some (zob ci vs)) (hva : v0 ≠ a) : zCt g yJx4a65c_add_72be8 cJx4a65c_add_72be8 4 none 5 127 mkV [.ref a, .ref v0, .ref ea, .int (nI cap)] M 1 (cap + cap / 2) (fun v M1 => ∃ q, M q = none ∧ M1 = zup (zup (zup (zup M q (zao g (cap + cap / 2) (extO cap f))) a (zob 0 [.int mc, .ref q, .int (nI cap)])) q (zao g (cap + cap / 2) (va_up (extO cap f) cap (some v0)))) a (zob 0 [.int mc, .ref q, .int (nI (cap + 1))])) noX := by
  refine zof [some (.ref a), some (.ref v0), some (.ref ea), some (.int (nI cap))] (by decide +kernel) rfl rfl (Nat.le_of_ble_eq_true rfl) ?_
  intro X C hE hnm
  have C : zC g X RJx4a65c cJx4a65c_add_72be8 4 5 127 1 (cap + cap / 2) := C
  refine ziload_n C dJx4a65c_add_72be8_0 rfl ?_
  refine zaload_n C dJx4a65c_add_72be8_1 rfl ?_
  refine zaleno (v := nI cap) C hE1 rfl dJx4a65c_add_72be8_2 ?_
  refine zicmp_ne (tgt := 11) C dJx4a65c_add_72be8_3 (by decide) (fun h3 => by first | exact absurd h3 rfl | exact absurd rfl h3) (fun h3 => ?_)
  refine zaload_n C dJx4a65c_add_72be8_6 rfl ?_
  refine zcallV C (l_grow1B hA hE1 ht (by omega) hc hw hel) hy_Jx4a65c_grow_d5877 hv_Jx4a65c_grow_d5877 hl_Jx4a65c_129 hA rfl rfl rfl rfl (by decide) (by decide) (by omega) (by omega) rfl (by exact Nat.le_of_ble_eq_true rfl) dJx4a65c_add_72be8_7 (fun v7 M1 hp7 => ?_)
  obtain ⟨hq, rfl⟩ := hp7
  have haq := znone hA hq
  refine zastore_n (L1 := [_, _, _, _]) C dJx4a65c_add_72be8_10 rfl (Nat.le_of_ble_eq_true rfl) ?_
  refine zaload_n C dJx4a65c_add_72be8_11 rfl ?_
  refine ziload_n C dJx4a65c_add_72be8_12 rfl ?_
  refine zaload_n C dJx4a65c_add_72be8_13 rfl ?_
  refine zoast (i0 := cap) (N := cap + cap / 2) C (by rw [zup_ne haq.symm]; exact zup_same) (by rw [zup_ne hva, zup_ne (znone hv hq)]; exact hv) hc hw rfl (by omega) (by omega) dJx4a65c_add_72be8_14 ?_
  refine zaload_n C dJx4a65c_add_72be8_15 rfl ?_
  refine ziload_n C dJx4a65c_add_72be8_16 rfl ?_
  refine zconst (v := 1) C dJx4a65c_add_72be8_17 (by decide) ?_
  refine ziadd C dJx4a65c_add_72be8_18 ?_
  rw [nI_1 cap]
  refine zput (fs1 := [_, _, _]) C hf_Jx4a65c_48 hp_Jx4a65c rfl (by rw [zup_ne haq]; exact zup_same) rfl rfl (by exact Nat.le_of_ble_eq_true rfl) (by rfl) dJx4a65c_add_72be8_19 ?_
  exact zend_v C hE dJx4a65c_add_72be8_22 (by omega) (by omega) ⟨_, hq, rfl⟩
set_option maxRecDepth 100000 in
set_option maxHeartbeats 1000000 in
theorem l_add3C {g : zGh} {M : zM} {a v0 : Nat} {vs : List Value} {mc : Int32} {ci : Nat} {r : vw_C} (hA : M a = some (zob 0 [.int mc, .ref (g.2.2.2.1 4), .int 0])) (hc : vwCl[ci]? = some r) (hw : Cond.castable r.1 "java/lang/Object" ∈ lw_tbl) (hv : M v0 = some (zob ci vs)) (hva : v0 ≠ a) : zCt g yJx4a65c_add_72be8 cJx4a65c_add_72be8 4 none 5 127 mkV [.ref a, .ref v0, .ref (g.2.2.2.1 4), .int 0] M 1 10 (fun v M1 => ∃ q, M q = none ∧ M1 = zup (zup (zup (zup M q (zao g 10 (fun _ => none))) a (zob 0 [.int mc, .ref q, .int 0])) q (zao g 10 (va_up (fun _ => none) 0 (some v0)))) a (zob 0 [.int mc, .ref q, .int 1])) noX := by
  refine zof [some (.ref a), some (.ref v0), some (.ref (g.2.2.2.1 4)), some (.int 0)] (by decide +kernel) rfl rfl (Nat.le_of_ble_eq_true rfl) ?_
  intro X C hE hnm
  have C : zC g X RJx4a65c cJx4a65c_add_72be8 4 5 127 1 10 := C
  refine ziload_n C dJx4a65c_add_72be8_0 rfl ?_
  refine zaload_n C dJx4a65c_add_72be8_1 rfl ?_
  refine zsalen (v := 0) C C.2.2.2.2.2.1.2.2.1.2.2.2 rfl dJx4a65c_add_72be8_2 ?_
  refine zicmp_ne (tgt := 11) C dJx4a65c_add_72be8_3 (by decide) (fun h3 => by first | exact absurd h3 rfl | exact absurd rfl h3) (fun h3 => ?_)
  refine zaload_n C dJx4a65c_add_72be8_6 rfl ?_
  refine zcallV C (l_grow1C hA) hy_Jx4a65c_grow_d5877 hv_Jx4a65c_grow_d5877 hl_Jx4a65c_129 hA rfl rfl rfl rfl (by decide) (by decide) (by omega) (by omega) rfl (by exact Nat.le_of_ble_eq_true rfl) dJx4a65c_add_72be8_7 (fun v7 M1 hp7 => ?_)
  obtain ⟨hq, rfl⟩ := hp7
  have haq := znone hA hq
  refine zastore_n (L1 := [_, _, _, _]) C dJx4a65c_add_72be8_10 rfl (Nat.le_of_ble_eq_true rfl) ?_
  refine zaload_n C dJx4a65c_add_72be8_11 rfl ?_
  refine ziload_n C dJx4a65c_add_72be8_12 rfl ?_
  refine zaload_n C dJx4a65c_add_72be8_13 rfl ?_
  refine zoast (i0 := 0) (N := 10) C (by rw [zup_ne haq.symm]; exact zup_same) (by rw [zup_ne hva, zup_ne (znone hv hq)]; exact hv) hc hw rfl (by omega) (by omega) dJx4a65c_add_72be8_14 ?_
  refine zaload_n C dJx4a65c_add_72be8_15 rfl ?_
  refine ziload_n C dJx4a65c_add_72be8_16 rfl ?_
  refine zconst (v := 1) C dJx4a65c_add_72be8_17 (by decide) ?_
  refine ziadd C dJx4a65c_add_72be8_18 ?_
  rw [show (0 : Int32) + 1 = 1 from rfl]
  refine zput (fs1 := [_, _, _]) C hf_Jx4a65c_48 hp_Jx4a65c rfl (by rw [zup_ne haq]; exact zup_same) rfl rfl (by exact Nat.le_of_ble_eq_true rfl) (by rfl) dJx4a65c_add_72be8_19 ?_
  exact zend_v C hE dJx4a65c_add_72be8_22 (by omega) (by omega) ⟨_, hq, rfl⟩
