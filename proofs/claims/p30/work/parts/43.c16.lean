theorem zgetsN {g : zGh} {X : zX} {own : String} {cc : ByteArray} {nL fr lc mc ms : Nat} {M : zM} {k n pc : Nat} {L : List (Option Value)} {st : List Value} (C : zC g X own cc nL fr lc mc ms) {Cn nm d host : String} {v : Value} {idx : Nat} (hZ : va_Z Cn nm d v (zA g) X.1.2.2.2 X.1.2.2.2.heap) (hl : Cond.fieldLinkNest own idx Cn nm d host ∈ lw_tbl) (hd : decode cc pc = .ok (.getstatic idx, 3)) (kk : zG g X M k n (pc + 3) L (v :: st)) : zG g X M k n pc L st := by
  intro H locs ls hH hS hL
  exact va_getsN C.1 C.2.1 hZ hS C.2.2.2.1 (va_Nw.use rfl (C.2.2.2.2.2.1.2.1 _ hl rfl)) (fun x h => h) hd (kk H locs ls hH hS hL)
set_option maxRecDepth 100000 in
set_option maxHeartbeats 1000000 in
theorem w_init {g : zGh} {M : zM} {a : Nat} (hA : M a = some (zob 3 [.null])) : zCt g yX2_init cX2_init 1 none 3 64 mkV [.ref a] M 22 56 (fun v M1 => ∃ r cq dq nq M2, zCF g M M2 r 7 7 zLF cq dq nq ∧ M1 = zup M2 a (zob 3 [.ref r])) noX := by
  refine zof [some (.ref a)] (by decide +kernel) rfl rfl (Nat.le_of_ble_eq_true rfl) ?_
  intro X C hE hnm
  have C : zC g X RX2 cX2_init 1 3 64 22 56 := C
  refine zaload_n C dX2_init_0 rfl ?_
  refine zobj C hl_X2_1 hoi1 hoi2 rfl (by decide) (by decide) dX2_init_1 ?_
  refine zaload_n C dX2_init_4 rfl ?_
  refine zgetsN C C.2.2.2.2.2.1.2.2.1.2.1.1.1 hfn_X2_7 dX2_init_5 ?_
  refine zcallSN C c_fromL hy_X7_chroniclesFrom hst_X7_chroniclesFrom hn_X2_13 rfl rfl (by decide) (by decide) (by omega) (by omega) rfl (by exact Nat.le_of_ble_eq_true rfl) dX2_init_8 (fun r M2 hp => ?_)
  obtain ⟨cq, dq, nq, hF⟩ := hp
  have hA1 := hF.2.2.2.2.2 _ _ hA
  refine zputF (fs1 := [_]) C hnm hf_X2_17 hp_X2 rfl rfl hA1 rfl rfl (by exact Nat.le_of_ble_eq_true rfl) (by rfl) dX2_init_11 ?_
  exact zend_v C hE dX2_init_14 (by omega) (by omega) ⟨r, cq, dq, nq, M2, hF, rfl⟩
set_option maxRecDepth 100000 in
set_option maxHeartbeats 1000000 in
theorem o_init {g : zGh} {M : zM} {a : Nat} (day : Int32) (hA : M a = some (zob 2 [.null, .null])) : zCt g yX1_init cX1_init 2 none 4 84 mkV [.ref a, .int day] M 26 64 (fun v M1 => ∃ ql r cq dq nq M2 qc d1 n1 M4, M ql = none ∧ zCF g (zup M ql (zob 3 [.null])) M2 r 7 7 zLF cq dq nq ∧ zup (zup M2 ql (zob 3 [.ref r])) a (zob 2 [.ref ql, .null]) qc = none ∧ zup (zup (zup M2 ql (zob 3 [.ref r])) a (zob 2 [.ref ql, .null])) qc (zob 1 [.null, .null, .int 0]) d1 = none ∧ zup (zup (zup M2 ql (zob 3 [.ref r])) a (zob 2 [.ref ql, .null])) qc (zob 1 [.null, .null, .int 0]) n1 = none ∧ zChr g M4 qc d1 n1 2 0 (upd (fun _ => 0) 0 day) (upd (fun _ => 0) 0 1) ∧ (∀ x e, zup (zup (zup M2 ql (zob 3 [.ref r])) a (zob 2 [.ref ql, .null])) qc (zob 1 [.null, .null, .int 0]) x = some e → x ≠ qc → M4 x = some e) ∧ M1 = zup M4 a (zob 2 [.ref ql, .ref qc])) noX := by
  refine zof [some (.ref a), some (.int day)] (by decide +kernel) rfl rfl (Nat.le_of_ble_eq_true rfl) ?_
  intro X C hE hnm
  have C : zC g X RX1 cX1_init 2 4 84 26 64 := C
  refine zaload_n C dX1_init_0 rfl ?_
  refine zobj C hl_X1_1 hoi1 hoi2 rfl (by decide) (by decide) dX1_init_1 ?_
  refine zaload_n C dX1_init_4 rfl ?_
  refine znew C hw_X1_7 rfl (by omega) (by omega) dX1_init_5 (fun ql hql => ?_)
  refine zdup C dX1_init_8 rfl ?_
  refine zcallIN C (w_init zup_same) hy_X2_init hi_X2_init hn_X1_9 rfl rfl (by decide) (by decide) (by omega) (by omega) rfl (by exact Nat.le_of_ble_eq_true rfl) dX1_init_9 (fun M1 hp => ?_)
  obtain ⟨r, cq, dq, nq, M2, hF, rfl⟩ := hp
  have haq := znone hA hql
  have hA2 : M2 a = some (zob 2 [.null, .null]) := hF.2.2.2.2.2 _ _ (by rw [zup_ne haq]; exact hA)
  have hA3 : zup M2 ql (zob 3 [.ref r]) a = some (zob 2 [.null, .null]) := by rw [zup_ne haq]; exact hA2
  refine zputF (fs1 := [_, _]) C hnm hf_X1_10 hp_X1 rfl rfl hA3 rfl rfl (by exact Nat.le_of_ble_eq_true rfl) (by rfl) dX1_init_12 ?_
  refine zaload_n C dX1_init_15 rfl ?_
  refine znew C hw_X1_16 rfl (by omega) (by omega) dX1_init_16 (fun qc hqc => ?_)
  refine zdup C dX1_init_19 rfl ?_
  refine ziload_n C dX1_init_20 rfl ?_
  refine zconst (v := 1) C dX1_init_21 (by decide) ?_
  refine zcallI C (c_init day 1 zup_same) hy_X0_init hi_X0_init hl_X1_18 rfl rfl (by decide) (by decide) (by omega) (by omega) rfl (by exact Nat.le_of_ble_eq_true rfl) dX1_init_22 (fun M4 hp => ?_)
  obtain ⟨d1, n1, z1, z2, z3, z4⟩ := hp
  have hac := znone zup_same hqc
  have hA4 : M4 a = some (zob 2 [.ref ql, .null]) := z4 a _ (by rw [zup_ne hac]; exact zup_same) hac
  refine zputF (fs1 := [_, _]) C hnm hf_X1_21 hp_X1 rfl rfl hA4 rfl rfl (by exact Nat.le_of_ble_eq_true rfl) (by rfl) dX1_init_25 ?_
  exact zend_v C hE dX1_init_28 (by omega) (by omega) ⟨ql, r, cq, dq, nq, M2, qc, d1, n1, M4, hql, hF, hqc, z1, z2, z3, z4, rfl⟩
