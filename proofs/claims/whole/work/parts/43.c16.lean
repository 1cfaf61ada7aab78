theorem zgetsN {g : zGh} {X : zX} {own : String} {cc : ByteArray} {nL fr lc mc ms : Nat} {M : zM} {k n pc : Nat} {L : List (Option Value)} {st : List Value} (C : zC g X own cc nL fr lc mc ms) {Cn nm d host : String} {v : Value} {idx : Nat} (hZ : va_Z Cn nm d v (zA g) X.1.2.2.2 X.1.2.2.2.heap) (hl : Cond.fieldLinkNest own idx Cn nm d host ∈ lw_tbl) (hd : decode cc pc = .ok (.getstatic idx, 3)) (kk : zG g X M k n (pc + 3) L (v :: st)) : zG g X M k n pc L st := by
  intro H locs ls hH hS hL
  exact va_getsN C.1 C.2.1 hZ hS C.2.2.2.1 (va_Nw.use rfl (C.2.2.2.2.2.1.2.1 _ hl rfl)) (fun x h => h) hd (kk H locs ls hH hS hL)
set_option maxRecDepth 100000 in
set_option maxHeartbeats 1000000 in
theorem w_init {g : zGh} {M : zM} {a : Nat} (hA : M a = some (zob 3 [.null])) : zCt g yX2_init cX2_init 1 none 3 64 mkV [.ref a] M 22 56 (fun v M1 => ∃ r cq dq nq M2, zCF g M M2 r 7 7 zLF cq dq nq ∧ M1 = zup M2 a (zob 3 [.ref r])) noX := by
  refine zof [some (.ref a)] (by decide +kernel) rfl rfl (Nat.le_of_ble_eq_true rfl) ?_
  intro X C hE hnm
  have C : zC g X RX2 cX2_init 1 3 64 22 56 := C
  refine zaload_n C dX2_init_0 rfl ?_
  refine zobj C hl_X2_1 hoi1 hoi2 rfl (by decide) (by decide) dX2_init_1 ?_
  refine zaload_n C dX2_init_4 rfl ?_
  refine zgetsN C C.2.2.2.2.2.1.2.2.1.2.1.1.1 hfn_X2_7 dX2_init_5 ?_
  refine zcallSN C c_fromL hy_X7_chroniclesFrom hst_X7_chroniclesFrom hn_X2_13 rfl rfl (by decide) (by decide) (by omega) (by omega) rfl (by exact Nat.le_of_ble_eq_true rfl) dX2_init_8 (fun r M2 hp => ?_)
  obtain ⟨cq, dq, nq, hF⟩ := hp
  have hA1 := hF.2.2.2.2.2 _ _ hA
  refine zputF (fs1 := [_]) C hnm hf_X2_17 hp_X2 rfl rfl hA1 rfl rfl (by exact Nat.le_of_ble_eq_true rfl) (by rfl) dX2_init_11 ?_
  exact zend_v C hE dX2_init_14 (by omega) (by omega) ⟨r, cq, dq, nq, M2, hF, rfl⟩
