-- a local that may be null
theorem zaload_nQ {g : zGh} {X : zX} {own : String} {cc : ByteArray} {nL fr lc mc ms : Nat} {M : zM} {k n pc : Nat} {L : List (Option Value)} {st : List Value} (C : zC g X own cc nL fr lc mc ms) {i : Fin 4} {r : Option Nat} (hd : decode cc pc = .ok (.aload_n i, 1)) (hl : L[(i : Nat)]? = some (some (va_rf r))) (kk : zG g X M k n (pc + 1) L (va_rf r :: st)) : zG g X M k n pc L st := by
  cases r with
  | none => exact fun H locs ls hH hS hL => lv_aload_nN C.1 C.2.1 hd rfl (zhas_get hL hl) (kk H locs ls hH hS hL)
  | some x => exact zaload_n C hd hl kk
theorem zaloadQ {g : zGh} {X : zX} {own : String} {cc : ByteArray} {nL fr lc mc ms : Nat} {M : zM} {k n pc : Nat} {L : List (Option Value)} {st : List Value} (C : zC g X own cc nL fr lc mc ms) {i : Nat} {r : Option Nat} (hd : decode cc pc = .ok (.aload i, 2)) (hl : L[i]? = some (some (va_rf r))) (kk : zG g X M k n (pc + 2) L (va_rf r :: st)) : zG g X M k n pc L st := by
  cases r with
  | none => exact fun H locs ls hH hS hL => lv_aloadN C.1 C.2.1 hd (zhas_get hL hl) (kk H locs ls hH hS hL)
  | some x => exact zaload C hd hl kk
theorem nar_b (b : Bool) : narrow .boolean (.int (b2i b)) = .int (b2i b) := by cases b <;> rfl
theorem fit_b (b : Bool) : fits .boolean (.int (b2i b)) = true := by cases b <;> rfl
theorem nar_q (C : String) (r : Option Nat) : narrow (.object C) (va_rf r) = va_rf r := by cases r <;> rfl
theorem fit_q (C : String) (r : Option Nat) : fits (.object C) (va_rf r) = true := by cases r <;> rfl
theorem zChr.keep {g : zGh} {M M1 : zM} {q d n cap k : Nat} {fd fn : Nat → Int32} (h : zChr g M q d n cap k fd fn) (hq : ∀ x e, M x = some e → x = q ∨ x = d ∨ x = n → M1 x = some e) : zChr g M1 q d n cap k fd fn := ⟨hq _ _ h.1 (Or.inl rfl), hq _ _ h.2.1 (Or.inr (Or.inl rfl)), hq _ _ h.2.2.1 (Or.inr (Or.inr rfl)), h.2.2.2⟩
theorem zChr.up {g : zGh} {M : zM} {q d n cap k a ci : Nat} {fd fn : Nat → Int32} {fs : List Value} {e : va_E} (h : zChr g M q d n cap k fd fn) (ha : M a = some (zob ci fs)) (hci : ci ≠ 1) : zChr g (zup M a e) q d n cap k fd fn := by
  have h1 := zob_dif ha h.1 hci
  have h2 := zob_ai ha h.2.1
  have h3 := zob_ai ha h.2.2.1
  refine h.keep fun x e hx hc => ?_
  rw [zup_ne]
  · exact hx
  · rcases hc with rfl | rfl | rfl
    · exact h1.symm
    · exact h2.symm
    · exact h3.symm
theorem zGcongr {g : zGh} {X : zX} {M M1 : zM} {k n pc : Nat} {L : List (Option Value)} {st : List Value} (h : zG g X M1 k n pc L st) (e : M = M1) : zG g X M k n pc L st := e ▸ h
set_option maxRecDepth 100000 in
set_option maxHeartbeats 1000000 in
theorem w_initX {g : zGh} {M : zM} {a : Nat} (p : Nat) (b : Bool) (hA : M a = some (zob 7 [.null, .int 0])) : zCt g yX6_init cX6_init 3 none 1 20 mkV [.ref a, .ref p, .int (b2i b)] M 0 0 (fun v M1 => M1 = zup M a (zob 7 ([.ref p, .int (b2i b)]))) noX := by
  refine zof [some (.ref a), some (.ref p), some (.int (b2i b))] (by decide +kernel) rfl rfl (Nat.le_of_ble_eq_true rfl) ?_
  intro X C hE hnm
  have C : zC g X RX6 cX6_init 3 1 20 0 0 := C
  refine zaload_n C dX6_init_0 rfl ?_
  refine zobj C hl_X6_1 hoi1 hoi2 rfl (by decide) (by decide) dX6_init_1 ?_
  refine zaload_n C dX6_init_4 rfl ?_
  refine zaload_n C dX6_init_5 rfl ?_
  refine zputF (fs1 := [_, _]) C hnm hf_X6_7 hp_X6 rfl rfl hA rfl rfl (by exact Nat.le_of_ble_eq_true rfl) (by rfl) dX6_init_6 ?_
  refine zaload_n C dX6_init_9 rfl ?_
  refine ziload_n C dX6_init_10 rfl ?_
  refine zputF (fs1 := [_, _]) C hnm hf_X6_13 hp_X6 rfl rfl zup_same (nar_b b) (fit_b b) (by exact Nat.le_of_ble_eq_true rfl) (by rfl) dX6_init_11 ?_
  exact zend_v C hE dX6_init_14 (by omega) (by omega) (by first | (simp only [zup_up2]; done) | (simp only [zup_up2]; rfl))
set_option maxRecDepth 100000 in
set_option maxHeartbeats 1000000 in
theorem r_init {g : zGh} {M : zM} {a : Nat} (h w : Nat) (dower court : Int32) (hA : M a = some (zob 4 [.null, .null, .int 0, .int 0, .int 0, .int 0, .int 0])) : zCt g yX3_init cX3_init 5 none 1 20 mkV [.ref a, .ref h, .ref w, .int dower, .int court] M 0 0 (fun v M1 => M1 = zup M a (zob 4 (marF h w court 0 dower 0 0))) noX := by
  refine zof [some (.ref a), some (.ref h), some (.ref w), some (.int dower), some (.int court)] (by decide +kernel) rfl rfl (Nat.le_of_ble_eq_true rfl) ?_
  intro X C hE hnm
  have C : zC g X RX3 cX3_init 5 1 20 0 0 := C
  refine zaload_n C dX3_init_0 rfl ?_
  refine zobj C hl_X3_3 hoi1 hoi2 rfl (by decide) (by decide) dX3_init_1 ?_
  refine zaload_n C dX3_init_4 rfl ?_
  refine zconst (v := 0) C dX3_init_5 (by decide) ?_
  refine zput (fs1 := [_, _, _, _, _, _, _]) C hf_X3_9 hp_X3 rfl hA rfl rfl (by exact Nat.le_of_ble_eq_true rfl) (by rfl) dX3_init_6 ?_
  refine zaload_n C dX3_init_9 rfl ?_
  refine zconst (v := 0) C dX3_init_10 (by decide) ?_
  refine zput (fs1 := [_, _, _, _, _, _, _]) C hf_X3_15 hp_X3 rfl zup_same rfl rfl (by exact Nat.le_of_ble_eq_true rfl) (by rfl) dX3_init_11 ?_
  refine zaload_n C dX3_init_14 rfl ?_
  refine zconst (v := 0) C dX3_init_15 (by decide) ?_
  refine zput (fs1 := [_, _, _, _, _, _, _]) C hf_X3_19 hp_X3 rfl zup_same rfl rfl (by exact Nat.le_of_ble_eq_true rfl) (by rfl) dX3_init_16 ?_
  refine zaload_n C dX3_init_19 rfl ?_
  refine zaload_n C dX3_init_20 rfl ?_
  refine zputF (fs1 := [_, _, _, _, _, _, _]) C hnm hf_X3_22 hp_X3 rfl rfl zup_same rfl rfl (by exact Nat.le_of_ble_eq_true rfl) (by rfl) dX3_init_21 ?_
  refine zaload_n C dX3_init_24 rfl ?_
  refine zaload_n C dX3_init_25 rfl ?_
  refine zputF (fs1 := [_, _, _, _, _, _, _]) C hnm hf_X3_26 hp_X3 rfl rfl zup_same rfl rfl (by exact Nat.le_of_ble_eq_true rfl) (by rfl) dX3_init_26 ?_
  refine zaload_n C dX3_init_29 rfl ?_
  refine ziload_n C dX3_init_30 rfl ?_
  refine zput (fs1 := [_, _, _, _, _, _, _]) C hf_X3_29 hp_X3 rfl zup_same rfl rfl (by exact Nat.le_of_ble_eq_true rfl) (by rfl) dX3_init_31 ?_
  refine zaload_n C dX3_init_34 rfl ?_
  refine ziload C dX3_init_35 rfl ?_
  refine zputF (fs1 := [_, _, _, _, _, _, _]) C hnm hf_X3_32 hp_X3 rfl rfl zup_same rfl rfl (by exact Nat.le_of_ble_eq_true rfl) (by rfl) dX3_init_37 ?_
  exact zend_v C hE dX3_init_40 (by omega) (by omega) (by first | (simp only [zup_up2]; done) | (simp only [zup_up2]; rfl))
set_option maxRecDepth 100000 in
set_option maxHeartbeats 1000000 in
theorem p_init {g : zGh} {M : zM} {a : Nat} (num birth faith : Int32) (man : Bool) (mo fa : Option Nat) (hA : M a = some (zob 5 [.int 0, .int 0, .null, .null, .int 0, .null, .int 0, .long 0, .int 0, .int 0, .int 0])) : zCt g yX4_init cX4_init 7 none 2 42 mkV [.ref a, .int num, .int (b2i man), va_rf mo, va_rf fa, .int birth, .int faith] M 3 7 (fun v M1 => ∃ q d1 n1, M q = none ∧ M d1 = none ∧ M n1 = none ∧ zChr g M1 q d1 n1 2 0 (upd (fun _ => 0) 0 birth) (upd (fun _ => 0) 0 faith) ∧ M1 a = some (zob 5 (perF num (b2i man) mo fa birth q 1 0 (-1) (-1) 0)) ∧ ∀ x e, M x = some e → x ≠ a → M1 x = some e) noX := by
  refine zof [some (.ref a), some (.int num), some (.int (b2i man)), some (va_rf mo), some (va_rf fa), some (.int birth), some (.int faith)] (by decide +kernel) (by cases mo <;> cases fa <;> rfl) rfl (by cases mo <;> cases fa <;> exact Nat.le_of_ble_eq_true rfl) ?_
  intro X C hE hnm
  have C : zC g X RX4 cX4_init 7 2 42 3 7 := C
  refine zaload_n C dX4_init_0 rfl ?_
  refine zobj C hl_X4_3 hoi1 hoi2 rfl (by decide) (by decide) dX4_init_1 ?_
  refine zaload_n C dX4_init_4 rfl ?_
  refine zconst (v := 1) C dX4_init_5 (by decide) ?_
  refine zput (fs1 := [_, _, _, _, _, _, _, _, _, _, _]) C hf_X4_9 hp_X4 rfl hA rfl rfl (by exact Nat.le_of_ble_eq_true rfl) (by rfl) dX4_init_6 ?_
  refine zaload_n C dX4_init_9 rfl ?_
  refine zlconst (v := 0) C dX4_init_10 rfl ?_
  refine zput (fs1 := [_, _, _, _, _, _, _, _, _, _, _]) C hf_X4_15 hp_X4 rfl zup_same rfl rfl (by exact Nat.le_of_ble_eq_true rfl) (by rfl) dX4_init_11 ?_
  refine zaload_n C dX4_init_14 rfl ?_
  refine zconst (v := -1) C dX4_init_15 (by decide) ?_
  refine zput (fs1 := [_, _, _, _, _, _, _, _, _, _, _]) C hf_X4_19 hp_X4 rfl zup_same rfl rfl (by exact Nat.le_of_ble_eq_true rfl) (by rfl) dX4_init_16 ?_
  refine zaload_n C dX4_init_19 rfl ?_
  refine zconst (v := -1) C dX4_init_20 (by decide) ?_
  refine zput (fs1 := [_, _, _, _, _, _, _, _, _, _, _]) C hf_X4_23 hp_X4 rfl zup_same rfl rfl (by exact Nat.le_of_ble_eq_true rfl) (by rfl) dX4_init_21 ?_
  refine zaload_n C dX4_init_24 rfl ?_
  refine zconst (v := 0) C dX4_init_25 (by decide) ?_
  refine zput (fs1 := [_, _, _, _, _, _, _, _, _, _, _]) C hf_X4_26 hp_X4 rfl zup_same rfl rfl (by exact Nat.le_of_ble_eq_true rfl) (by rfl) dX4_init_26 ?_
  refine zaload_n C dX4_init_29 rfl ?_
  refine ziload_n C dX4_init_30 rfl ?_
  refine zputF (fs1 := [_, _, _, _, _, _, _, _, _, _, _]) C hnm hf_X4_29 hp_X4 rfl rfl zup_same rfl rfl (by exact Nat.le_of_ble_eq_true rfl) (by rfl) dX4_init_31 ?_
  refine zaload_n C dX4_init_34 rfl ?_
  refine ziload_n C dX4_init_35 rfl ?_
  refine zputF (fs1 := [_, _, _, _, _, _, _, _, _, _, _]) C hnm hf_X4_32 hp_X4 rfl rfl zup_same (nar_b man) (fit_b man) (by exact Nat.le_of_ble_eq_true rfl) (by rfl) dX4_init_36 ?_
  refine zaload_n C dX4_init_39 rfl ?_
  refine zaload_nQ C dX4_init_40 rfl ?_
  refine zputF (fs1 := [_, _, _, _, _, _, _, _, _, _, _]) C hnm hf_X4_35 hp_X4 rfl rfl zup_same (nar_q _ _) (fit_q _ _) (by exact Nat.le_of_ble_eq_true rfl) (by rfl) dX4_init_41 ?_
  refine zaload_n C dX4_init_44 rfl ?_
  refine zaloadQ C dX4_init_45 rfl ?_
  refine zputF (fs1 := [_, _, _, _, _, _, _, _, _, _, _]) C hnm hf_X4_39 hp_X4 rfl rfl zup_same (nar_q _ _) (fit_q _ _) (by exact Nat.le_of_ble_eq_true rfl) (by rfl) dX4_init_47 ?_
  refine zaload_n C dX4_init_50 rfl ?_
  refine ziload C dX4_init_51 rfl ?_
  refine zputF (fs1 := [_, _, _, _, _, _, _, _, _, _, _]) C hnm hf_X4_42 hp_X4 rfl rfl zup_same rfl rfl (by exact Nat.le_of_ble_eq_true rfl) (by rfl) dX4_init_53 ?_
  simp only [zup_up2]
  refine zGcongr (M1 := zup M a (zob 5 [.int num, .int (b2i man), va_rf mo, va_rf fa, .int birth, .null, .int 1, .long 0, .int (-1), .int (-1), .int 0])) ?_ (by first | rfl | (congr 2; rfl))
  refine zaload_n C dX4_init_56 rfl ?_
  refine znew C hw_X4_45 rfl (by omega) (by omega) dX4_init_57 (fun q hq => ?_)
  refine zdup C dX4_init_60 rfl ?_
  refine ziload C dX4_init_61 rfl ?_
  refine ziload C dX4_init_63 rfl ?_
  refine zcallI C (c_init birth faith zup_same) hy_X0_init hi_X0_init hl_X4_47 rfl rfl (by decide) (by decide) (by omega) (by omega) rfl (by exact Nat.le_of_ble_eq_true rfl) dX4_init_65 (fun M1 hp => ?_)
  obtain ⟨d1, n1, z1, z2, z3, z4⟩ := hp
  have haq := znone zup_same hq
  have hA1 : M1 a = some (zob 5 [.int num, .int (b2i man), va_rf mo, va_rf fa, .int birth, .null, .int 1, .long 0, .int (-1), .int (-1), .int 0]) := z4 a _ (by rw [zup_ne haq]; exact zup_same) haq
  refine zputF (fs1 := [_, _, _, _, _, _, _, _, _, _, _]) C hnm hf_X4_50 hp_X4 rfl rfl hA1 rfl rfl (by exact Nat.le_of_ble_eq_true rfl) (by rfl) dX4_init_68 ?_
  exact zend_v C hE dX4_init_71 (by omega) (by omega) ⟨q, d1, n1, znoneU hq, znoneU (znoneU z1), znoneU (znoneU z2), z3.up hA1 (by decide), zup_same, fun x e hx ha => by rw [zup_ne ha]; exact z4 x e (by rw [zup_ne (znone hx (znoneU hq)), zup_ne ha]; exact hx) (znone hx (znoneU hq))⟩
