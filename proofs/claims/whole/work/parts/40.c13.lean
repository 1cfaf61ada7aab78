/-- what a list of witnesses holds -/
def zWit (M : zM) (n : Nat) (f : Nat → Option Nat) (wp : Nat → Nat) (wf : Nat → Int32) : Prop := ∀ i, i < n → ∃ y, f i = some y ∧ M y = some (zob 7 [.ref (wp i), .int (wf i)])
def hrd (wp : Nat → Nat) (q : Nat) : Nat → Bool
  | 0 => false
  | k + 1 => hrd wp q k || decide (wp k = q)
theorem hrd_mono {wp : Nat → Nat} {q i : Nat} (h : hrd wp q i = true) : ∀ r, hrd wp q (i + r) = true
  | 0 => h
  | r + 1 => by
    show (hrd wp q (i + r) || _) = true
    rw [hrd_mono h r]
    rfl
set_option maxRecDepth 100000 in
set_option maxHeartbeats 1000000 in
theorem s_init {g : zGh} {M : zM} {a : Nat} (p d : Nat) (court cents : Int32) (hA : M a = some (zob 6 [.null, .null, .int 0, .int 0, .null, .int 0, .int 0, .int 0, .int 0, .int 0])) : zCt g yX5_init cX5_init 5 none 4 80 mkV [.ref a, .ref p, .ref d, .int court, .int cents] M 1 3 (fun v M1 => ∃ q, M q = none ∧ M1 q = some (zob 0 [.int 0, .ref (g.2.2.2.1 4), .int 0]) ∧ M1 a = some (zob 6 (suiF p d court cents q 0 0 0 (-1) 0)) ∧ ∀ x e, M x = some e → x ≠ a → M1 x = some e) noX := by
  refine zof [some (.ref a), some (.ref p), some (.ref d), some (.int court), some (.int cents)] (by decide +kernel) rfl rfl (Nat.le_of_ble_eq_true rfl) ?_
  intro X C hE hnm
  have C : zC g X RX5 cX5_init 5 4 80 1 3 := C
  refine zaload_n C dX5_init_0 rfl ?_
  refine zobj C hl_X5_3 hoi1 hoi2 rfl (by decide) (by decide) dX5_init_1 ?_
  refine zaload_n C dX5_init_4 rfl ?_
  refine znew C hw_X5_9 rfl (by omega) (by omega) dX5_init_5 (fun q hq => ?_)
  refine zdup C dX5_init_8 rfl ?_
  refine zcallI C (l_init zup_same) hy_Jx4a65c_init_da8c8 hi_Jx4a65c_init_da8c8 hl_X5_11 rfl rfl (by decide) (by decide) (by omega) (by omega) rfl (by exact Nat.le_of_ble_eq_true rfl) dX5_init_9 (fun M1 hp => ?_)
  obtain rfl := hp
  have haq := znone hA hq
  simp only [zup_up2]
  have hA1 : zup M q (zob 0 [.int 0, .ref (g.2.2.2.1 4), .int 0]) a = some (zob 6 [.null, .null, .int 0, .int 0, .null, .int 0, .int 0, .int 0, .int 0, .int 0]) := by rw [zup_ne haq]; exact hA
  refine zputF (fs1 := [_, _, _, _, _, _, _, _, _, _]) C hnm hf_X5_12 hp_X5 rfl rfl hA1 rfl rfl (by exact Nat.le_of_ble_eq_true rfl) (by rfl) dX5_init_12 ?_
  refine zaload_n C dX5_init_15 rfl ?_
  refine zconst (v := 0) C dX5_init_16 (by decide) ?_
  refine zput (fs1 := [_, _, _, _, _, _, _, _, _, _]) C hf_X5_18 hp_X5 rfl zup_same rfl rfl (by exact Nat.le_of_ble_eq_true rfl) (by rfl) dX5_init_17 ?_
  refine zaload_n C dX5_init_20 rfl ?_
  refine zconst (v := 0) C dX5_init_21 (by decide) ?_
  refine zput (fs1 := [_, _, _, _, _, _, _, _, _, _]) C hf_X5_22 hp_X5 rfl zup_same rfl rfl (by exact Nat.le_of_ble_eq_true rfl) (by rfl) dX5_init_22 ?_
  refine zaload_n C dX5_init_25 rfl ?_
  refine zconst (v := 0) C dX5_init_26 (by decide) ?_
  refine zput (fs1 := [_, _, _, _, _, _, _, _, _, _]) C hf_X5_26 hp_X5 rfl zup_same rfl rfl (by exact Nat.le_of_ble_eq_true rfl) (by rfl) dX5_init_27 ?_
  refine zaload_n C dX5_init_30 rfl ?_
  refine zconst (v := -1) C dX5_init_31 (by decide) ?_
  refine zput (fs1 := [_, _, _, _, _, _, _, _, _, _]) C hf_X5_29 hp_X5 rfl zup_same rfl rfl (by exact Nat.le_of_ble_eq_true rfl) (by rfl) dX5_init_32 ?_
  refine zaload_n C dX5_init_35 rfl ?_
  refine zconst (v := 0) C dX5_init_36 (by decide) ?_
  refine zput (fs1 := [_, _, _, _, _, _, _, _, _, _]) C hf_X5_32 hp_X5 rfl zup_same rfl rfl (by exact Nat.le_of_ble_eq_true rfl) (by rfl) dX5_init_37 ?_
  refine zaload_n C dX5_init_40 rfl ?_
  refine zaload_n C dX5_init_41 rfl ?_
  refine zputF (fs1 := [_, _, _, _, _, _, _, _, _, _]) C hnm hf_X5_35 hp_X5 rfl rfl zup_same rfl rfl (by exact Nat.le_of_ble_eq_true rfl) (by rfl) dX5_init_42 ?_
  refine zaload_n C dX5_init_45 rfl ?_
  refine zaload_n C dX5_init_46 rfl ?_
  refine zputF (fs1 := [_, _, _, _, _, _, _, _, _, _]) C hnm hf_X5_39 hp_X5 rfl rfl zup_same rfl rfl (by exact Nat.le_of_ble_eq_true rfl) (by rfl) dX5_init_47 ?_
  refine zaload_n C dX5_init_50 rfl ?_
  refine ziload_n C dX5_init_51 rfl ?_
  refine zputF (fs1 := [_, _, _, _, _, _, _, _, _, _]) C hnm hf_X5_42 hp_X5 rfl rfl zup_same rfl rfl (by exact Nat.le_of_ble_eq_true rfl) (by rfl) dX5_init_52 ?_
  refine zaload_n C dX5_init_55 rfl ?_
  refine ziload C dX5_init_56 rfl ?_
  refine zputF (fs1 := [_, _, _, _, _, _, _, _, _, _]) C hnm hf_X5_45 hp_X5 rfl rfl zup_same rfl rfl (by exact Nat.le_of_ble_eq_true rfl) (by rfl) dX5_init_58 ?_
  simp only [zup_up2]
  exact zend_v C hE dX5_init_61 (by omega) (by omega) ⟨q, hq, by rw [zup_ne haq.symm]; exact zup_same, zup_same, fun x e hx ha => by rw [zup_ne ha, zup_ne (znone hx hq)]; exact hx⟩
set_option maxRecDepth 100000 in
set_option maxHeartbeats 1000000 in
theorem s_hasHeard {g : zGh} {M : zM} {a : Nat} {p d wl : Nat} {court cents status can owed judged app : Int32} {ea cap len : Nat} {f : Nat → Option Nat} {mc : Int32} {wp : Nat → Nat} {wf : Nat → Int32} (q : Nat) (hA : M a = some (zob 6 (suiF p d court cents wl status can owed judged app))) (hl : zLst g M wl ea cap len f mc) (hw : zWit M len f wp wf) : zCt g yX5_hasHeard cX5_hasHeard 3 (some .boolean) 3 64 mkI [.ref a, .ref q] M 0 0 (fun v M1 => v = b2i (hrd wp q len) ∧ M1 = M) noX := by
  refine zof [some (.ref a), some (.ref q), none] (by decide +kernel) rfl rfl (Nat.le_of_ble_eq_true rfl) ?_
  intro X C hE hnm
  have C : zC g X RX5 cX5_hasHeard 3 3 64 0 0 := C
  obtain ⟨hA2, hE2, hl2, hl3, hl4⟩ := id hl
  have loop : ∀ (r i : Nat), i + r = len → hrd wp q i = false → zG g X M 0 0 2 [some (.ref a), some (.ref q), some (.int (nI i))] [] := by
    intro r
    induction r with
    | zero =>
      intro i hi hf
      refine ziload_n C dX5_hasHeard_2 rfl ?_
      refine zaload_n C dX5_hasHeard_3 rfl ?_
      refine zget C hf_X5_12 hA (by rfl) dX5_hasHeard_4 ?_
      refine zcallV C (l_size hA2) hy_Jx4a65c_size_8abf5 hv_Jx4a65c_size_8abf5 hl_X5_53 hA2 rfl rfl rfl rfl (by decide) (by decide) (by omega) (by omega) rfl (by exact Nat.le_of_ble_eq_true rfl) dX5_hasHeard_7 (fun v7 M hp7 => ?_)
      obtain ⟨rfl, rfl⟩ := hp7
      refine zicmp_ge (tgt := 39) C dX5_hasHeard_10 (by decide) (fun h10 => ?_) (fun h10 => by first | exact absurd (nI_le (by omega) (by omega)) h10 | exact absurd h10 (nI_le (by omega) (by omega)))
      refine zconst (v := 0) C dX5_hasHeard_39 (by decide) ?_
      exact zend_z C hE dX5_hasHeard_40 (by omega) (by omega) (by first | exact Or.inl rfl | exact Or.inr rfl | exact b2i_b _) ⟨by rw [show len = i by omega, hf]; rfl, rfl⟩
    | succ r ih =>
      intro i hi hf
      obtain ⟨y, hy1, hy2⟩ := hw i (by omega)
      refine ziload_n C dX5_hasHeard_2 rfl ?_
      refine zaload_n C dX5_hasHeard_3 rfl ?_
      refine zget C hf_X5_12 hA (by rfl) dX5_hasHeard_4 ?_
      refine zcallV C (l_size hA2) hy_Jx4a65c_size_8abf5 hv_Jx4a65c_size_8abf5 hl_X5_53 hA2 rfl rfl rfl rfl (by decide) (by decide) (by omega) (by omega) rfl (by exact Nat.le_of_ble_eq_true rfl) dX5_hasHeard_7 (fun v7 M hp7 => ?_)
      obtain ⟨rfl, rfl⟩ := hp7
      refine zicmp_ge (tgt := 39) C dX5_hasHeard_10 (by decide) (fun h10 => by first | exact absurd h10 (nI_ge (by omega) (by omega)) | exact absurd (nI_ge (by omega) (by omega)) h10) (fun h10 => ?_)
      refine zaload_n C dX5_hasHeard_13 rfl ?_
      refine zget C hf_X5_12 hA (by rfl) dX5_hasHeard_14 ?_
      refine ziload_n C dX5_hasHeard_17 rfl ?_
      refine zcallV C (l_get i hl (by omega)) hy_Jx4a65c_get_915e3 hv_Jx4a65c_get_915e3 hl_X5_57 hA2 rfl rfl rfl rfl (by decide) (by decide) (by omega) (by omega) rfl (by exact Nat.le_of_ble_eq_true rfl) dX5_hasHeard_18 (fun v18 M hp18 => ?_)
      obtain ⟨rfl, rfl⟩ := hp18
      rw [hy1]
      refine zcastS C hy2 rfl hc_X5_61 dX5_hasHeard_21 ?_
      refine zget C hf_X5_63 hy2 (by rfl) dX5_hasHeard_24 ?_
      refine zaload_n C dX5_hasHeard_27 rfl ?_
      refine zacmp_ne (tgt := 33) C dX5_hasHeard_28 (by decide) (show va_rf (some (wp i)) = _ from rfl) (show va_rf (some q) = _ from rfl) (fun h28 => ?_) (fun h28 => ?_)
      · replace h28 : ¬ wp i = q := fun e => h28 (congrArg some e)
        refine ziinc (L1 := [_, _, _]) (v := nI (i + 1)) C dX5_hasHeard_33 rfl (nI_1 i) rfl ?_
        refine zgoto (tgt := 2) C dX5_hasHeard_36 (by decide) ?_
        exact ih (i + 1) (by omega) (by simp [hrd, hf, h28])
      · replace h28 := Option.some.inj h28
        refine zconst (v := 1) C dX5_hasHeard_31 (by decide) ?_
        exact zend_z C hE dX5_hasHeard_32 (by omega) (by omega) (by first | exact Or.inl rfl | exact Or.inr rfl | exact b2i_b _) ⟨by rw [show len = (i + 1) + r by omega, hrd_mono (i := i + 1) (by simp [hrd, h28]) r]; rfl, rfl⟩
  refine zconst (v := 0) C dX5_hasHeard_0 (by decide) ?_
  refine zistore_n (L1 := [_, _, _]) C dX5_hasHeard_1 rfl (Nat.le_of_ble_eq_true rfl) ?_
  exact zcg (loop len 0 (by omega) rfl) (by simp [zk1, nI_0])
