/-- the fields of a suit -/
def suiF (p d : Nat) (court cents : Int32) (wl : Nat) (status can owed judged app : Int32) : List Value := [.ref p, .ref d, .int court, .int cents, .ref wl, .int status, .int can, .int owed, .int judged, .int app]
theorem zob_dif {M : zM} {a b c1 c2 : Nat} {f1 f2 : List Value} (h1 : M a = some (zob c1 f1)) (h2 : M b = some (zob c2 f2)) (hc : c1 ≠ c2) : a ≠ b := fun e => by
  rw [e, h2] at h1
  simp [zob] at h1
  exact hc h1.1.symm
set_option maxRecDepth 100000 in
set_option maxHeartbeats 1000000 in
theorem r_lastsFor {g : zGh} {M : zM} {a : Nat} {h w : Nat} {court status owed he she : Int32} (q : Nat) (hA : M a = some (zob 4 (marF h w court status owed he she))) : zCt g yX3_lastsFor cX3_lastsFor 2 (some .boolean) 0 0 mkI [.ref a, .ref q] M 0 0 (fun v M1 => v = b2i (decide (status = 0) && (decide (h = q) || decide (w = q))) ∧ M1 = M) noX := by
  refine zof [some (.ref a), some (.ref q)] (by decide +kernel) rfl rfl (Nat.le_of_ble_eq_true rfl) ?_
  intro X C hE hnm
  have C : zC g X RX3 cX3_lastsFor 2 0 0 0 0 := C
  refine zaload_n C dX3_lastsFor_0 rfl ?_
  refine zget C hf_X3_9 hA (by rfl) dX3_lastsFor_1 ?_
  refine zif_ne (tgt := 27) C dX3_lastsFor_4 (by decide) (fun h4 => ?_) (fun h4 => ?_)
  · refine zconst (v := 0) C dX3_lastsFor_27 (by decide) ?_
    exact zend_z C hE dX3_lastsFor_28 (by omega) (by omega) (by first | exact Or.inl rfl | exact Or.inr rfl | exact b2i_b _) ⟨by simp [b2i, h4], rfl⟩
  · refine zaload_n C dX3_lastsFor_7 rfl ?_
    refine zget C hf_X3_22 hA (by rfl) dX3_lastsFor_8 ?_
    refine zaload_n C dX3_lastsFor_11 rfl ?_
    refine zacmp_eq (tgt := 23) C dX3_lastsFor_12 (by decide) (show va_rf (some h) = _ from rfl) (show va_rf (some q) = _ from rfl) (fun h12 => ?_) (fun h12 => ?_)
    · replace h12 := Option.some.inj h12
      refine zconst (v := 1) C dX3_lastsFor_23 (by decide) ?_
      refine zgoto (tgt := 28) C dX3_lastsFor_24 (by decide) ?_
      exact zend_z C hE dX3_lastsFor_28 (by omega) (by omega) (by first | exact Or.inl rfl | exact Or.inr rfl | exact b2i_b _) ⟨by simp [b2i, h4, h12], rfl⟩
    · replace h12 : ¬ h = q := fun e => h12 (congrArg some e)
      refine zaload_n C dX3_lastsFor_15 rfl ?_
      refine zget C hf_X3_26 hA (by rfl) dX3_lastsFor_16 ?_
      refine zaload_n C dX3_lastsFor_19 rfl ?_
      refine zacmp_ne (tgt := 27) C dX3_lastsFor_20 (by decide) (show va_rf (some w) = _ from rfl) (show va_rf (some q) = _ from rfl) (fun h20 => ?_) (fun h20 => ?_)
      · replace h20 : ¬ w = q := fun e => h20 (congrArg some e)
        refine zconst (v := 0) C dX3_lastsFor_27 (by decide) ?_
        exact zend_z C hE dX3_lastsFor_28 (by omega) (by omega) (by first | exact Or.inl rfl | exact Or.inr rfl | exact b2i_b _) ⟨by simp [b2i, h4, h12, h20], rfl⟩
      · replace h20 := Option.some.inj h20
        refine zconst (v := 1) C dX3_lastsFor_23 (by decide) ?_
        refine zgoto (tgt := 28) C dX3_lastsFor_24 (by decide) ?_
        exact zend_z C hE dX3_lastsFor_28 (by omega) (by omega) (by first | exact Or.inl rfl | exact Or.inr rfl | exact b2i_b _) ⟨by simp [b2i, h4, h12, h20], rfl⟩
set_option maxRecDepth 100000 in
set_option maxHeartbeats 1000000 in
theorem r_payDower {g : zGh} {M : zM} {a : Nat} {h w : Nat} {court status owed he she : Int32} {num1 man1 birth1 lives1 to1 on1 leads1 : Int32} {mo1 fa1 : Option Nat} {ch1 : Nat} {goods1 : Int64} {num2 man2 birth2 lives2 to2 on2 leads2 : Int32} {mo2 fa2 : Option Nat} {ch2 : Nat} {goods2 : Int64} (hA : M a = some (zob 4 (marF h w court status owed he she))) (hH : M h = some (zob 5 (perF num1 man1 mo1 fa1 birth1 ch1 lives1 goods1 to1 on1 leads1))) (hW : M w = some (zob 5 (perF num2 man2 mo2 fa2 birth2 ch2 lives2 goods2 to2 on2 leads2))) (hhw : h ≠ w) : zCt g yX3_payDower cX3_payDower 1 none 2 46 mkV [.ref a] M 0 0 (fun v M1 => M1 = zup (zup (zup M h (zob 5 (perF num1 man1 mo1 fa1 birth1 ch1 lives1 (goods1 - (paidI goods1 owed).toInt64) to1 on1 leads1))) w (zob 5 (perF num2 man2 mo2 fa2 birth2 ch2 lives2 (goods2 + (paidI goods1 owed).toInt64) to2 on2 leads2))) a (zob 4 (marF h w court status 0 he she))) noX := by
  refine zof [some (.ref a)] (by decide +kernel) rfl rfl (Nat.le_of_ble_eq_true rfl) ?_
  intro X C hE hnm
  have C : zC g X RX3 cX3_payDower 1 2 46 0 0 := C
  have hah := zob_dif hA hH (by decide)
  have haw := zob_dif hA hW (by decide)
  have hA1 : ∀ e f, zup (zup M h e) w f a = some (zob 4 (marF h w court status owed he she)) := fun e f => by rw [zup_ne haw, zup_ne hah]; exact hA
  refine zaload_n C dX3_payDower_0 rfl ?_
  refine zget C hf_X3_22 hA (by rfl) dX3_payDower_1 ?_
  refine zaload_n C dX3_payDower_4 rfl ?_
  refine zget C hf_X3_29 hA (by rfl) dX3_payDower_5 ?_
  refine zaload_n C dX3_payDower_8 rfl ?_
  refine zget C hf_X3_26 hA (by rfl) dX3_payDower_9 ?_
  refine zcallV C (p_payUpTo owed hH hW hhw) hy_X4_payUpTo hv_X4_payUpTo hl_X3_35 hH rfl rfl rfl rfl (by decide) (by decide) (by omega) (by omega) rfl (by exact Nat.le_of_ble_eq_true rfl) dX3_payDower_12 (fun v12 M hp12 => ?_)
  obtain ⟨rfl, rfl⟩ := hp12
  refine zpop C dX3_payDower_15 rfl ?_
  refine zaload_n C dX3_payDower_16 rfl ?_
  refine zconst (v := 0) C dX3_payDower_17 (by decide) ?_
  refine zput (fs1 := [_, _, _, _, _, _, _]) C hf_X3_29 hp_X3 rfl (hA1 _ _) rfl rfl (by exact Nat.le_of_ble_eq_true rfl) (by rfl) dX3_payDower_18 ?_
  exact zend_v C hE dX3_payDower_21 (by omega) (by omega) rfl
set_option maxRecDepth 100000 in
set_option maxHeartbeats 1000000 in
theorem w_numberOn {g : zGh} {M : zM} {a la cq da na cap k i : Nat} {f : Nat → Option Nat} {fd fn : Nat → Int32} (d : Int32) (hA : M a = some (zob 3 [.ref la])) (hL : M la = some (zac g 7 f)) (hi : i < 7) (hf : f i = some cq) (h : zChr g M cq da na cap k fd fn) : zCt g yX2_numberOn cX2_numberOn 3 (some .int) 1 22 mkI [.ref a, .int (nI i), .int d] M 0 0 (fun v M1 => v = chOn fd fn d k ∧ M1 = M) noX := by
  refine zof [some (.ref a), some (.int (nI i)), some (.int d)] (by decide +kernel) rfl rfl (Nat.le_of_ble_eq_true rfl) ?_
  intro X C hE hnm
  have C : zC g X RX2 cX2_numberOn 3 1 22 0 0 := C
  refine zaload_n C dX2_numberOn_0 rfl ?_
  refine zget C hf_X2_17 hA (by rfl) dX2_numberOn_1 ?_
  refine ziload_n C dX2_numberOn_4 rfl ?_
  refine zrcald (i0 := i) C hL rfl hi (by omega) dX2_numberOn_5 ?_
  rw [hf]
  refine ziload_n C dX2_numberOn_6 rfl ?_
  refine zcallV C (c_numberOn d h) hy_X0_numberOn hv_X0_numberOn hl_X2_23 h.1 rfl rfl rfl rfl (by decide) (by decide) (by omega) (by omega) rfl (by exact Nat.le_of_ble_eq_true rfl) dX2_numberOn_7 (fun v7 M hp7 => ?_)
  obtain ⟨rfl, rfl⟩ := hp7
  exact zend_i C hE dX2_numberOn_10 (by omega) (by omega) ⟨rfl, rfl⟩
set_option maxRecDepth 100000 in
set_option maxHeartbeats 1000000 in
theorem s_isBetween {g : zGh} {M : zM} {a : Nat} {p d wl : Nat} {court cents status can owed judged app : Int32} (q : Nat) (hA : M a = some (zob 6 (suiF p d court cents wl status can owed judged app))) : zCt g yX5_isBetween cX5_isBetween 2 (some .boolean) 0 0 mkI [.ref a, .ref q] M 0 0 (fun v M1 => v = b2i (decide (p = q) || decide (d = q)) ∧ M1 = M) noX := by
  refine zof [some (.ref a), some (.ref q)] (by decide +kernel) rfl rfl (Nat.le_of_ble_eq_true rfl) ?_
  intro X C hE hnm
  have C : zC g X RX5 cX5_isBetween 2 0 0 0 0 := C
  refine zaload_n C dX5_isBetween_0 rfl ?_
  refine zget C hf_X5_35 hA (by rfl) dX5_isBetween_1 ?_
  refine zaload_n C dX5_isBetween_4 rfl ?_
  refine zacmp_eq (tgt := 16) C dX5_isBetween_5 (by decide) (show va_rf (some p) = _ from rfl) (show va_rf (some q) = _ from rfl) (fun h5 => ?_) (fun h5 => ?_)
  · replace h5 := Option.some.inj h5
    refine zconst (v := 1) C dX5_isBetween_16 (by decide) ?_
    refine zgoto (tgt := 21) C dX5_isBetween_17 (by decide) ?_
    exact zend_z C hE dX5_isBetween_21 (by omega) (by omega) (by first | exact Or.inl rfl | exact Or.inr rfl | exact b2i_b _) ⟨by simp [b2i, h5], rfl⟩
  · replace h5 : ¬ p = q := fun e => h5 (congrArg some e)
    refine zaload_n C dX5_isBetween_8 rfl ?_
    refine zget C hf_X5_39 hA (by rfl) dX5_isBetween_9 ?_
    refine zaload_n C dX5_isBetween_12 rfl ?_
    refine zacmp_ne (tgt := 20) C dX5_isBetween_13 (by decide) (show va_rf (some d) = _ from rfl) (show va_rf (some q) = _ from rfl) (fun h13 => ?_) (fun h13 => ?_)
    · replace h13 : ¬ d = q := fun e => h13 (congrArg some e)
      refine zconst (v := 0) C dX5_isBetween_20 (by decide) ?_
      exact zend_z C hE dX5_isBetween_21 (by omega) (by omega) (by first | exact Or.inl rfl | exact Or.inr rfl | exact b2i_b _) ⟨by simp [b2i, h5, h13], rfl⟩
    · replace h13 := Option.some.inj h13
      refine zconst (v := 1) C dX5_isBetween_16 (by decide) ?_
      refine zgoto (tgt := 21) C dX5_isBetween_17 (by decide) ?_
      exact zend_z C hE dX5_isBetween_21 (by omega) (by omega) (by first | exact Or.inl rfl | exact Or.inr rfl | exact b2i_b _) ⟨by simp [b2i, h5, h13], rfl⟩
set_option maxRecDepth 100000 in
set_option maxHeartbeats 1000000 in
theorem s_doBothLive {g : zGh} {M : zM} {a : Nat} {p d wl : Nat} {court cents status can owed judged app : Int32} {num1 man1 birth1 lives1 to1 on1 leads1 : Int32} {mo1 fa1 : Option Nat} {ch1 : Nat} {goods1 : Int64} {num2 man2 birth2 lives2 to2 on2 leads2 : Int32} {mo2 fa2 : Option Nat} {ch2 : Nat} {goods2 : Int64} (b c : Bool) (hA : M a = some (zob 6 (suiF p d court cents wl status can owed judged app))) (hP : M p = some (zob 5 (perF num1 man1 mo1 fa1 birth1 ch1 lives1 goods1 to1 on1 leads1))) (hD : M d = some (zob 5 (perF num2 man2 mo2 fa2 birth2 ch2 lives2 goods2 to2 on2 leads2))) (hb : lives1 = b2i b) (hc : lives2 = b2i c) : zCt g yX5_doBothLive cX5_doBothLive 1 (some .boolean) 0 0 mkI [.ref a] M 0 0 (fun v M1 => v = b2i (b && c) ∧ M1 = M) noX := by
  refine zof [some (.ref a)] (by decide +kernel) rfl rfl (Nat.le_of_ble_eq_true rfl) ?_
  intro X C hE hnm
  have C : zC g X RX5 cX5_doBothLive 1 0 0 0 0 := C
  refine zaload_n C dX5_doBothLive_0 rfl ?_
  refine zget C hf_X5_35 hA (by rfl) dX5_doBothLive_1 ?_
  refine zget C hf_X5_48 hP (by rfl) dX5_doBothLive_4 ?_
  rw [hb]
  refine zif_eq (tgt := 24) C dX5_doBothLive_7 (by decide) (fun h7 => ?_) (fun h7 => ?_)
  · replace h7 := b2i_0.mp h7
    refine zconst (v := 0) C dX5_doBothLive_24 (by decide) ?_
    exact zend_z C hE dX5_doBothLive_25 (by omega) (by omega) (by first | exact Or.inl rfl | exact Or.inr rfl | exact b2i_b _) ⟨by simp [b2i, h7], rfl⟩
  · replace h7 := b2i_n0.mp h7
    refine zaload_n C dX5_doBothLive_10 rfl ?_
    refine zget C hf_X5_39 hA (by rfl) dX5_doBothLive_11 ?_
    refine zget C hf_X5_48 hD (by rfl) dX5_doBothLive_14 ?_
    rw [hc]
    refine zif_eq (tgt := 24) C dX5_doBothLive_17 (by decide) (fun h17 => ?_) (fun h17 => ?_)
    · replace h17 := b2i_0.mp h17
      refine zconst (v := 0) C dX5_doBothLive_24 (by decide) ?_
      exact zend_z C hE dX5_doBothLive_25 (by omega) (by omega) (by first | exact Or.inl rfl | exact Or.inr rfl | exact b2i_b _) ⟨by simp [b2i, h7, h17], rfl⟩
    · replace h17 := b2i_n0.mp h17
      refine zconst (v := 1) C dX5_doBothLive_20 (by decide) ?_
      refine zgoto (tgt := 25) C dX5_doBothLive_21 (by decide) ?_
      exact zend_z C hE dX5_doBothLive_25 (by omega) (by omega) (by first | exact Or.inl rfl | exact Or.inr rfl | exact b2i_b _) ⟨by simp [b2i, h7, h17], rfl⟩
set_option maxRecDepth 100000 in
set_option maxHeartbeats 1000000 in
theorem s_settle {g : zGh} {M : zM} {a : Nat} {p d wl : Nat} {court cents status can owed judged app : Int32} (b : Bool) (x : Int32) (hA : M a = some (zob 6 (suiF p d court cents wl status can owed judged app))) : zCt g yX5_settle cX5_settle 3 none 0 0 mkV [.ref a, .int (b2i b), .int x] M 0 0 (fun v M1 => M1 = zup M a (zob 6 (suiF p d court cents wl (if b = true then 2 else 3) can owed x app))) noX := by
  refine zof [some (.ref a), some (.int (b2i b)), some (.int x)] (by decide +kernel) rfl rfl (Nat.le_of_ble_eq_true rfl) ?_
  intro X C hE hnm
  have C : zC g X RX5 cX5_settle 3 0 0 0 0 := C
  refine zaload_n C dX5_settle_0 rfl ?_
  refine zjn 10 (fun z => z = if b = true then 2 else 3) (fun J1_1 => ?_) (fun x1 hx1 => ?_)
  · refine ziload_n C dX5_settle_1 rfl ?_
    refine zif_eq (tgt := 9) C dX5_settle_2 (by decide) (fun h2 => ?_) (fun h2 => ?_)
    · replace h2 := b2i_0.mp h2
      refine zconst (v := 3) C dX5_settle_9 (by decide) ?_
      exact J1_1 _ (by simp [h2])
    · replace h2 := b2i_n0.mp h2
      refine zconst (v := 2) C dX5_settle_5 (by decide) ?_
      refine zgoto (tgt := 10) C dX5_settle_6 (by decide) ?_
      exact J1_1 _ (by simp [h2])
  · subst hx1
    refine zput (fs1 := [_, _, _, _, _, _, _, _, _, _]) C hf_X5_18 hp_X5 rfl hA rfl rfl (by exact Nat.le_of_ble_eq_true rfl) (by rfl) dX5_settle_10 ?_
    refine zaload_n C dX5_settle_13 rfl ?_
    refine ziload_n C dX5_settle_14 rfl ?_
    refine zput (fs1 := [_, _, _, _, _, _, _, _, _, _]) C hf_X5_29 hp_X5 rfl zup_same rfl rfl (by exact Nat.le_of_ble_eq_true rfl) (by rfl) dX5_settle_15 ?_
    exact zend_v C hE dX5_settle_18 (by omega) (by omega) zup_up2
set_option maxRecDepth 100000 in
set_option maxHeartbeats 1000000 in
theorem s_giveBack {g : zGh} {M : zM} {a : Nat} {p d wl : Nat} {court cents status can owed judged app : Int32} {num1 man1 birth1 lives1 to1 on1 leads1 : Int32} {mo1 fa1 : Option Nat} {ch1 : Nat} {goods1 : Int64} {num2 man2 birth2 lives2 to2 on2 leads2 : Int32} {mo2 fa2 : Option Nat} {ch2 : Nat} {goods2 : Int64} (b c : Bool) (hA : M a = some (zob 6 (suiF p d court cents wl status can owed judged app))) (hP : M p = some (zob 5 (perF num1 man1 mo1 fa1 birth1 ch1 lives1 goods1 to1 on1 leads1))) (hD : M d = some (zob 5 (perF num2 man2 mo2 fa2 birth2 ch2 lives2 goods2 to2 on2 leads2))) (hpd : p ≠ d) (hb : lives1 = b2i b) (hc : lives2 = b2i c) : zCt g yX5_giveBack cX5_giveBack 1 none 2 46 mkV [.ref a] M 0 0 (fun v M1 => M1 = if (b && c) = true then zup (zup (zup M p (zob 5 (perF num1 man1 mo1 fa1 birth1 ch1 lives1 (goods1 - (paidI goods1 (cents - owed)).toInt64) to1 on1 leads1))) d (zob 5 (perF num2 man2 mo2 fa2 birth2 ch2 lives2 (goods2 + (paidI goods1 (cents - owed)).toInt64) to2 on2 leads2))) a (zob 6 (suiF p d court cents wl status can 0 judged app)) else zup M a (zob 6 (suiF p d court cents wl status can 0 judged app))) noX := by
  refine zof [some (.ref a)] (by decide +kernel) rfl rfl (Nat.le_of_ble_eq_true rfl) ?_
  intro X C hE hnm
  have C : zC g X RX5 cX5_giveBack 1 2 46 0 0 := C
  have hap := zob_dif hA hP (by decide)
  have had := zob_dif hA hD (by decide)
  have hA1 : ∀ e f, zup (zup M p e) d f a = some (zob 6 (suiF p d court cents wl status can owed judged app)) := fun e f => by rw [zup_ne had, zup_ne hap]; exact hA
  refine zaload_n C dX5_giveBack_0 rfl ?_
  refine zcallV C (s_doBothLive b c hA hP hD hb hc) hy_X5_doBothLive hv_X5_doBothLive hl_X5_66 hA rfl rfl rfl rfl (by decide) (by decide) (by omega) (by omega) rfl (by exact Nat.le_of_ble_eq_true rfl) dX5_giveBack_1 (fun v1 M hp1 => ?_)
  obtain ⟨rfl, rfl⟩ := hp1
  refine zif_eq (tgt := 28) C dX5_giveBack_4 (by decide) (fun h4 => ?_) (fun h4 => ?_)
  · replace h4 := b2i_0.mp h4
    refine zaload_n C dX5_giveBack_28 rfl ?_
    refine zconst (v := 0) C dX5_giveBack_29 (by decide) ?_
    refine zput (fs1 := [_, _, _, _, _, _, _, _, _, _]) C hf_X5_26 hp_X5 rfl hA rfl rfl (by exact Nat.le_of_ble_eq_true rfl) (by rfl) dX5_giveBack_30 ?_
    exact zend_v C hE dX5_giveBack_33 (by omega) (by omega) (by rw [h4]; rfl)
  · replace h4 := b2i_n0.mp h4
    refine zaload_n C dX5_giveBack_7 rfl ?_
    refine zget C hf_X5_35 hA (by rfl) dX5_giveBack_8 ?_
    refine zaload_n C dX5_giveBack_11 rfl ?_
    refine zget C hf_X5_45 hA (by rfl) dX5_giveBack_12 ?_
    refine zaload_n C dX5_giveBack_15 rfl ?_
    refine zget C hf_X5_26 hA (by rfl) dX5_giveBack_16 ?_
    refine zisub C dX5_giveBack_19 ?_
    refine zaload_n C dX5_giveBack_20 rfl ?_
    refine zget C hf_X5_39 hA (by rfl) dX5_giveBack_21 ?_
    refine zcallV C (p_payUpTo (cents - owed) hP hD hpd) hy_X4_payUpTo hv_X4_payUpTo hl_X5_70 hP rfl rfl rfl rfl (by decide) (by decide) (by omega) (by omega) rfl (by exact Nat.le_of_ble_eq_true rfl) dX5_giveBack_24 (fun v24 M hp24 => ?_)
    obtain ⟨rfl, rfl⟩ := hp24
    refine zpop C dX5_giveBack_27 rfl ?_
    refine zaload_n C dX5_giveBack_28 rfl ?_
    refine zconst (v := 0) C dX5_giveBack_29 (by decide) ?_
    refine zput (fs1 := [_, _, _, _, _, _, _, _, _, _]) C hf_X5_26 hp_X5 rfl (hA1 _ _) rfl rfl (by exact Nat.le_of_ble_eq_true rfl) (by rfl) dX5_giveBack_30 ?_
    exact zend_v C hE dX5_giveBack_33 (by omega) (by omega) (by rw [h4]; rfl)
