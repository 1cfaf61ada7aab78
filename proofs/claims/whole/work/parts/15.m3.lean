theorem isNum_out {w x : Int32} (h : w.toInt < 0 ∨ 6 < w.toInt) : isNum w x = rng x 0 1 := by
  have hne : ∀ j : Nat, j < 7 → w ≠ nI j := fun j hj e => by
    rw [e, nI_toInt (by omega)] at h
    omega
  unfold isNum
  rw [if_neg (show ¬ w = 0 from hne 0 (by decide)), if_neg (show ¬ w = 1 from hne 1 (by decide)), if_neg (show ¬ w = 2 from hne 2 (by decide)), if_neg (show ¬ w = 3 from hne 3 (by decide)), if_neg (show ¬ w = 6 from hne 6 (by decide))]
set_option maxRecDepth 100000 in
set_option maxHeartbeats 1000000 in
theorem m_isNumber {g : zGh} {M : zM} (w x : Int32) : zCt g yX8_isNumber cX8_isNumber 2 (some .boolean) 1 22 mkI [.int w, .int x] M 0 0 (fun v M1 => v = b2i (isNum w x) ∧ M1 = M) noX := by
  refine zof [some (.int w), some (.int x)] (by decide +kernel) rfl rfl (Nat.le_of_ble_eq_true rfl) ?_
  intro X C hE hnm
  have C : zC g X RX8 cX8_isNumber 2 1 22 0 0 := C
  refine ziload_n C dX8_isNumber_0 rfl ?_
  have hcs : (w.toInt < 0 ∨ 6 < w.toInt) ∨ ∃ j : Nat, j < 7 ∧ w = nI j := by
    by_cases h0 : w.toInt < 0
    · exact Or.inl (Or.inl h0)
    · by_cases h6 : 6 < w.toInt
      · exact Or.inl (Or.inr h6)
      · exact Or.inr (vp_in_of (n := 7) (vp_in_iff.mpr (by omega)) (by decide))
  rcases hcs with ho | ⟨j, hj, rfl⟩
  · refine zts_out (tgt := 81) C dX8_isNumber_1 ho (by decide) ?_
    refine ziload_n C dX8_isNumber_81 rfl ?_
    refine zconst (v := 0) C dX8_isNumber_82 (by decide) ?_
    refine zconst (v := 1) C dX8_isNumber_83 (by decide) ?_
    refine zcallS C (m_in x 0 1) hy_X8_in hst_X8_in hl_X8_137 rfl rfl (by decide) (by decide) (by omega) (by omega) rfl (by exact Nat.le_of_ble_eq_true rfl) dX8_isNumber_84 (fun v84 M hp84 => ?_)
    obtain ⟨rfl, rfl⟩ := hp84
    exact zend_z C hE dX8_isNumber_87 (by omega) (by omega) (by first | exact Or.inl rfl | exact Or.inr rfl | exact b2i_b _) ⟨by rw [isNum_out ho]; rfl, rfl⟩
  · rcases (show j = 0 ∨ j = 1 ∨ j = 2 ∨ j = 3 ∨ j = 4 ∨ j = 5 ∨ j = 6 by omega) with rfl | rfl | rfl | rfl | rfl | rfl | rfl
    · refine zts_in (tgt := 44) C dX8_isNumber_1 (by decide) (by decide) rfl (by decide) ?_
      refine ziload_n C dX8_isNumber_44 rfl ?_
      refine zconst (v := 0) C dX8_isNumber_45 (by decide) ?_
      refine zconst (v := 2) C dX8_isNumber_46 (by decide) ?_
      refine zcallS C (m_in x 0 2) hy_X8_in hst_X8_in hl_X8_137 rfl rfl (by decide) (by decide) (by omega) (by omega) rfl (by exact Nat.le_of_ble_eq_true rfl) dX8_isNumber_47 (fun v47 M hp47 => ?_)
      obtain ⟨rfl, rfl⟩ := hp47
      exact zend_z C hE dX8_isNumber_50 (by omega) (by omega) (by first | exact Or.inl rfl | exact Or.inr rfl | exact b2i_b _) ⟨rfl, rfl⟩
    · refine zts_in (tgt := 51) C dX8_isNumber_1 (by decide) (by decide) rfl (by decide) ?_
      refine ziload_n C dX8_isNumber_51 rfl ?_
      refine zconst (v := 0) C dX8_isNumber_52 (by decide) ?_
      refine zconst (v := 3) C dX8_isNumber_53 (by decide) ?_
      refine zcallS C (m_in x 0 3) hy_X8_in hst_X8_in hl_X8_137 rfl rfl (by decide) (by decide) (by omega) (by omega) rfl (by exact Nat.le_of_ble_eq_true rfl) dX8_isNumber_54 (fun v54 M hp54 => ?_)
      obtain ⟨rfl, rfl⟩ := hp54
      exact zend_z C hE dX8_isNumber_57 (by omega) (by omega) (by first | exact Or.inl rfl | exact Or.inr rfl | exact b2i_b _) ⟨rfl, rfl⟩
    · refine zts_in (tgt := 58) C dX8_isNumber_1 (by decide) (by decide) rfl (by decide) ?_
      refine ziload_n C dX8_isNumber_58 rfl ?_
      refine zconst (v := 1) C dX8_isNumber_59 (by decide) ?_
      refine zconst (v := 4) C dX8_isNumber_60 (by decide) ?_
      refine zcallS C (m_in x 1 4) hy_X8_in hst_X8_in hl_X8_137 rfl rfl (by decide) (by decide) (by omega) (by omega) rfl (by exact Nat.le_of_ble_eq_true rfl) dX8_isNumber_61 (fun v61 M hp61 => ?_)
      obtain ⟨rfl, rfl⟩ := hp61
      exact zend_z C hE dX8_isNumber_64 (by omega) (by omega) (by first | exact Or.inl rfl | exact Or.inr rfl | exact b2i_b _) ⟨rfl, rfl⟩
    · refine zts_in (tgt := 65) C dX8_isNumber_1 (by decide) (by decide) rfl (by decide) ?_
      refine ziload_n C dX8_isNumber_65 rfl ?_
      refine zconst (v := 0) C dX8_isNumber_66 (by decide) ?_
      refine zbipush (v := 100) C dX8_isNumber_67 (by decide) ?_
      refine zcallS C (m_in x 0 100) hy_X8_in hst_X8_in hl_X8_137 rfl rfl (by decide) (by decide) (by omega) (by omega) rfl (by exact Nat.le_of_ble_eq_true rfl) dX8_isNumber_69 (fun v69 M hp69 => ?_)
      obtain ⟨rfl, rfl⟩ := hp69
      exact zend_z C hE dX8_isNumber_72 (by omega) (by omega) (by first | exact Or.inl rfl | exact Or.inr rfl | exact b2i_b _) ⟨rfl, rfl⟩
    · refine zts_in (tgt := 81) C dX8_isNumber_1 (by decide) (by decide) rfl (by decide) ?_
      refine ziload_n C dX8_isNumber_81 rfl ?_
      refine zconst (v := 0) C dX8_isNumber_82 (by decide) ?_
      refine zconst (v := 1) C dX8_isNumber_83 (by decide) ?_
      refine zcallS C (m_in x 0 1) hy_X8_in hst_X8_in hl_X8_137 rfl rfl (by decide) (by decide) (by omega) (by omega) rfl (by exact Nat.le_of_ble_eq_true rfl) dX8_isNumber_84 (fun v84 M hp84 => ?_)
      obtain ⟨rfl, rfl⟩ := hp84
      exact zend_z C hE dX8_isNumber_87 (by omega) (by omega) (by first | exact Or.inl rfl | exact Or.inr rfl | exact b2i_b _) ⟨rfl, rfl⟩
    · refine zts_in (tgt := 81) C dX8_isNumber_1 (by decide) (by decide) rfl (by decide) ?_
      refine ziload_n C dX8_isNumber_81 rfl ?_
      refine zconst (v := 0) C dX8_isNumber_82 (by decide) ?_
      refine zconst (v := 1) C dX8_isNumber_83 (by decide) ?_
      refine zcallS C (m_in x 0 1) hy_X8_in hst_X8_in hl_X8_137 rfl rfl (by decide) (by decide) (by omega) (by omega) rfl (by exact Nat.le_of_ble_eq_true rfl) dX8_isNumber_84 (fun v84 M hp84 => ?_)
      obtain ⟨rfl, rfl⟩ := hp84
      exact zend_z C hE dX8_isNumber_87 (by omega) (by omega) (by first | exact Or.inl rfl | exact Or.inr rfl | exact b2i_b _) ⟨rfl, rfl⟩
    · refine zts_in (tgt := 73) C dX8_isNumber_1 (by decide) (by decide) rfl (by decide) ?_
      refine ziload_n C dX8_isNumber_73 rfl ?_
      refine zconst (v := 0) C dX8_isNumber_74 (by decide) ?_
      refine zbipush (v := 63) C dX8_isNumber_75 (by decide) ?_
      refine zcallS C (m_in x 0 63) hy_X8_in hst_X8_in hl_X8_137 rfl rfl (by decide) (by decide) (by omega) (by omega) rfl (by exact Nat.le_of_ble_eq_true rfl) dX8_isNumber_77 (fun v77 M hp77 => ?_)
      obtain ⟨rfl, rfl⟩ := hp77
      exact zend_z C hE dX8_isNumber_80 (by omega) (by omega) (by first | exact Or.inl rfl | exact Or.inr rfl | exact b2i_b _) ⟨rfl, rfl⟩
set_option maxRecDepth 100000 in
set_option maxHeartbeats 1000000 in
theorem m_community {g : zGh} {M0 : zM} {mo : Nat} {ad : Nat → Nat} {S : zS}  (hi : iB S) : zMc g M0 mo ad yX8_community cX8_community 1 (some .int) 1 24 mkI [] S (fun v S1 => (S1, v) = o_community S) := by
  intro M hR
  refine zof [some (.ref mo)] (by decide +kernel) rfl rfl (Nat.le_of_ble_eq_true rfl) ?_
  intro X C hE hnm
  have C : zC g X RX8 cX8_community 1 1 24 0 0 := C
  obtain ⟨hb1, hb2, hb4, hb9, hb13, hb25, hb33⟩ := id hi
  refine zaload_n C dX8_community_0 rfl ?_
  refine zaload_n C dX8_community_1 rfl ?_
  refine zmgi C hR hf_X8_134 rfl dX8_community_2 ?_
  refine zbipush (v := 6) C dX8_community_5 (by decide) ?_
  refine zicmp_ne (tgt := 14) C dX8_community_7 (by decide) (fun h7 => ?_) (fun h7 => ?_)
  · replace h7 := zni_n (b := 6) h7
    refine zconst (v := 0) C dX8_community_14 (by decide) ?_
    refine zcallV C (m_holds 0 (by decide) M hR) hy_X8_holds hv_X8_holds hl_X8_157 hR.1 rfl rfl rfl rfl (by decide) (by decide) (by omega) (by omega) rfl (by exact Nat.le_of_ble_eq_true rfl) dX8_community_15 (fun v15 M hp15 => ?_)
    obtain ⟨S1, ⟨rfl, hs⟩, hR⟩ := hp15
    rw [hs] at hR
    clear hs
    refine zif_ne_t (tgt := 23) C dX8_community_18 (by decide) (by decide) ?_
    refine zaload_n C dX8_community_23 rfl ?_
    refine zaload_n C dX8_community_24 rfl ?_
    refine zmgi C hR hf_X8_134 rfl dX8_community_25 ?_
    refine zconst (v := 1) C dX8_community_28 (by decide) ?_
    refine zcallV C (m_recognises (S := th S 0) (S.1 2) true (by show S.1 2 < 6; omega) hb1 M hR) hy_X8_recognises hv_X8_recognises hl_X8_160 hR.1 rfl rfl rfl rfl (by decide) (by decide) (by omega) (by omega) rfl (by exact Nat.le_of_ble_eq_true rfl) dX8_community_29 (fun v29 M hp29 => ?_)
    obtain ⟨S1, hs, hR⟩ := hp29
    rw [hs] at hR
    clear hs
    refine zaload_n C dX8_community_32 rfl ?_
    refine zdup C dX8_community_33 rfl ?_
    refine zmgi C hR hf_X8_134 rfl dX8_community_34 ?_
    refine zconst (v := 1) C dX8_community_37 (by decide) ?_
    refine ziadd C dX8_community_38 ?_
    refine zmpi (v := S.1 2 + 1) C hR hf_X8_134 rfl rfl rfl (nI_1 (S.1 2)) dX8_community_39 (fun M hR => ?_)
    refine zaload_n C dX8_community_42 rfl ?_
    refine zmgi C hR hf_X8_134 rfl dX8_community_43 ?_
    refine zconst (v := 1) C dX8_community_46 (by decide) ?_
    refine zisub C dX8_community_47 ?_
    exact zend_i C hE dX8_community_48 (by omega) (by omega) ⟨_, by simp [o_community, recS, zsA_g, zsN_g, zsN_2, zsA_1, zsA_c, zsA_l, zsL_g, zsL_1, zsL_c, zsL_a, nI_pred, h7], hR⟩
  · replace h7 := zni_e (b := 6) (by omega) (by decide) h7
    refine zconst (v := 1) C dX8_community_10 (by decide) ?_
    refine zgoto (tgt := 15) C dX8_community_11 (by decide) ?_
    refine zcallV C (m_holds 1 (by decide) M hR) hy_X8_holds hv_X8_holds hl_X8_157 hR.1 rfl rfl rfl rfl (by decide) (by decide) (by omega) (by omega) rfl (by exact Nat.le_of_ble_eq_true rfl) dX8_community_15 (fun v15 M hp15 => ?_)
    obtain ⟨S1, ⟨rfl, hs⟩, hR⟩ := hp15
    rw [hs] at hR
    clear hs
    refine zif_ne_f (tgt := 23) C dX8_community_18 (by decide) (by decide) ?_
    refine zconst (v := 0) C dX8_community_21 (by decide) ?_
    exact zend_i C hE dX8_community_22 (by omega) (by omega) ⟨_, by simp [o_community, recS, zsA_g, zsN_g, zsN_2, zsA_1, zsA_c, zsA_l, zsL_g, zsL_1, zsL_c, zsL_a, nI_pred, h7], hR⟩
set_option maxRecDepth 100000 in
set_option maxHeartbeats 1000000 in
theorem m_recognise {g : zGh} {M0 : zM} {mo : Nat} {ad : Nat → Nat} {S : zS} (c : Int32) (on : Bool) (hi : iB S) : zMc g M0 mo ad yX8_recognise cX8_recognise 4 (some .boolean) 2 43 mkI [.int c, .int (b2i on)] S (fun v S1 => (S1, v) = o_recognise S c on) := by
  intro M hR
  refine zof [some (.ref mo), some (.int c), some (.int (b2i on)), none] (by decide +kernel) rfl rfl (Nat.le_of_ble_eq_true rfl) ?_
  intro X C hE hnm
  have C : zC g X RX8 cX8_recognise 4 2 43 0 0 := C
  obtain ⟨hb1, hb2, hb4, hb9, hb13, hb25, hb33⟩ := id hi
  refine zaload_n C dX8_recognise_0 rfl ?_
  refine zaload_n C dX8_recognise_1 rfl ?_
  refine ziload_n C dX8_recognise_2 rfl ?_
  refine zcallV C (m_isCommunity c (by omega) M hR) hy_X8_isCommunity hv_X8_isCommunity hl_X8_141 hR.1 rfl rfl rfl rfl (by decide) (by decide) (by omega) (by omega) rfl (by exact Nat.le_of_ble_eq_true rfl) dX8_recognise_3 (fun v3 M hp3 => ?_)
  obtain ⟨S1, ⟨rfl, hs⟩, hR⟩ := hp3
  rw [hs] at hR
  clear hs
  refine zif_eq (tgt := 13) C dX8_recognise_6 (by decide) (fun h6 => ?_) (fun h6 => ?_)
  · replace h6 := b2i_0.mp h6
    refine zconst (v := 1) C dX8_recognise_13 (by decide) ?_
    refine zcallV C (m_holds 1 (by decide) M hR) hy_X8_holds hv_X8_holds hl_X8_157 hR.1 rfl rfl rfl rfl (by decide) (by decide) (by omega) (by omega) rfl (by exact Nat.le_of_ble_eq_true rfl) dX8_recognise_14 (fun v14 M hp14 => ?_)
    obtain ⟨S1, ⟨rfl, hs⟩, hR⟩ := hp14
    rw [hs] at hR
    clear hs
    refine zif_ne_f (tgt := 22) C dX8_recognise_17 (by decide) (by decide) ?_
    refine zconst (v := 0) C dX8_recognise_20 (by decide) ?_
    exact zend_z C hE dX8_recognise_21 (by omega) (by omega) (by first | exact Or.inl rfl | exact Or.inr rfl | exact b2i_b _) ⟨_, by simp [o_recognise, recS, recBit, zsA_g, zsN_g, zsN_2, zsA_1, zsA_c, zsA_l, zsL_g, zsL_1, zsL_c, zsL_a, h6], hR⟩
  · replace h6 := b2i_n0.mp h6
    obtain ⟨cn, hcn, rfl⟩ := zix_of h6 (by omega)
    have ecn := nI_clamp (show cn < 2 ^ 31 by omega)
    refine zconst (v := 0) C dX8_recognise_9 (by decide) ?_
    refine zgoto (tgt := 14) C dX8_recognise_10 (by decide) ?_
    refine zcallV C (m_holds 0 (by decide) M hR) hy_X8_holds hv_X8_holds hl_X8_157 hR.1 rfl rfl rfl rfl (by decide) (by decide) (by omega) (by omega) rfl (by exact Nat.le_of_ble_eq_true rfl) dX8_recognise_14 (fun v14 M hp14 => ?_)
    obtain ⟨S1, ⟨rfl, hs⟩, hR⟩ := hp14
    rw [hs] at hR
    clear hs
    refine zif_ne_t (tgt := 22) C dX8_recognise_17 (by decide) (by decide) ?_
    refine zaload_n C dX8_recognise_22 rfl ?_
    refine ziload_n C dX8_recognise_23 rfl ?_
    refine zaload_n C dX8_recognise_24 rfl ?_
    refine zmgi C hR hf_X8_154 rfl dX8_recognise_25 ?_
    refine zcallV C (m_isRecognised (S := th S 0) cn (S.1 1) (by omega) hb1 M hR) hy_X8_isRecognised hv_X8_isRecognised hl_X8_164 hR.1 rfl rfl rfl rfl (by decide) (by decide) (by omega) (by omega) rfl (by exact Nat.le_of_ble_eq_true rfl) dX8_recognise_28 (fun v28 M hp28 => ?_)
    obtain ⟨S1, ⟨rfl, hs⟩, hR⟩ := hp28
    rw [hs] at hR
    clear hs
    refine zistore_n (L1 := [_, _, _, _]) C dX8_recognise_31 rfl (Nat.le_of_ble_eq_true rfl) ?_
    refine zaload_n C dX8_recognise_32 rfl ?_
    refine ziload_n C dX8_recognise_33 rfl ?_
    refine ziload_n C dX8_recognise_34 rfl ?_
    refine zcallV C (m_recognises (S := th S 0) cn on (by omega) hb1 M hR) hy_X8_recognises hv_X8_recognises hl_X8_160 hR.1 rfl rfl rfl rfl (by decide) (by decide) (by omega) (by omega) rfl (by exact Nat.le_of_ble_eq_true rfl) dX8_recognise_35 (fun v35 M hp35 => ?_)
    obtain ⟨S1, hs, hR⟩ := hp35
    rw [hs] at hR
    clear hs
    refine ziload_n C dX8_recognise_38 rfl ?_
    exact zend_z C hE dX8_recognise_39 (by omega) (by omega) (by first | exact Or.inl rfl | exact Or.inr rfl | exact b2i_b _) ⟨_, by simp [o_recognise, recS, recBit, zsA_g, zsN_g, zsN_2, zsA_1, zsA_c, zsA_l, zsL_g, zsL_1, zsL_c, zsL_a, h6, ecn], hR⟩
set_option maxRecDepth 100000 in
set_option maxHeartbeats 1000000 in
theorem m_decree {g : zGh} {M0 : zM} {mo : Nat} {ad : Nat → Nat} {S : zS} (c w x : Int32) (hi : iB S) : zMc g M0 mo ad yX8_decree cX8_decree 6 (some .int) 3 64 mkI [.int c, .int w, .int x] S (fun v S1 => (S1, v) = o_decree S c w x) := by
  intro M hR
  refine zof [some (.ref mo), some (.int c), some (.int w), some (.int x), none, none] (by decide +kernel) rfl rfl (Nat.le_of_ble_eq_true rfl) ?_
  intro X C hE hnm
  have C : zC g X RX8 cX8_decree 6 3 64 0 0 := C
  obtain ⟨hb1, hb2, hb4, hb9, hb13, hb25, hb33⟩ := id hi
  refine ziload_n C dX8_decree_0 rfl ?_
  refine zconst (v := 0) C dX8_decree_1 (by decide) ?_
  refine zbipush (v := 6) C dX8_decree_2 (by decide) ?_
  refine zcallS C (m_in w 0 6) hy_X8_in hst_X8_in hl_X8_137 rfl rfl (by decide) (by decide) (by omega) (by omega) rfl (by exact Nat.le_of_ble_eq_true rfl) dX8_decree_4 (fun v4 M hp4 => ?_)
  obtain ⟨rfl, rfl⟩ := hp4
  refine zif_eq (tgt := 22) C dX8_decree_7 (by decide) (fun h7 => ?_) (fun h7 => ?_)
  · replace h7 := b2i_0.mp h7
    refine zconst (v := 0) C dX8_decree_22 (by decide) ?_
    refine zistore (L1 := [_, _, _, _, _, _]) C dX8_decree_23 rfl (Nat.le_of_ble_eq_true rfl) ?_
    refine zaload_n C dX8_decree_25 rfl ?_
    refine zaload_n C dX8_decree_26 rfl ?_
    refine ziload_n C dX8_decree_27 rfl ?_
    refine zcallV C (m_isCourt c (by omega) M hR) hy_X8_isCourt hv_X8_isCourt hl_X8_174 hR.1 rfl rfl rfl rfl (by decide) (by decide) (by omega) (by omega) rfl (by exact Nat.le_of_ble_eq_true rfl) dX8_decree_28 (fun v28 M hp28 => ?_)
    obtain ⟨S1, ⟨rfl, hs⟩, hR⟩ := hp28
    rw [hs] at hR
    clear hs
    refine zif_ne (tgt := 38) C dX8_decree_31 (by decide) (fun h31 => ?_) (fun h31 => ?_)
    · replace h31 := b2i_n0.mp h31
      refine ziload C dX8_decree_38 rfl ?_
      refine zif_ne_f (tgt := 47) C dX8_decree_40 (by decide) (by decide) ?_
      refine zconst (v := 2) C dX8_decree_43 (by decide) ?_
      refine zgoto (tgt := 61) C dX8_decree_44 (by decide) ?_
      refine zcallV C (m_holds 2 (by decide) M hR) hy_X8_holds hv_X8_holds hl_X8_157 hR.1 rfl rfl rfl rfl (by decide) (by decide) (by omega) (by omega) rfl (by exact Nat.le_of_ble_eq_true rfl) dX8_decree_61 (fun v61 M hp61 => ?_)
      obtain ⟨S1, ⟨rfl, hs⟩, hR⟩ := hp61
      rw [hs] at hR
      clear hs
      refine zif_ne_f (tgt := 69) C dX8_decree_64 (by decide) (by decide) ?_
      refine zconst (v := 0) C dX8_decree_67 (by decide) ?_
      exact zend_i C hE dX8_decree_68 (by omega) (by omega) ⟨_, by simp [o_decree, okc, rng, decS, zsA_g, zsN_g, zsN_2, zsA_1, zsA_c, zsA_l, zsL_g, zsL_1, zsL_c, zsL_a, lawOf, h7, h31], hR⟩
    · replace h31 := b2i_0.mp h31
      refine zconst (v := 1) C dX8_decree_34 (by decide) ?_
      refine zgoto (tgt := 61) C dX8_decree_35 (by decide) ?_
      refine zcallV C (m_holds 1 (by decide) M hR) hy_X8_holds hv_X8_holds hl_X8_157 hR.1 rfl rfl rfl rfl (by decide) (by decide) (by omega) (by omega) rfl (by exact Nat.le_of_ble_eq_true rfl) dX8_decree_61 (fun v61 M hp61 => ?_)
      obtain ⟨S1, ⟨rfl, hs⟩, hR⟩ := hp61
      rw [hs] at hR
      clear hs
      refine zif_ne_f (tgt := 69) C dX8_decree_64 (by decide) (by decide) ?_
      refine zconst (v := 0) C dX8_decree_67 (by decide) ?_
      exact zend_i C hE dX8_decree_68 (by omega) (by omega) ⟨_, by simp [o_decree, okc, rng, decS, zsA_g, zsN_g, zsN_2, zsA_1, zsA_c, zsA_l, zsL_g, zsL_1, zsL_c, zsL_a, lawOf, h7, h31], hR⟩
  · replace h7 := b2i_n0.mp h7
    refine ziload_n C dX8_decree_10 rfl ?_
    refine ziload_n C dX8_decree_11 rfl ?_
    refine zcallS C (m_isNumber w x) hy_X8_isNumber hst_X8_isNumber hl_X8_171 rfl rfl (by decide) (by decide) (by omega) (by omega) rfl (by exact Nat.le_of_ble_eq_true rfl) dX8_decree_12 (fun v12 M hp12 => ?_)
    obtain ⟨rfl, rfl⟩ := hp12
    refine zif_eq (tgt := 22) C dX8_decree_15 (by decide) (fun h15 => ?_) (fun h15 => ?_)
    · replace h15 := b2i_0.mp h15
      refine zconst (v := 0) C dX8_decree_22 (by decide) ?_
      refine zistore (L1 := [_, _, _, _, _, _]) C dX8_decree_23 rfl (Nat.le_of_ble_eq_true rfl) ?_
      refine zaload_n C dX8_decree_25 rfl ?_
      refine zaload_n C dX8_decree_26 rfl ?_
      refine ziload_n C dX8_decree_27 rfl ?_
      refine zcallV C (m_isCourt c (by omega) M hR) hy_X8_isCourt hv_X8_isCourt hl_X8_174 hR.1 rfl rfl rfl rfl (by decide) (by decide) (by omega) (by omega) rfl (by exact Nat.le_of_ble_eq_true rfl) dX8_decree_28 (fun v28 M hp28 => ?_)
      obtain ⟨S1, ⟨rfl, hs⟩, hR⟩ := hp28
      rw [hs] at hR
      clear hs
      refine zif_ne (tgt := 38) C dX8_decree_31 (by decide) (fun h31 => ?_) (fun h31 => ?_)
      · replace h31 := b2i_n0.mp h31
        refine ziload C dX8_decree_38 rfl ?_
        refine zif_ne_f (tgt := 47) C dX8_decree_40 (by decide) (by decide) ?_
        refine zconst (v := 2) C dX8_decree_43 (by decide) ?_
        refine zgoto (tgt := 61) C dX8_decree_44 (by decide) ?_
        refine zcallV C (m_holds 2 (by decide) M hR) hy_X8_holds hv_X8_holds hl_X8_157 hR.1 rfl rfl rfl rfl (by decide) (by decide) (by omega) (by omega) rfl (by exact Nat.le_of_ble_eq_true rfl) dX8_decree_61 (fun v61 M hp61 => ?_)
        obtain ⟨S1, ⟨rfl, hs⟩, hR⟩ := hp61
        rw [hs] at hR
        clear hs
        refine zif_ne_f (tgt := 69) C dX8_decree_64 (by decide) (by decide) ?_
        refine zconst (v := 0) C dX8_decree_67 (by decide) ?_
        exact zend_i C hE dX8_decree_68 (by omega) (by omega) ⟨_, by simp [o_decree, okc, rng, decS, zsA_g, zsN_g, zsN_2, zsA_1, zsA_c, zsA_l, zsL_g, zsL_1, zsL_c, zsL_a, lawOf, h7, h15, h31], hR⟩
      · replace h31 := b2i_0.mp h31
        refine zconst (v := 1) C dX8_decree_34 (by decide) ?_
        refine zgoto (tgt := 61) C dX8_decree_35 (by decide) ?_
        refine zcallV C (m_holds 1 (by decide) M hR) hy_X8_holds hv_X8_holds hl_X8_157 hR.1 rfl rfl rfl rfl (by decide) (by decide) (by omega) (by omega) rfl (by exact Nat.le_of_ble_eq_true rfl) dX8_decree_61 (fun v61 M hp61 => ?_)
        obtain ⟨S1, ⟨rfl, hs⟩, hR⟩ := hp61
        rw [hs] at hR
        clear hs
        refine zif_ne_f (tgt := 69) C dX8_decree_64 (by decide) (by decide) ?_
        refine zconst (v := 0) C dX8_decree_67 (by decide) ?_
        exact zend_i C hE dX8_decree_68 (by omega) (by omega) ⟨_, by simp [o_decree, okc, rng, decS, zsA_g, zsN_g, zsN_2, zsA_1, zsA_c, zsA_l, zsL_g, zsL_1, zsL_c, zsL_a, lawOf, h7, h15, h31], hR⟩
    · replace h15 := b2i_n0.mp h15
      refine zconst (v := 1) C dX8_decree_18 (by decide) ?_
      refine zgoto (tgt := 23) C dX8_decree_19 (by decide) ?_
      refine zistore (L1 := [_, _, _, _, _, _]) C dX8_decree_23 rfl (Nat.le_of_ble_eq_true rfl) ?_
      refine zaload_n C dX8_decree_25 rfl ?_
      refine zaload_n C dX8_decree_26 rfl ?_
      refine ziload_n C dX8_decree_27 rfl ?_
      refine zcallV C (m_isCourt c (by omega) M hR) hy_X8_isCourt hv_X8_isCourt hl_X8_174 hR.1 rfl rfl rfl rfl (by decide) (by decide) (by omega) (by omega) rfl (by exact Nat.le_of_ble_eq_true rfl) dX8_decree_28 (fun v28 M hp28 => ?_)
      obtain ⟨S1, ⟨rfl, hs⟩, hR⟩ := hp28
      rw [hs] at hR
      clear hs
      refine zif_ne (tgt := 38) C dX8_decree_31 (by decide) (fun h31 => ?_) (fun h31 => ?_)
      · replace h31 := b2i_n0.mp h31
        refine ziload C dX8_decree_38 rfl ?_
        refine zif_ne_t (tgt := 47) C dX8_decree_40 (by decide) (by decide) ?_
        refine zaload_n C dX8_decree_47 rfl ?_
        refine zmgi C hR hf_X8_168 rfl dX8_decree_48 ?_
        refine zbipush (v := 100) C dX8_decree_51 (by decide) ?_
        refine zicmp_ne (tgt := 60) C dX8_decree_53 (by decide) (fun h53 => ?_) (fun h53 => ?_)
        · replace h53 := zni_n (b := 100) h53
          refine zconst (v := 0) C dX8_decree_60 (by decide) ?_
          refine zcallV C (m_holds 0 (by decide) M hR) hy_X8_holds hv_X8_holds hl_X8_157 hR.1 rfl rfl rfl rfl (by decide) (by decide) (by omega) (by omega) rfl (by exact Nat.le_of_ble_eq_true rfl) dX8_decree_61 (fun v61 M hp61 => ?_)
          obtain ⟨S1, ⟨rfl, hs⟩, hR⟩ := hp61
          rw [hs] at hR
          clear hs
          refine zif_ne_t (tgt := 69) C dX8_decree_64 (by decide) (by decide) ?_
          refine zaload_n C dX8_decree_69 rfl ?_
          refine ziload_n C dX8_decree_70 rfl ?_
          refine ziload_n C dX8_decree_71 rfl ?_
          refine zaload_n C dX8_decree_72 rfl ?_
          refine zmgi C hR hf_X8_154 rfl dX8_decree_73 ?_
          refine zcallV C (m_lawOf (S := th S 0) c w (nI (S.1 1)) hb4 M hR) hy_X8_lawOf hv_X8_lawOf hl_X8_177 hR.1 rfl rfl rfl rfl (by decide) (by decide) (by omega) (by omega) rfl (by exact Nat.le_of_ble_eq_true rfl) dX8_decree_76 (fun v76 M hp76 => ?_)
          obtain ⟨S1, ⟨rfl, hs⟩, hR⟩ := hp76
          rw [hs] at hR
          clear hs
          refine zistore (L1 := [_, _, _, _, _, _]) C dX8_decree_79 rfl (Nat.le_of_ble_eq_true rfl) ?_
          refine zaload_n C dX8_decree_81 rfl ?_
          refine zmga C hR hf_X8_13 rfl dX8_decree_82 ?_
          refine zaload_n C dX8_decree_85 rfl ?_
          refine zmgi C hR hf_X8_168 rfl dX8_decree_86 ?_
          refine ziload_n C dX8_decree_89 rfl ?_
          refine zmis (i0 := S.1 4) C hR rfl rfl rfl (show _ < 100 from by omega) dX8_decree_90 (fun M hR => ?_)
          refine zaload_n C dX8_decree_91 rfl ?_
          refine zmga C hR hf_X8_16 rfl dX8_decree_92 ?_
          refine zaload_n C dX8_decree_95 rfl ?_
          refine zmgi C hR hf_X8_168 rfl dX8_decree_96 ?_
          refine ziload_n C dX8_decree_99 rfl ?_
          refine zmis (i0 := S.1 4) C hR rfl rfl rfl (show _ < 100 from by omega) dX8_decree_100 (fun M hR => ?_)
          refine zaload_n C dX8_decree_101 rfl ?_
          refine zmga C hR hf_X8_19 rfl dX8_decree_102 ?_
          refine zaload_n C dX8_decree_105 rfl ?_
          refine zmgi C hR hf_X8_168 rfl dX8_decree_106 ?_
          refine ziload_n C dX8_decree_109 rfl ?_
          refine zmis (i0 := S.1 4) C hR rfl rfl rfl (show _ < 100 from by omega) dX8_decree_110 (fun M hR => ?_)
          refine zaload_n C dX8_decree_111 rfl ?_
          refine zmga C hR hf_X8_22 rfl dX8_decree_112 ?_
          refine zaload_n C dX8_decree_115 rfl ?_
          refine zmgi C hR hf_X8_168 rfl dX8_decree_116 ?_
          refine zaload_n C dX8_decree_119 rfl ?_
          refine zmgi C hR hf_X8_154 rfl dX8_decree_120 ?_
          refine zmis (i0 := S.1 4) C hR rfl rfl rfl (show _ < 100 from by omega) dX8_decree_123 (fun M hR => ?_)
          refine zaload_n C dX8_decree_124 rfl ?_
          refine zdup C dX8_decree_125 rfl ?_
          refine zmgi C hR hf_X8_168 rfl dX8_decree_126 ?_
          refine zconst (v := 1) C dX8_decree_129 (by decide) ?_
          refine ziadd C dX8_decree_130 ?_
          refine zmpi (v := S.1 4 + 1) C hR hf_X8_168 rfl rfl rfl (nI_1 (S.1 4)) dX8_decree_131 (fun M hR => ?_)
          refine ziload C dX8_decree_134 rfl ?_
          exact zend_i C hE dX8_decree_136 (by omega) (by omega) ⟨_, by simp [o_decree, okc, rng, decS, zsA_g, zsN_g, zsN_2, zsA_1, zsA_c, zsA_l, zsL_g, zsL_1, zsL_c, zsL_a, lawOf, h7, h15, h31, h53], hR⟩
        · replace h53 := zni_e (b := 100) (by omega) (by decide) h53
          refine zconst (v := 3) C dX8_decree_56 (by decide) ?_
          refine zgoto (tgt := 61) C dX8_decree_57 (by decide) ?_
          refine zcallV C (m_holds 3 (by decide) M hR) hy_X8_holds hv_X8_holds hl_X8_157 hR.1 rfl rfl rfl rfl (by decide) (by decide) (by omega) (by omega) rfl (by exact Nat.le_of_ble_eq_true rfl) dX8_decree_61 (fun v61 M hp61 => ?_)
          obtain ⟨S1, ⟨rfl, hs⟩, hR⟩ := hp61
          rw [hs] at hR
          clear hs
          refine zif_ne_f (tgt := 69) C dX8_decree_64 (by decide) (by decide) ?_
          refine zconst (v := 0) C dX8_decree_67 (by decide) ?_
          exact zend_i C hE dX8_decree_68 (by omega) (by omega) ⟨_, by simp [o_decree, okc, rng, decS, zsA_g, zsN_g, zsN_2, zsA_1, zsA_c, zsA_l, zsL_g, zsL_1, zsL_c, zsL_a, lawOf, h7, h15, h31, h53], hR⟩
      · replace h31 := b2i_0.mp h31
        refine zconst (v := 1) C dX8_decree_34 (by decide) ?_
        refine zgoto (tgt := 61) C dX8_decree_35 (by decide) ?_
        refine zcallV C (m_holds 1 (by decide) M hR) hy_X8_holds hv_X8_holds hl_X8_157 hR.1 rfl rfl rfl rfl (by decide) (by decide) (by omega) (by omega) rfl (by exact Nat.le_of_ble_eq_true rfl) dX8_decree_61 (fun v61 M hp61 => ?_)
        obtain ⟨S1, ⟨rfl, hs⟩, hR⟩ := hp61
        rw [hs] at hR
        clear hs
        refine zif_ne_f (tgt := 69) C dX8_decree_64 (by decide) (by decide) ?_
        refine zconst (v := 0) C dX8_decree_67 (by decide) ?_
        exact zend_i C hE dX8_decree_68 (by omega) (by omega) ⟨_, by simp [o_decree, okc, rng, decS, zsA_g, zsN_g, zsN_2, zsA_1, zsA_c, zsA_l, zsL_g, zsL_1, zsL_c, zsL_a, lawOf, h7, h15, h31], hR⟩
set_option maxRecDepth 100000 in
set_option maxHeartbeats 1000000 in
theorem m_rule {g : zGh} {M0 : zM} {mo : Nat} {ad : Nat → Nat} {S : zS} (m r : Int32) (hi : iB S) : zMc g M0 mo ad yX8_rule cX8_rule 4 (some .int) 1 24 mkI [.int m, .int r] S (fun v S1 => (S1, v) = o_rule S m r) := by
  intro M hR
  refine zof [some (.ref mo), some (.int m), some (.int r), none] (by decide +kernel) rfl rfl (Nat.le_of_ble_eq_true rfl) ?_
  intro X C hE hnm
  have C : zC g X RX8 cX8_rule 4 1 24 0 0 := C
  obtain ⟨hb1, hb2, hb4, hb9, hb13, hb25, hb33⟩ := id hi
  refine zaload_n C dX8_rule_0 rfl ?_
  refine ziload_n C dX8_rule_1 rfl ?_
  refine zconst (v := 0) C dX8_rule_2 (by decide) ?_
  refine zconst (v := 3) C dX8_rule_3 (by decide) ?_
  refine zcallS C (m_in m 0 3) hy_X8_in hst_X8_in hl_X8_137 rfl rfl (by decide) (by decide) (by omega) (by omega) rfl (by exact Nat.le_of_ble_eq_true rfl) dX8_rule_4 (fun v4 M hp4 => ?_)
  obtain ⟨rfl, rfl⟩ := hp4
  refine zif_eq (tgt := 19) C dX8_rule_7 (by decide) (fun h7 => ?_) (fun h7 => ?_)
  · replace h7 := b2i_0.mp h7
    refine zconst (v := 1) C dX8_rule_19 (by decide) ?_
    refine zgoto (tgt := 37) C dX8_rule_20 (by decide) ?_
    refine zcallV C (m_holds 1 (by decide) M hR) hy_X8_holds hv_X8_holds hl_X8_157 hR.1 rfl rfl rfl rfl (by decide) (by decide) (by omega) (by omega) rfl (by exact Nat.le_of_ble_eq_true rfl) dX8_rule_37 (fun v37 M hp37 => ?_)
    obtain ⟨S1, ⟨rfl, hs⟩, hR⟩ := hp37
    rw [hs] at hR
    clear hs
    refine zif_ne_f (tgt := 45) C dX8_rule_40 (by decide) (by decide) ?_
    refine zconst (v := 0) C dX8_rule_43 (by decide) ?_
    exact zend_i C hE dX8_rule_44 (by omega) (by omega) ⟨_, by simp [o_rule, rng, rulS, zsA_g, zsN_g, zsN_2, zsA_1, zsA_c, zsA_l, zsL_g, zsL_1, zsL_c, zsL_a, ruleOn, h7], hR⟩
  · replace h7 := b2i_n0.mp h7
    refine ziload_n C dX8_rule_10 rfl ?_
    refine zconst (v := 0) C dX8_rule_11 (by decide) ?_
    refine zconst (v := 3) C dX8_rule_12 (by decide) ?_
    refine zcallS C (m_in r 0 3) hy_X8_in hst_X8_in hl_X8_137 rfl rfl (by decide) (by decide) (by omega) (by omega) rfl (by exact Nat.le_of_ble_eq_true rfl) dX8_rule_13 (fun v13 M hp13 => ?_)
    obtain ⟨rfl, rfl⟩ := hp13
    refine zif_ne (tgt := 23) C dX8_rule_16 (by decide) (fun h16 => ?_) (fun h16 => ?_)
    · replace h16 := b2i_n0.mp h16
      refine zaload_n C dX8_rule_23 rfl ?_
      refine zmgi C hR hf_X8_181 rfl dX8_rule_24 ?_
      refine zbipush (v := 40) C dX8_rule_27 (by decide) ?_
      refine zicmp_ne (tgt := 36) C dX8_rule_29 (by decide) (fun h29 => ?_) (fun h29 => ?_)
      · replace h29 := zni_n (b := 40) h29
        refine zconst (v := 0) C dX8_rule_36 (by decide) ?_
        refine zcallV C (m_holds 0 (by decide) M hR) hy_X8_holds hv_X8_holds hl_X8_157 hR.1 rfl rfl rfl rfl (by decide) (by decide) (by omega) (by omega) rfl (by exact Nat.le_of_ble_eq_true rfl) dX8_rule_37 (fun v37 M hp37 => ?_)
        obtain ⟨S1, ⟨rfl, hs⟩, hR⟩ := hp37
        rw [hs] at hR
        clear hs
        refine zif_ne_t (tgt := 45) C dX8_rule_40 (by decide) (by decide) ?_
        refine zaload_n C dX8_rule_45 rfl ?_
        refine ziload_n C dX8_rule_46 rfl ?_
        refine zaload_n C dX8_rule_47 rfl ?_
        refine zmgi C hR hf_X8_154 rfl dX8_rule_48 ?_
        refine zcallV C (m_ruleOn (S := th S 0) m (nI (S.1 1)) hb9 M hR) hy_X8_ruleOn hv_X8_ruleOn hl_X8_184 hR.1 rfl rfl rfl rfl (by decide) (by decide) (by omega) (by omega) rfl (by exact Nat.le_of_ble_eq_true rfl) dX8_rule_51 (fun v51 M hp51 => ?_)
        obtain ⟨S1, ⟨rfl, hs⟩, hR⟩ := hp51
        rw [hs] at hR
        clear hs
        refine zistore_n (L1 := [_, _, _, _]) C dX8_rule_54 rfl (Nat.le_of_ble_eq_true rfl) ?_
        refine zaload_n C dX8_rule_55 rfl ?_
        refine zmga C hR hf_X8_25 rfl dX8_rule_56 ?_
        refine zaload_n C dX8_rule_59 rfl ?_
        refine zmgi C hR hf_X8_181 rfl dX8_rule_60 ?_
        refine ziload_n C dX8_rule_63 rfl ?_
        refine zmis (i0 := S.1 9) C hR rfl rfl rfl (show _ < 40 from by omega) dX8_rule_64 (fun M hR => ?_)
        refine zaload_n C dX8_rule_65 rfl ?_
        refine zmga C hR hf_X8_28 rfl dX8_rule_66 ?_
        refine zaload_n C dX8_rule_69 rfl ?_
        refine zmgi C hR hf_X8_181 rfl dX8_rule_70 ?_
        refine ziload_n C dX8_rule_73 rfl ?_
        refine zmis (i0 := S.1 9) C hR rfl rfl rfl (show _ < 40 from by omega) dX8_rule_74 (fun M hR => ?_)
        refine zaload_n C dX8_rule_75 rfl ?_
        refine zmga C hR hf_X8_31 rfl dX8_rule_76 ?_
        refine zaload_n C dX8_rule_79 rfl ?_
        refine zmgi C hR hf_X8_181 rfl dX8_rule_80 ?_
        refine zaload_n C dX8_rule_83 rfl ?_
        refine zmgi C hR hf_X8_154 rfl dX8_rule_84 ?_
        refine zmis (i0 := S.1 9) C hR rfl rfl rfl (show _ < 40 from by omega) dX8_rule_87 (fun M hR => ?_)
        refine zaload_n C dX8_rule_88 rfl ?_
        refine zdup C dX8_rule_89 rfl ?_
        refine zmgi C hR hf_X8_181 rfl dX8_rule_90 ?_
        refine zconst (v := 1) C dX8_rule_93 (by decide) ?_
        refine ziadd C dX8_rule_94 ?_
        refine zmpi (v := S.1 9 + 1) C hR hf_X8_181 rfl rfl rfl (nI_1 (S.1 9)) dX8_rule_95 (fun M hR => ?_)
        refine ziload_n C dX8_rule_98 rfl ?_
        exact zend_i C hE dX8_rule_99 (by omega) (by omega) ⟨_, by simp [o_rule, rng, rulS, zsA_g, zsN_g, zsN_2, zsA_1, zsA_c, zsA_l, zsL_g, zsL_1, zsL_c, zsL_a, ruleOn, h7, h16, h29], hR⟩
      · replace h29 := zni_e (b := 40) (by omega) (by decide) h29
        refine zconst (v := 2) C dX8_rule_32 (by decide) ?_
        refine zgoto (tgt := 37) C dX8_rule_33 (by decide) ?_
        refine zcallV C (m_holds 2 (by decide) M hR) hy_X8_holds hv_X8_holds hl_X8_157 hR.1 rfl rfl rfl rfl (by decide) (by decide) (by omega) (by omega) rfl (by exact Nat.le_of_ble_eq_true rfl) dX8_rule_37 (fun v37 M hp37 => ?_)
        obtain ⟨S1, ⟨rfl, hs⟩, hR⟩ := hp37
        rw [hs] at hR
        clear hs
        refine zif_ne_f (tgt := 45) C dX8_rule_40 (by decide) (by decide) ?_
        refine zconst (v := 0) C dX8_rule_43 (by decide) ?_
        exact zend_i C hE dX8_rule_44 (by omega) (by omega) ⟨_, by simp [o_rule, rng, rulS, zsA_g, zsN_g, zsN_2, zsA_1, zsA_c, zsA_l, zsL_g, zsL_1, zsL_c, zsL_a, ruleOn, h7, h16, h29], hR⟩
    · replace h16 := b2i_0.mp h16
      refine zconst (v := 1) C dX8_rule_19 (by decide) ?_
      refine zgoto (tgt := 37) C dX8_rule_20 (by decide) ?_
      refine zcallV C (m_holds 1 (by decide) M hR) hy_X8_holds hv_X8_holds hl_X8_157 hR.1 rfl rfl rfl rfl (by decide) (by decide) (by omega) (by omega) rfl (by exact Nat.le_of_ble_eq_true rfl) dX8_rule_37 (fun v37 M hp37 => ?_)
      obtain ⟨S1, ⟨rfl, hs⟩, hR⟩ := hp37
      rw [hs] at hR
      clear hs
      refine zif_ne_f (tgt := 45) C dX8_rule_40 (by decide) (by decide) ?_
      refine zconst (v := 0) C dX8_rule_43 (by decide) ?_
      exact zend_i C hE dX8_rule_44 (by omega) (by omega) ⟨_, by simp [o_rule, rng, rulS, zsA_g, zsN_g, zsN_2, zsA_1, zsA_c, zsA_l, zsL_g, zsL_1, zsL_c, zsL_a, ruleOn, h7, h16], hR⟩
set_option maxRecDepth 100000 in
set_option maxHeartbeats 1000000 in
theorem m_law {g : zGh} {M0 : zM} {mo : Nat} {ad : Nat → Nat} {S : zS} (c w d : Int32) (hi : iB S) : zMc g M0 mo ad yX8_law cX8_law 5 (some .int) 3 64 mkI [.int c, .int w, .int d] S (fun v S1 => (S1, v) = o_law S c w d) := by
  intro M hR
  refine zof [some (.ref mo), some (.int c), some (.int w), some (.int d), none] (by decide +kernel) rfl rfl (Nat.le_of_ble_eq_true rfl) ?_
  intro X C hE hnm
  have C : zC g X RX8 cX8_law 5 3 64 0 0 := C
  obtain ⟨hb1, hb2, hb4, hb9, hb13, hb25, hb33⟩ := id hi
  refine ziload_n C dX8_law_0 rfl ?_
  refine zconst (v := 0) C dX8_law_1 (by decide) ?_
  refine zbipush (v := 6) C dX8_law_2 (by decide) ?_
  refine zcallS C (m_in w 0 6) hy_X8_in hst_X8_in hl_X8_137 rfl rfl (by decide) (by decide) (by omega) (by omega) rfl (by exact Nat.le_of_ble_eq_true rfl) dX8_law_4 (fun v4 M hp4 => ?_)
  obtain ⟨rfl, rfl⟩ := hp4
  refine zif_eq (tgt := 26) C dX8_law_7 (by decide) (fun h7 => ?_) (fun h7 => ?_)
  · replace h7 := b2i_0.mp h7
    refine zconst (v := 0) C dX8_law_26 (by decide) ?_
    refine zistore (L1 := [_, _, _, _, _]) C dX8_law_27 rfl (Nat.le_of_ble_eq_true rfl) ?_
    refine zaload_n C dX8_law_29 rfl ?_
    refine zaload_n C dX8_law_30 rfl ?_
    refine ziload_n C dX8_law_31 rfl ?_
    refine zcallV C (m_isCourt c (by omega) M hR) hy_X8_isCourt hv_X8_isCourt hl_X8_174 hR.1 rfl rfl rfl rfl (by decide) (by decide) (by omega) (by omega) rfl (by exact Nat.le_of_ble_eq_true rfl) dX8_law_32 (fun v32 M hp32 => ?_)
    obtain ⟨S1, ⟨rfl, hs⟩, hR⟩ := hp32
    rw [hs] at hR
    clear hs
    refine zif_ne (tgt := 42) C dX8_law_35 (by decide) (fun h35 => ?_) (fun h35 => ?_)
    · replace h35 := b2i_n0.mp h35
      refine ziload C dX8_law_42 rfl ?_
      refine zif_eq_t (tgt := 51) C dX8_law_44 (by decide) (by decide) ?_
      refine zconst (v := 2) C dX8_law_51 (by decide) ?_
      refine zcallV C (m_holds 2 (by decide) M hR) hy_X8_holds hv_X8_holds hl_X8_157 hR.1 rfl rfl rfl rfl (by decide) (by decide) (by omega) (by omega) rfl (by exact Nat.le_of_ble_eq_true rfl) dX8_law_52 (fun v52 M hp52 => ?_)
      obtain ⟨S1, ⟨rfl, hs⟩, hR⟩ := hp52
      rw [hs] at hR
      clear hs
      refine zif_eq_t (tgt := 68) C dX8_law_55 (by decide) (by decide) ?_
      refine zconst (v := 0) C dX8_law_68 (by decide) ?_
      exact zend_i C hE dX8_law_69 (by omega) (by omega) ⟨_, by simp [o_law, okc, rng, zsA_g, zsN_g, zsN_2, zsA_1, zsA_c, zsA_l, zsL_g, zsL_1, zsL_c, zsL_a, lawOf, h7, h35], hR⟩
    · replace h35 := b2i_0.mp h35
      refine zconst (v := 1) C dX8_law_38 (by decide) ?_
      refine zgoto (tgt := 52) C dX8_law_39 (by decide) ?_
      refine zcallV C (m_holds 1 (by decide) M hR) hy_X8_holds hv_X8_holds hl_X8_157 hR.1 rfl rfl rfl rfl (by decide) (by decide) (by omega) (by omega) rfl (by exact Nat.le_of_ble_eq_true rfl) dX8_law_52 (fun v52 M hp52 => ?_)
      obtain ⟨S1, ⟨rfl, hs⟩, hR⟩ := hp52
      rw [hs] at hR
      clear hs
      refine zif_eq_t (tgt := 68) C dX8_law_55 (by decide) (by decide) ?_
      refine zconst (v := 0) C dX8_law_68 (by decide) ?_
      exact zend_i C hE dX8_law_69 (by omega) (by omega) ⟨_, by simp [o_law, okc, rng, zsA_g, zsN_g, zsN_2, zsA_1, zsA_c, zsA_l, zsL_g, zsL_1, zsL_c, zsL_a, lawOf, h7, h35], hR⟩
  · replace h7 := b2i_n0.mp h7
    refine ziload_n C dX8_law_10 rfl ?_
    refine zconst (v := 0) C dX8_law_11 (by decide) ?_
    refine zaload_n C dX8_law_12 rfl ?_
    refine zmgi C hR hf_X8_154 rfl dX8_law_13 ?_
    refine zcallS C (m_in d 0 (nI (S.1 1))) hy_X8_in hst_X8_in hl_X8_137 rfl rfl (by decide) (by decide) (by omega) (by omega) rfl (by exact Nat.le_of_ble_eq_true rfl) dX8_law_16 (fun v16 M hp16 => ?_)
    obtain ⟨rfl, rfl⟩ := hp16
    refine zif_eq (tgt := 26) C dX8_law_19 (by decide) (fun h19 => ?_) (fun h19 => ?_)
    · replace h19 := b2i_0.mp h19
      refine zconst (v := 0) C dX8_law_26 (by decide) ?_
      refine zistore (L1 := [_, _, _, _, _]) C dX8_law_27 rfl (Nat.le_of_ble_eq_true rfl) ?_
      refine zaload_n C dX8_law_29 rfl ?_
      refine zaload_n C dX8_law_30 rfl ?_
      refine ziload_n C dX8_law_31 rfl ?_
      refine zcallV C (m_isCourt c (by omega) M hR) hy_X8_isCourt hv_X8_isCourt hl_X8_174 hR.1 rfl rfl rfl rfl (by decide) (by decide) (by omega) (by omega) rfl (by exact Nat.le_of_ble_eq_true rfl) dX8_law_32 (fun v32 M hp32 => ?_)
      obtain ⟨S1, ⟨rfl, hs⟩, hR⟩ := hp32
      rw [hs] at hR
      clear hs
      refine zif_ne (tgt := 42) C dX8_law_35 (by decide) (fun h35 => ?_) (fun h35 => ?_)
      · replace h35 := b2i_n0.mp h35
        refine ziload C dX8_law_42 rfl ?_
        refine zif_eq_t (tgt := 51) C dX8_law_44 (by decide) (by decide) ?_
        refine zconst (v := 2) C dX8_law_51 (by decide) ?_
        refine zcallV C (m_holds 2 (by decide) M hR) hy_X8_holds hv_X8_holds hl_X8_157 hR.1 rfl rfl rfl rfl (by decide) (by decide) (by omega) (by omega) rfl (by exact Nat.le_of_ble_eq_true rfl) dX8_law_52 (fun v52 M hp52 => ?_)
        obtain ⟨S1, ⟨rfl, hs⟩, hR⟩ := hp52
        rw [hs] at hR
        clear hs
        refine zif_eq_t (tgt := 68) C dX8_law_55 (by decide) (by decide) ?_
        refine zconst (v := 0) C dX8_law_68 (by decide) ?_
        exact zend_i C hE dX8_law_69 (by omega) (by omega) ⟨_, by simp [o_law, okc, rng, zsA_g, zsN_g, zsN_2, zsA_1, zsA_c, zsA_l, zsL_g, zsL_1, zsL_c, zsL_a, lawOf, h7, h19, h35], hR⟩
      · replace h35 := b2i_0.mp h35
        refine zconst (v := 1) C dX8_law_38 (by decide) ?_
        refine zgoto (tgt := 52) C dX8_law_39 (by decide) ?_
        refine zcallV C (m_holds 1 (by decide) M hR) hy_X8_holds hv_X8_holds hl_X8_157 hR.1 rfl rfl rfl rfl (by decide) (by decide) (by omega) (by omega) rfl (by exact Nat.le_of_ble_eq_true rfl) dX8_law_52 (fun v52 M hp52 => ?_)
        obtain ⟨S1, ⟨rfl, hs⟩, hR⟩ := hp52
        rw [hs] at hR
        clear hs
        refine zif_eq_t (tgt := 68) C dX8_law_55 (by decide) (by decide) ?_
        refine zconst (v := 0) C dX8_law_68 (by decide) ?_
        exact zend_i C hE dX8_law_69 (by omega) (by omega) ⟨_, by simp [o_law, okc, rng, zsA_g, zsN_g, zsN_2, zsA_1, zsA_c, zsA_l, zsL_g, zsL_1, zsL_c, zsL_a, lawOf, h7, h19, h35], hR⟩
    · replace h19 := b2i_n0.mp h19
      refine zconst (v := 1) C dX8_law_22 (by decide) ?_
      refine zgoto (tgt := 27) C dX8_law_23 (by decide) ?_
      refine zistore (L1 := [_, _, _, _, _]) C dX8_law_27 rfl (Nat.le_of_ble_eq_true rfl) ?_
      refine zaload_n C dX8_law_29 rfl ?_
      refine zaload_n C dX8_law_30 rfl ?_
      refine ziload_n C dX8_law_31 rfl ?_
      refine zcallV C (m_isCourt c (by omega) M hR) hy_X8_isCourt hv_X8_isCourt hl_X8_174 hR.1 rfl rfl rfl rfl (by decide) (by decide) (by omega) (by omega) rfl (by exact Nat.le_of_ble_eq_true rfl) dX8_law_32 (fun v32 M hp32 => ?_)
      obtain ⟨S1, ⟨rfl, hs⟩, hR⟩ := hp32
      rw [hs] at hR
      clear hs
      refine zif_ne (tgt := 42) C dX8_law_35 (by decide) (fun h35 => ?_) (fun h35 => ?_)
      · replace h35 := b2i_n0.mp h35
        refine ziload C dX8_law_42 rfl ?_
        refine zif_eq_f (tgt := 51) C dX8_law_44 (by decide) (by decide) ?_
        refine zconst (v := 0) C dX8_law_47 (by decide) ?_
        refine zgoto (tgt := 52) C dX8_law_48 (by decide) ?_
        refine zcallV C (m_holds 0 (by decide) M hR) hy_X8_holds hv_X8_holds hl_X8_157 hR.1 rfl rfl rfl rfl (by decide) (by decide) (by omega) (by omega) rfl (by exact Nat.le_of_ble_eq_true rfl) dX8_law_52 (fun v52 M hp52 => ?_)
        obtain ⟨S1, ⟨rfl, hs⟩, hR⟩ := hp52
        rw [hs] at hR
        clear hs
        refine zif_eq_f (tgt := 68) C dX8_law_55 (by decide) (by decide) ?_
        refine zaload_n C dX8_law_58 rfl ?_
        refine ziload_n C dX8_law_59 rfl ?_
        refine ziload_n C dX8_law_60 rfl ?_
        refine ziload_n C dX8_law_61 rfl ?_
        refine zcallV C (m_lawOf (S := th S 0) c w d hb4 M hR) hy_X8_lawOf hv_X8_lawOf hl_X8_177 hR.1 rfl rfl rfl rfl (by decide) (by decide) (by omega) (by omega) rfl (by exact Nat.le_of_ble_eq_true rfl) dX8_law_62 (fun v62 M hp62 => ?_)
        obtain ⟨S1, ⟨rfl, hs⟩, hR⟩ := hp62
        rw [hs] at hR
        clear hs
        refine zgoto (tgt := 69) C dX8_law_65 (by decide) ?_
        exact zend_i C hE dX8_law_69 (by omega) (by omega) ⟨_, by simp [o_law, okc, rng, zsA_g, zsN_g, zsN_2, zsA_1, zsA_c, zsA_l, zsL_g, zsL_1, zsL_c, zsL_a, lawOf, h7, h19, h35], hR⟩
      · replace h35 := b2i_0.mp h35
        refine zconst (v := 1) C dX8_law_38 (by decide) ?_
        refine zgoto (tgt := 52) C dX8_law_39 (by decide) ?_
        refine zcallV C (m_holds 1 (by decide) M hR) hy_X8_holds hv_X8_holds hl_X8_157 hR.1 rfl rfl rfl rfl (by decide) (by decide) (by omega) (by omega) rfl (by exact Nat.le_of_ble_eq_true rfl) dX8_law_52 (fun v52 M hp52 => ?_)
        obtain ⟨S1, ⟨rfl, hs⟩, hR⟩ := hp52
        rw [hs] at hR
        clear hs
        refine zif_eq_t (tgt := 68) C dX8_law_55 (by decide) (by decide) ?_
        refine zconst (v := 0) C dX8_law_68 (by decide) ?_
        exact zend_i C hE dX8_law_69 (by omega) (by omega) ⟨_, by simp [o_law, okc, rng, zsA_g, zsN_g, zsN_2, zsA_1, zsA_c, zsA_l, zsL_g, zsL_1, zsL_c, zsL_a, lawOf, h7, h19, h35], hR⟩
