theorem canMarry_30 {S : zS} {h w : Nat} (e : canMarry S h w = true) : S.1 25 ≠ 30 := by
  unfold canMarry at e
  simp only [Bool.and_eq_true, decide_eq_true_eq] at e
  exact e.2.2.1
set_option maxRecDepth 100000 in
set_option maxHeartbeats 1000000 in
theorem m_courtOn {g : zGh} {M0 : zM} {mo : Nat} {ad : Nat → Nat} {S : zS} (m : Int32) (p q d : Nat) (h9 : S.1 9 ≤ 40) (hd : d ≤ 30000) (hp : p < 40) (hq : q < 40) (tp : iT S p) (tq : iT S q) (fp : ∃ c, c < 6 ∧ faithAt S p (nI d) = nI c) (fq : ∃ c, c < 6 ∧ faithAt S q (nI d) = nI c) : zMc g M0 mo ad yX8_courtOn cX8_courtOn 9 (some .int) 1 24 mkI [.int m, .int (nI p), .int (nI q), .int (nI d)] S (fun v S1 => v = courtOn S m p q d ∧ S1 = S) := by
  intro M hR
  refine zof [some (.ref mo), some (.int m), some (.int (nI p)), some (.int (nI q)), some (.int (nI d)), none, none, none, none] (by decide +kernel) rfl rfl (Nat.le_of_ble_eq_true rfl) ?_
  intro X C hE hnm
  have C : zC g X RX8 cX8_courtOn 9 1 24 0 0 := C
  refine zaload_n C dX8_courtOn_0 rfl ?_
  refine ziload_n C dX8_courtOn_1 rfl ?_
  refine ziload C dX8_courtOn_2 rfl ?_
  refine zcallV C (m_ruleOn m (nI d) h9 M hR) hy_X8_ruleOn hv_X8_ruleOn hl_X8_184 hR.1 rfl rfl rfl rfl (by decide) (by decide) (by omega) (by omega) rfl (by exact Nat.le_of_ble_eq_true rfl) dX8_courtOn_4 (fun v4 M hp4 => ?_)
  obtain ⟨S1, ⟨rfl, hs⟩, hR⟩ := hp4
  rw [hs] at hR
  clear hs
  refine zistore (L1 := [_, _, _, _, _, _, _, _, _]) C dX8_courtOn_7 rfl (Nat.le_of_ble_eq_true rfl) ?_
  refine zaload_n C dX8_courtOn_9 rfl ?_
  refine ziload_n C dX8_courtOn_10 rfl ?_
  refine ziload C dX8_courtOn_11 rfl ?_
  refine zcallV C (m_faithAt p (nI d) hp tp M hR) hy_X8_faithOn hv_X8_faithOn hl_X8_188 hR.1 rfl rfl rfl rfl (by decide) (by decide) (by omega) (by omega) rfl (by exact Nat.le_of_ble_eq_true rfl) dX8_courtOn_13 (fun v13 M hp13 => ?_)
  obtain ⟨S1, ⟨rfl, hs⟩, hR⟩ := hp13
  rw [hs] at hR
  clear hs
  refine zistore (L1 := [_, _, _, _, _, _, _, _, _]) C dX8_courtOn_16 rfl (Nat.le_of_ble_eq_true rfl) ?_
  refine zaload_n C dX8_courtOn_18 rfl ?_
  refine ziload_n C dX8_courtOn_19 rfl ?_
  refine ziload C dX8_courtOn_20 rfl ?_
  refine zcallV C (m_faithAt q (nI d) hq tq M hR) hy_X8_faithOn hv_X8_faithOn hl_X8_188 hR.1 rfl rfl rfl rfl (by decide) (by decide) (by omega) (by omega) rfl (by exact Nat.le_of_ble_eq_true rfl) dX8_courtOn_22 (fun v22 M hp22 => ?_)
  obtain ⟨S1, ⟨rfl, hs⟩, hR⟩ := hp22
  rw [hs] at hR
  clear hs
  refine zistore (L1 := [_, _, _, _, _, _, _, _, _]) C dX8_courtOn_25 rfl (Nat.le_of_ble_eq_true rfl) ?_
  refine zjn 71 (fun x => x = courtF (ruleOn S m (nI d)) (faithAt S p (nI d)) (faithAt S q (nI d))) (fun J27_4 => ?_) (fun x27 hx27 => ?_)
  · refine ziload C dX8_courtOn_27 rfl ?_
    refine zconst (v := 3) C dX8_courtOn_29 (by decide) ?_
    refine zicmp_ne (tgt := 37) C dX8_courtOn_30 (by decide) (fun h30 => ?_) (fun h30 => ?_)
    · refine ziload C dX8_courtOn_37 rfl ?_
      refine zif_ne (tgt := 47) C dX8_courtOn_39 (by decide) (fun h39 => ?_) (fun h39 => ?_)
      · refine ziload C dX8_courtOn_47 rfl ?_
        refine zconst (v := 1) C dX8_courtOn_49 (by decide) ?_
        refine zicmp_ne (tgt := 58) C dX8_courtOn_50 (by decide) (fun h50 => ?_) (fun h50 => ?_)
        · refine ziload C dX8_courtOn_58 rfl ?_
          refine ziload C dX8_courtOn_60 rfl ?_
          refine zicmp_ne (tgt := 70) C dX8_courtOn_62 (by decide) (fun h62 => ?_) (fun h62 => ?_)
          · refine zconst (v := -1) C dX8_courtOn_70 (by decide) ?_
            exact J27_4 _ (by simp [courtF, h30, h39, h50, h62])
          · refine ziload C dX8_courtOn_65 rfl ?_
            refine zgoto (tgt := 71) C dX8_courtOn_67 (by decide) ?_
            exact J27_4 _ (by simp [courtF, h30, h39, h50, h62])
        · refine ziload C dX8_courtOn_53 rfl ?_
          refine zgoto (tgt := 71) C dX8_courtOn_55 (by decide) ?_
          exact J27_4 _ (by simp [courtF, h30, h39, h50])
      · refine ziload C dX8_courtOn_42 rfl ?_
        refine zgoto (tgt := 71) C dX8_courtOn_44 (by decide) ?_
        exact J27_4 _ (by simp [courtF, h30, h39])
    · refine zconst (v := -1) C dX8_courtOn_33 (by decide) ?_
      refine zgoto (tgt := 71) C dX8_courtOn_34 (by decide) ?_
      exact J27_4 _ (by simp [courtF, h30])
  · subst hx27
    refine zistore (L1 := [_, _, _, _, _, _, _, _, _]) C dX8_courtOn_71 rfl (Nat.le_of_ble_eq_true rfl) ?_
    refine ziload C dX8_courtOn_73 rfl ?_
    refine zconst (v := -1) C dX8_courtOn_75 (by decide) ?_
    refine zicmp_eq (tgt := 95) C dX8_courtOn_76 (by decide) (fun h76 => ?_) (fun h76 => ?_)
    · refine zconst (v := -1) C dX8_courtOn_95 (by decide) ?_
      exact zend_i C hE dX8_courtOn_96 (by omega) (by omega) ⟨_, ⟨by unfold courtOn courtC; simp_all, rfl⟩, hR⟩
    · obtain ⟨fc, hfc, ef⟩ := courtF_c h76 fp fq
      have efc := nI_clamp (show fc < 2 ^ 31 by omega)
      rw [ef]
      refine zaload_n C dX8_courtOn_79 rfl ?_
      refine ziload C dX8_courtOn_80 rfl ?_
      refine ziload C dX8_courtOn_82 rfl ?_
      refine zcallV C (m_isRecognised fc d hfc hd M hR) hy_X8_isRecognised hv_X8_isRecognised hl_X8_164 hR.1 rfl rfl rfl rfl (by decide) (by decide) (by omega) (by omega) rfl (by exact Nat.le_of_ble_eq_true rfl) dX8_courtOn_84 (fun v84 M hp84 => ?_)
      obtain ⟨S1, ⟨rfl, hs⟩, hR⟩ := hp84
      rw [hs] at hR
      clear hs
      refine zif_eq (tgt := 95) C dX8_courtOn_87 (by decide) (fun h87 => ?_) (fun h87 => ?_)
      · replace h87 := b2i_0.mp h87
        refine zconst (v := -1) C dX8_courtOn_95 (by decide) ?_
        exact zend_i C hE dX8_courtOn_96 (by omega) (by omega) ⟨_, ⟨by unfold courtOn courtC; rw [if_neg h76, ef, efc]; simp [h87], rfl⟩, hR⟩
      · replace h87 := b2i_n0.mp h87
        refine ziload C dX8_courtOn_90 rfl ?_
        refine zgoto (tgt := 96) C dX8_courtOn_92 (by decide) ?_
        exact zend_i C hE dX8_courtOn_96 (by omega) (by omega) ⟨_, ⟨by unfold courtOn courtC; rw [if_neg h76, ef, efc]; simp [h87], rfl⟩, hR⟩
set_option maxRecDepth 100000 in
set_option maxHeartbeats 1000000 in
theorem m_court {g : zGh} {M0 : zM} {mo : Nat} {ad : Nat → Nat} {S : zS} (m p q d : Int32) (hi : iB S) (hP : iPs S) : zMc g M0 mo ad yX8_court cX8_court 7 (some .int) 2 52 mkI [.int m, .int p, .int q, .int d] S (fun v S1 => (S1, v) = o_court S m p q d) := by
  intro M hR
  refine zof [some (.ref mo), some (.int m), some (.int p), some (.int q), some (.int d), none, none] (by decide +kernel) rfl rfl (Nat.le_of_ble_eq_true rfl) ?_
  intro X C hE hnm
  have C : zC g X RX8 cX8_court 7 2 52 0 0 := C
  obtain ⟨hb1, hb2, hb4, hb9, hb13, hb25, hb33⟩ := id hi
  refine zaload_n C dX8_court_0 rfl ?_
  refine ziload_n C dX8_court_1 rfl ?_
  refine zcallV C (m_isPerson p (by omega) M hR) hy_X8_isPerson hv_X8_isPerson hl_X8_191 hR.1 rfl rfl rfl rfl (by decide) (by decide) (by omega) (by omega) rfl (by exact Nat.le_of_ble_eq_true rfl) dX8_court_2 (fun v2 M hp2 => ?_)
  obtain ⟨S1, ⟨rfl, hs⟩, hR⟩ := hp2
  rw [hs] at hR
  clear hs
  refine zif_eq (tgt := 20) C dX8_court_5 (by decide) (fun h5 => ?_) (fun h5 => ?_)
  · replace h5 := b2i_0.mp h5
    refine zconst (v := 0) C dX8_court_20 (by decide) ?_
    refine zistore (L1 := [_, _, _, _, _, _, _]) C dX8_court_21 rfl (Nat.le_of_ble_eq_true rfl) ?_
    refine ziload C dX8_court_23 rfl ?_
    refine zif_eq_t (tgt := 77) C dX8_court_25 (by decide) (by decide) ?_
    refine zconst (v := 0) C dX8_court_77 (by decide) ?_
    refine zistore (L1 := [_, _, _, _, _, _, _]) C dX8_court_78 rfl (Nat.le_of_ble_eq_true rfl) ?_
    refine zaload_n C dX8_court_80 rfl ?_
    refine ziload C dX8_court_81 rfl ?_
    refine zif_ne_f (tgt := 90) C dX8_court_83 (by decide) (by decide) ?_
    refine zconst (v := 1) C dX8_court_86 (by decide) ?_
    refine zgoto (tgt := 100) C dX8_court_87 (by decide) ?_
    refine zcallV C (m_holds 1 (by decide) M hR) hy_X8_holds hv_X8_holds hl_X8_157 hR.1 rfl rfl rfl rfl (by decide) (by decide) (by omega) (by omega) rfl (by exact Nat.le_of_ble_eq_true rfl) dX8_court_100 (fun v100 M hp100 => ?_)
    obtain ⟨S1, ⟨rfl, hs⟩, hR⟩ := hp100
    rw [hs] at hR
    clear hs
    refine zif_eq_t (tgt := 118) C dX8_court_103 (by decide) (by decide) ?_
    refine zconst (v := 0) C dX8_court_118 (by decide) ?_
    exact zend_i C hE dX8_court_119 (by omega) (by omega) ⟨_, by simp [o_court, rng, zsA_g, zsN_g, zsN_2, zsA_1, zsA_c, zsA_l, zsL_g, zsL_1, zsL_c, zsL_a, courtOn_th, faithAt_th, lawOf_th, ruleOn_th, isGrown_th, canWit_th, lasting_th, isMinor_th, h5], hR⟩
  · replace h5 := b2i_n0.mp h5
    obtain ⟨pn, hpn, rfl⟩ := zix_of h5 (by omega)
    have epn := nI_clamp (show pn < 2 ^ 31 by omega)
    refine zaload_n C dX8_court_8 rfl ?_
    refine ziload_n C dX8_court_9 rfl ?_
    refine zcallV C (m_isPerson q (by omega) M hR) hy_X8_isPerson hv_X8_isPerson hl_X8_191 hR.1 rfl rfl rfl rfl (by decide) (by decide) (by omega) (by omega) rfl (by exact Nat.le_of_ble_eq_true rfl) dX8_court_10 (fun v10 M hp10 => ?_)
    obtain ⟨S1, ⟨rfl, hs⟩, hR⟩ := hp10
    rw [hs] at hR
    clear hs
    refine zif_eq (tgt := 20) C dX8_court_13 (by decide) (fun h13 => ?_) (fun h13 => ?_)
    · replace h13 := b2i_0.mp h13
      refine zconst (v := 0) C dX8_court_20 (by decide) ?_
      refine zistore (L1 := [_, _, _, _, _, _, _]) C dX8_court_21 rfl (Nat.le_of_ble_eq_true rfl) ?_
      refine ziload C dX8_court_23 rfl ?_
      refine zif_eq_t (tgt := 77) C dX8_court_25 (by decide) (by decide) ?_
      refine zconst (v := 0) C dX8_court_77 (by decide) ?_
      refine zistore (L1 := [_, _, _, _, _, _, _]) C dX8_court_78 rfl (Nat.le_of_ble_eq_true rfl) ?_
      refine zaload_n C dX8_court_80 rfl ?_
      refine ziload C dX8_court_81 rfl ?_
      refine zif_ne_f (tgt := 90) C dX8_court_83 (by decide) (by decide) ?_
      refine zconst (v := 1) C dX8_court_86 (by decide) ?_
      refine zgoto (tgt := 100) C dX8_court_87 (by decide) ?_
      refine zcallV C (m_holds 1 (by decide) M hR) hy_X8_holds hv_X8_holds hl_X8_157 hR.1 rfl rfl rfl rfl (by decide) (by decide) (by omega) (by omega) rfl (by exact Nat.le_of_ble_eq_true rfl) dX8_court_100 (fun v100 M hp100 => ?_)
      obtain ⟨S1, ⟨rfl, hs⟩, hR⟩ := hp100
      rw [hs] at hR
      clear hs
      refine zif_eq_t (tgt := 118) C dX8_court_103 (by decide) (by decide) ?_
      refine zconst (v := 0) C dX8_court_118 (by decide) ?_
      exact zend_i C hE dX8_court_119 (by omega) (by omega) ⟨_, by simp [o_court, rng, zsA_g, zsN_g, zsN_2, zsA_1, zsA_c, zsA_l, zsL_g, zsL_1, zsL_c, zsL_a, courtOn_th, faithAt_th, lawOf_th, ruleOn_th, isGrown_th, canWit_th, lasting_th, isMinor_th, h5, epn, h13], hR⟩
    · replace h13 := b2i_n0.mp h13
      obtain ⟨qn, hqn, rfl⟩ := zix_of h13 (by omega)
      have eqn := nI_clamp (show qn < 2 ^ 31 by omega)
      refine zconst (v := 1) C dX8_court_16 (by decide) ?_
      refine zgoto (tgt := 21) C dX8_court_17 (by decide) ?_
      refine zistore (L1 := [_, _, _, _, _, _, _]) C dX8_court_21 rfl (Nat.le_of_ble_eq_true rfl) ?_
      refine ziload C dX8_court_23 rfl ?_
      refine zif_eq_f (tgt := 77) C dX8_court_25 (by decide) (by decide) ?_
      refine ziload_n C dX8_court_28 rfl ?_
      refine zconst (v := 0) C dX8_court_29 (by decide) ?_
      refine zconst (v := 3) C dX8_court_30 (by decide) ?_
      refine zcallS C (m_in m 0 3) hy_X8_in hst_X8_in hl_X8_137 rfl rfl (by decide) (by decide) (by omega) (by omega) rfl (by exact Nat.le_of_ble_eq_true rfl) dX8_court_31 (fun v31 M hp31 => ?_)
      obtain ⟨rfl, rfl⟩ := hp31
      refine zif_eq (tgt := 77) C dX8_court_34 (by decide) (fun h34 => ?_) (fun h34 => ?_)
      · replace h34 := b2i_0.mp h34
        refine zconst (v := 0) C dX8_court_77 (by decide) ?_
        refine zistore (L1 := [_, _, _, _, _, _, _]) C dX8_court_78 rfl (Nat.le_of_ble_eq_true rfl) ?_
        refine zaload_n C dX8_court_80 rfl ?_
        refine ziload C dX8_court_81 rfl ?_
        refine zif_ne_t (tgt := 90) C dX8_court_83 (by decide) (by decide) ?_
        refine ziload C dX8_court_90 rfl ?_
        refine zif_eq_t (tgt := 99) C dX8_court_92 (by decide) (by decide) ?_
        refine zconst (v := 2) C dX8_court_99 (by decide) ?_
        refine zcallV C (m_holds 2 (by decide) M hR) hy_X8_holds hv_X8_holds hl_X8_157 hR.1 rfl rfl rfl rfl (by decide) (by decide) (by omega) (by omega) rfl (by exact Nat.le_of_ble_eq_true rfl) dX8_court_100 (fun v100 M hp100 => ?_)
        obtain ⟨S1, ⟨rfl, hs⟩, hR⟩ := hp100
        rw [hs] at hR
        clear hs
        refine zif_eq_t (tgt := 118) C dX8_court_103 (by decide) (by decide) ?_
        refine zconst (v := 0) C dX8_court_118 (by decide) ?_
        exact zend_i C hE dX8_court_119 (by omega) (by omega) ⟨_, by simp [o_court, rng, zsA_g, zsN_g, zsN_2, zsA_1, zsA_c, zsA_l, zsL_g, zsL_1, zsL_c, zsL_a, courtOn_th, faithAt_th, lawOf_th, ruleOn_th, isGrown_th, canWit_th, lasting_th, isMinor_th, h5, epn, h13, eqn, h34], hR⟩
      · replace h34 := b2i_n0.mp h34
        refine ziload C dX8_court_37 rfl ?_
        refine zaload_n C dX8_court_39 rfl ?_
        refine zmga C hR hf_X8_44 rfl dX8_court_40 ?_
        refine ziload_n C dX8_court_43 rfl ?_
        refine zmia C hR rfl rfl rfl (show _ < 40 from by omega) dX8_court_44 ?_
        refine zaload_n C dX8_court_45 rfl ?_
        refine zmgi C hR hf_X8_154 rfl dX8_court_46 ?_
        refine zcallS C (m_in d (S.2.2.1 17 pn) (nI (S.1 1))) hy_X8_in hst_X8_in hl_X8_137 rfl rfl (by decide) (by decide) (by omega) (by omega) rfl (by exact Nat.le_of_ble_eq_true rfl) dX8_court_49 (fun v49 M hp49 => ?_)
        obtain ⟨rfl, rfl⟩ := hp49
        refine zif_eq (tgt := 77) C dX8_court_52 (by decide) (fun h52 => ?_) (fun h52 => ?_)
        · replace h52 := b2i_0.mp h52
          refine zconst (v := 0) C dX8_court_77 (by decide) ?_
          refine zistore (L1 := [_, _, _, _, _, _, _]) C dX8_court_78 rfl (Nat.le_of_ble_eq_true rfl) ?_
          refine zaload_n C dX8_court_80 rfl ?_
          refine ziload C dX8_court_81 rfl ?_
          refine zif_ne_t (tgt := 90) C dX8_court_83 (by decide) (by decide) ?_
          refine ziload C dX8_court_90 rfl ?_
          refine zif_eq_t (tgt := 99) C dX8_court_92 (by decide) (by decide) ?_
          refine zconst (v := 2) C dX8_court_99 (by decide) ?_
          refine zcallV C (m_holds 2 (by decide) M hR) hy_X8_holds hv_X8_holds hl_X8_157 hR.1 rfl rfl rfl rfl (by decide) (by decide) (by omega) (by omega) rfl (by exact Nat.le_of_ble_eq_true rfl) dX8_court_100 (fun v100 M hp100 => ?_)
          obtain ⟨S1, ⟨rfl, hs⟩, hR⟩ := hp100
          rw [hs] at hR
          clear hs
          refine zif_eq_t (tgt := 118) C dX8_court_103 (by decide) (by decide) ?_
          refine zconst (v := 0) C dX8_court_118 (by decide) ?_
          exact zend_i C hE dX8_court_119 (by omega) (by omega) ⟨_, by simp [o_court, rng, zsA_g, zsN_g, zsN_2, zsA_1, zsA_c, zsA_l, zsL_g, zsL_1, zsL_c, zsL_a, courtOn_th, faithAt_th, lawOf_th, ruleOn_th, isGrown_th, canWit_th, lasting_th, isMinor_th, h5, epn, h13, eqn, h34, h52], hR⟩
        · replace h52 := b2i_n0.mp h52
          obtain ⟨b, hb, eb⟩ := (hP pn hpn).2.1
          obtain ⟨dn, hdn1, hdn2, rfl⟩ := rng_nI (b := b) (t := S.1 1) (by rw [eb] at h52; exact h52) (by omega) (by omega)
          have edn := nI_clamp (show dn < 2 ^ 31 by omega)
          refine ziload C dX8_court_55 rfl ?_
          refine zaload_n C dX8_court_57 rfl ?_
          refine zmga C hR hf_X8_44 rfl dX8_court_58 ?_
          refine ziload_n C dX8_court_61 rfl ?_
          refine zmia C hR rfl rfl rfl (show _ < 40 from by omega) dX8_court_62 ?_
          refine zaload_n C dX8_court_63 rfl ?_
          refine zmgi C hR hf_X8_154 rfl dX8_court_64 ?_
          refine zcallS C (m_in (nI dn) (S.2.2.1 17 qn) (nI (S.1 1))) hy_X8_in hst_X8_in hl_X8_137 rfl rfl (by decide) (by decide) (by omega) (by omega) rfl (by exact Nat.le_of_ble_eq_true rfl) dX8_court_67 (fun v67 M hp67 => ?_)
          obtain ⟨rfl, rfl⟩ := hp67
          refine zif_eq (tgt := 77) C dX8_court_70 (by decide) (fun h70 => ?_) (fun h70 => ?_)
          · replace h70 := b2i_0.mp h70
            refine zconst (v := 0) C dX8_court_77 (by decide) ?_
            refine zistore (L1 := [_, _, _, _, _, _, _]) C dX8_court_78 rfl (Nat.le_of_ble_eq_true rfl) ?_
            refine zaload_n C dX8_court_80 rfl ?_
            refine ziload C dX8_court_81 rfl ?_
            refine zif_ne_t (tgt := 90) C dX8_court_83 (by decide) (by decide) ?_
            refine ziload C dX8_court_90 rfl ?_
            refine zif_eq_t (tgt := 99) C dX8_court_92 (by decide) (by decide) ?_
            refine zconst (v := 2) C dX8_court_99 (by decide) ?_
            refine zcallV C (m_holds 2 (by decide) M hR) hy_X8_holds hv_X8_holds hl_X8_157 hR.1 rfl rfl rfl rfl (by decide) (by decide) (by omega) (by omega) rfl (by exact Nat.le_of_ble_eq_true rfl) dX8_court_100 (fun v100 M hp100 => ?_)
            obtain ⟨S1, ⟨rfl, hs⟩, hR⟩ := hp100
            rw [hs] at hR
            clear hs
            refine zif_eq_t (tgt := 118) C dX8_court_103 (by decide) (by decide) ?_
            refine zconst (v := 0) C dX8_court_118 (by decide) ?_
            exact zend_i C hE dX8_court_119 (by omega) (by omega) ⟨_, by simp [o_court, rng, zsA_g, zsN_g, zsN_2, zsA_1, zsA_c, zsA_l, zsL_g, zsL_1, zsL_c, zsL_a, courtOn_th, faithAt_th, lawOf_th, ruleOn_th, isGrown_th, canWit_th, lasting_th, isMinor_th, h5, epn, h13, eqn, h34, h52, edn, h70], hR⟩
          · replace h70 := b2i_n0.mp h70
            refine zconst (v := 1) C dX8_court_73 (by decide) ?_
            refine zgoto (tgt := 78) C dX8_court_74 (by decide) ?_
            refine zistore (L1 := [_, _, _, _, _, _, _]) C dX8_court_78 rfl (Nat.le_of_ble_eq_true rfl) ?_
            refine zaload_n C dX8_court_80 rfl ?_
            refine ziload C dX8_court_81 rfl ?_
            refine zif_ne_t (tgt := 90) C dX8_court_83 (by decide) (by decide) ?_
            refine ziload C dX8_court_90 rfl ?_
            refine zif_eq_f (tgt := 99) C dX8_court_92 (by decide) (by decide) ?_
            refine zconst (v := 0) C dX8_court_95 (by decide) ?_
            refine zgoto (tgt := 100) C dX8_court_96 (by decide) ?_
            refine zcallV C (m_holds 0 (by decide) M hR) hy_X8_holds hv_X8_holds hl_X8_157 hR.1 rfl rfl rfl rfl (by decide) (by decide) (by omega) (by omega) rfl (by exact Nat.le_of_ble_eq_true rfl) dX8_court_100 (fun v100 M hp100 => ?_)
            obtain ⟨S1, ⟨rfl, hs⟩, hR⟩ := hp100
            rw [hs] at hR
            clear hs
            refine zif_eq_f (tgt := 118) C dX8_court_103 (by decide) (by decide) ?_
            refine zaload_n C dX8_court_106 rfl ?_
            refine ziload_n C dX8_court_107 rfl ?_
            refine ziload_n C dX8_court_108 rfl ?_
            refine ziload_n C dX8_court_109 rfl ?_
            refine ziload C dX8_court_110 rfl ?_
            refine zcallV C (m_courtOn (S := th S 0) m pn qn dn hb9 (by omega) (by omega) (by omega) (hP pn hpn).1 (hP qn hqn).1 (by obtain ⟨c, h1, h2⟩ := (hP pn hpn).2.2 (nI dn); exact ⟨c, by omega, h2⟩) (by obtain ⟨c, h1, h2⟩ := (hP qn hqn).2.2 (nI dn); exact ⟨c, by omega, h2⟩) M hR) hy_X8_courtOn hv_X8_courtOn hl_X8_194 hR.1 rfl rfl rfl rfl (by decide) (by decide) (by omega) (by omega) rfl (by exact Nat.le_of_ble_eq_true rfl) dX8_court_112 (fun v112 M hp112 => ?_)
            obtain ⟨S1, ⟨rfl, hs⟩, hR⟩ := hp112
            rw [hs] at hR
            clear hs
            refine zgoto (tgt := 119) C dX8_court_115 (by decide) ?_
            exact zend_i C hE dX8_court_119 (by omega) (by omega) ⟨_, by simp [o_court, rng, zsA_g, zsN_g, zsN_2, zsA_1, zsA_c, zsA_l, zsL_g, zsL_1, zsL_c, zsL_a, courtOn_th, faithAt_th, lawOf_th, ruleOn_th, isGrown_th, canWit_th, lasting_th, isMinor_th, h5, epn, h13, eqn, h34, h52, edn, h70], hR⟩
set_option maxRecDepth 100000 in
set_option maxHeartbeats 1000000 in
theorem m_recant {g : zGh} {M0 : zM} {mo : Nat} {ad : Nat → Nat} {S : zS} (p : Int32) (hi : iB S) : zMc g M0 mo ad yX8_recant cX8_recant 4 (some .int) 2 43 mkI [.int p] S (fun v S1 => (S1, v) = o_recant S p) := by
  intro M hR
  refine zof [some (.ref mo), some (.int p), none, none] (by decide +kernel) rfl rfl (Nat.le_of_ble_eq_true rfl) ?_
  intro X C hE hnm
  have C : zC g X RX8 cX8_recant 4 2 43 0 0 := C
  obtain ⟨hb1, hb2, hb4, hb9, hb13, hb25, hb33⟩ := id hi
  refine zaload_n C dX8_recant_0 rfl ?_
  refine ziload_n C dX8_recant_1 rfl ?_
  refine zcallV C (m_isPerson p (by omega) M hR) hy_X8_isPerson hv_X8_isPerson hl_X8_191 hR.1 rfl rfl rfl rfl (by decide) (by decide) (by omega) (by omega) rfl (by exact Nat.le_of_ble_eq_true rfl) dX8_recant_2 (fun v2 M hp2 => ?_)
  obtain ⟨S1, ⟨rfl, hs⟩, hR⟩ := hp2
  rw [hs] at hR
  clear hs
  refine zistore_n (L1 := [_, _, _, _]) C dX8_recant_5 rfl (Nat.le_of_ble_eq_true rfl) ?_
  refine zaload_n C dX8_recant_6 rfl ?_
  refine ziload_n C dX8_recant_7 rfl ?_
  refine zif_ne (tgt := 15) C dX8_recant_8 (by decide) (fun h8 => ?_) (fun h8 => ?_)
  · replace h8 := b2i_n0.mp h8
    obtain ⟨pn, hpn, rfl⟩ := zix_of h8 (by omega)
    have epn := nI_clamp (show pn < 2 ^ 31 by omega)
    refine zaload_n C dX8_recant_15 rfl ?_
    refine zmga C hR hf_X8_61 rfl dX8_recant_16 ?_
    refine ziload_n C dX8_recant_19 rfl ?_
    refine zmia C hR rfl rfl rfl (show _ < 40 from by omega) dX8_recant_20 ?_
    refine zconst (v := -1) C dX8_recant_21 (by decide) ?_
    refine zicmp_ne (tgt := 29) C dX8_recant_22 (by decide) (fun h22 => ?_) (fun h22 => ?_)
    · refine zconst (v := 0) C dX8_recant_29 (by decide) ?_
      refine zcallV C (m_holds 0 (by decide) M hR) hy_X8_holds hv_X8_holds hl_X8_157 hR.1 rfl rfl rfl rfl (by decide) (by decide) (by omega) (by omega) rfl (by exact Nat.le_of_ble_eq_true rfl) dX8_recant_30 (fun v30 M hp30 => ?_)
      obtain ⟨S1, ⟨rfl, hs⟩, hR⟩ := hp30
      rw [hs] at hR
      clear hs
      refine zif_ne_t (tgt := 38) C dX8_recant_33 (by decide) (by decide) ?_
      refine zaload_n C dX8_recant_38 rfl ?_
      refine zmga C hR hf_X8_61 rfl dX8_recant_39 ?_
      refine ziload_n C dX8_recant_42 rfl ?_
      refine zmia C hR rfl rfl rfl (show _ < 40 from by omega) dX8_recant_43 ?_
      refine zistore_n (L1 := [_, _, _, _]) C dX8_recant_44 rfl (Nat.le_of_ble_eq_true rfl) ?_
      refine zaload_n C dX8_recant_45 rfl ?_
      refine ziload_n C dX8_recant_46 rfl ?_
      refine zcallV C (m_stays (S := th S 0) pn (by omega) M hR) hy_X8_stays hv_X8_stays hl_X8_211 hR.1 rfl rfl rfl rfl (by decide) (by decide) (by omega) (by omega) rfl (by exact Nat.le_of_ble_eq_true rfl) dX8_recant_47 (fun v47 M hp47 => ?_)
      obtain ⟨S1, hs, hR⟩ := hp47
      rw [hs] at hR
      clear hs
      refine ziload_n C dX8_recant_50 rfl ?_
      exact zend_i C hE dX8_recant_51 (by omega) (by omega) ⟨_, by simp [o_recant, zsA_g, zsN_g, zsN_2, zsA_1, zsA_c, zsA_l, zsL_g, zsL_1, zsL_c, zsL_a, h8, epn, h22], hR⟩
    · refine zconst (v := 2) C dX8_recant_25 (by decide) ?_
      refine zgoto (tgt := 30) C dX8_recant_26 (by decide) ?_
      refine zcallV C (m_holds 2 (by decide) M hR) hy_X8_holds hv_X8_holds hl_X8_157 hR.1 rfl rfl rfl rfl (by decide) (by decide) (by omega) (by omega) rfl (by exact Nat.le_of_ble_eq_true rfl) dX8_recant_30 (fun v30 M hp30 => ?_)
      obtain ⟨S1, ⟨rfl, hs⟩, hR⟩ := hp30
      rw [hs] at hR
      clear hs
      refine zif_ne_f (tgt := 38) C dX8_recant_33 (by decide) (by decide) ?_
      refine zconst (v := 0) C dX8_recant_36 (by decide) ?_
      exact zend_i C hE dX8_recant_37 (by omega) (by omega) ⟨_, by simp [o_recant, zsA_g, zsN_g, zsN_2, zsA_1, zsA_c, zsA_l, zsL_g, zsL_1, zsL_c, zsL_a, h8, epn, h22], hR⟩
  · replace h8 := b2i_0.mp h8
    refine zconst (v := 1) C dX8_recant_11 (by decide) ?_
    refine zgoto (tgt := 30) C dX8_recant_12 (by decide) ?_
    refine zcallV C (m_holds 1 (by decide) M hR) hy_X8_holds hv_X8_holds hl_X8_157 hR.1 rfl rfl rfl rfl (by decide) (by decide) (by omega) (by omega) rfl (by exact Nat.le_of_ble_eq_true rfl) dX8_recant_30 (fun v30 M hp30 => ?_)
    obtain ⟨S1, ⟨rfl, hs⟩, hR⟩ := hp30
    rw [hs] at hR
    clear hs
    refine zif_ne_f (tgt := 38) C dX8_recant_33 (by decide) (by decide) ?_
    refine zconst (v := 0) C dX8_recant_36 (by decide) ?_
    exact zend_i C hE dX8_recant_37 (by omega) (by omega) ⟨_, by simp [o_recant, zsA_g, zsN_g, zsN_2, zsA_1, zsA_c, zsA_l, zsL_g, zsL_1, zsL_c, zsL_a, h8], hR⟩
set_option maxRecDepth 100000 in
set_option maxHeartbeats 1000000 in
theorem m_faith {g : zGh} {M0 : zM} {mo : Nat} {ad : Nat → Nat} {S : zS} (p d : Int32) (hi : iB S) (hP : iPs S) : zMc g M0 mo ad yX8_faith cX8_faith 4 (some .int) 2 43 mkI [.int p, .int d] S (fun v S1 => (S1, v) = o_faith S p d) := by
  intro M hR
  refine zof [some (.ref mo), some (.int p), some (.int d), none] (by decide +kernel) rfl rfl (Nat.le_of_ble_eq_true rfl) ?_
  intro X C hE hnm
  have C : zC g X RX8 cX8_faith 4 2 43 0 0 := C
  obtain ⟨hb1, hb2, hb4, hb9, hb13, hb25, hb33⟩ := id hi
  refine zaload_n C dX8_faith_0 rfl ?_
  refine ziload_n C dX8_faith_1 rfl ?_
  refine zcallV C (m_isPerson p (by omega) M hR) hy_X8_isPerson hv_X8_isPerson hl_X8_191 hR.1 rfl rfl rfl rfl (by decide) (by decide) (by omega) (by omega) rfl (by exact Nat.le_of_ble_eq_true rfl) dX8_faith_2 (fun v2 M hp2 => ?_)
  obtain ⟨S1, ⟨rfl, hs⟩, hR⟩ := hp2
  rw [hs] at hR
  clear hs
  refine zistore_n (L1 := [_, _, _, _]) C dX8_faith_5 rfl (Nat.le_of_ble_eq_true rfl) ?_
  refine zaload_n C dX8_faith_6 rfl ?_
  refine ziload_n C dX8_faith_7 rfl ?_
  refine zif_ne (tgt := 15) C dX8_faith_8 (by decide) (fun h8 => ?_) (fun h8 => ?_)
  · replace h8 := b2i_n0.mp h8
    obtain ⟨pn, hpn, rfl⟩ := zix_of h8 (by omega)
    have epn := nI_clamp (show pn < 2 ^ 31 by omega)
    refine ziload_n C dX8_faith_15 rfl ?_
    refine zaload_n C dX8_faith_16 rfl ?_
    refine zmga C hR hf_X8_44 rfl dX8_faith_17 ?_
    refine ziload_n C dX8_faith_20 rfl ?_
    refine zmia C hR rfl rfl rfl (show _ < 40 from by omega) dX8_faith_21 ?_
    refine zaload_n C dX8_faith_22 rfl ?_
    refine zmgi C hR hf_X8_154 rfl dX8_faith_23 ?_
    refine zcallS C (m_in d (S.2.2.1 17 pn) (nI (S.1 1))) hy_X8_in hst_X8_in hl_X8_137 rfl rfl (by decide) (by decide) (by omega) (by omega) rfl (by exact Nat.le_of_ble_eq_true rfl) dX8_faith_26 (fun v26 M hp26 => ?_)
    obtain ⟨rfl, rfl⟩ := hp26
    refine zif_eq (tgt := 36) C dX8_faith_29 (by decide) (fun h29 => ?_) (fun h29 => ?_)
    · replace h29 := b2i_0.mp h29
      refine zconst (v := 2) C dX8_faith_36 (by decide) ?_
      refine zcallV C (m_holds 2 (by decide) M hR) hy_X8_holds hv_X8_holds hl_X8_157 hR.1 rfl rfl rfl rfl (by decide) (by decide) (by omega) (by omega) rfl (by exact Nat.le_of_ble_eq_true rfl) dX8_faith_37 (fun v37 M hp37 => ?_)
      obtain ⟨S1, ⟨rfl, hs⟩, hR⟩ := hp37
      rw [hs] at hR
      clear hs
      refine zif_eq_t (tgt := 52) C dX8_faith_40 (by decide) (by decide) ?_
      refine zconst (v := 0) C dX8_faith_52 (by decide) ?_
      exact zend_i C hE dX8_faith_53 (by omega) (by omega) ⟨_, by simp [o_faith, rng, zsA_g, zsN_g, zsN_2, zsA_1, zsA_c, zsA_l, zsL_g, zsL_1, zsL_c, zsL_a, courtOn_th, faithAt_th, lawOf_th, ruleOn_th, isGrown_th, canWit_th, lasting_th, isMinor_th, h8, epn, h29], hR⟩
    · replace h29 := b2i_n0.mp h29
      refine zconst (v := 0) C dX8_faith_32 (by decide) ?_
      refine zgoto (tgt := 37) C dX8_faith_33 (by decide) ?_
      refine zcallV C (m_holds 0 (by decide) M hR) hy_X8_holds hv_X8_holds hl_X8_157 hR.1 rfl rfl rfl rfl (by decide) (by decide) (by omega) (by omega) rfl (by exact Nat.le_of_ble_eq_true rfl) dX8_faith_37 (fun v37 M hp37 => ?_)
      obtain ⟨S1, ⟨rfl, hs⟩, hR⟩ := hp37
      rw [hs] at hR
      clear hs
      refine zif_eq_f (tgt := 52) C dX8_faith_40 (by decide) (by decide) ?_
      refine zaload_n C dX8_faith_43 rfl ?_
      refine ziload_n C dX8_faith_44 rfl ?_
      refine ziload_n C dX8_faith_45 rfl ?_
      refine zcallV C (m_faithAt (S := th S 0) pn d (by omega) (hP pn hpn).1 M hR) hy_X8_faithOn hv_X8_faithOn hl_X8_188 hR.1 rfl rfl rfl rfl (by decide) (by decide) (by omega) (by omega) rfl (by exact Nat.le_of_ble_eq_true rfl) dX8_faith_46 (fun v46 M hp46 => ?_)
      obtain ⟨S1, ⟨rfl, hs⟩, hR⟩ := hp46
      rw [hs] at hR
      clear hs
      refine zgoto (tgt := 53) C dX8_faith_49 (by decide) ?_
      exact zend_i C hE dX8_faith_53 (by omega) (by omega) ⟨_, by simp [o_faith, rng, zsA_g, zsN_g, zsN_2, zsA_1, zsA_c, zsA_l, zsL_g, zsL_1, zsL_c, zsL_a, courtOn_th, faithAt_th, lawOf_th, ruleOn_th, isGrown_th, canWit_th, lasting_th, isMinor_th, h8, epn, h29], hR⟩
  · replace h8 := b2i_0.mp h8
    refine zconst (v := 1) C dX8_faith_11 (by decide) ?_
    refine zgoto (tgt := 37) C dX8_faith_12 (by decide) ?_
    refine zcallV C (m_holds 1 (by decide) M hR) hy_X8_holds hv_X8_holds hl_X8_157 hR.1 rfl rfl rfl rfl (by decide) (by decide) (by omega) (by omega) rfl (by exact Nat.le_of_ble_eq_true rfl) dX8_faith_37 (fun v37 M hp37 => ?_)
    obtain ⟨S1, ⟨rfl, hs⟩, hR⟩ := hp37
    rw [hs] at hR
    clear hs
    refine zif_eq_t (tgt := 52) C dX8_faith_40 (by decide) (by decide) ?_
    refine zconst (v := 0) C dX8_faith_52 (by decide) ?_
    exact zend_i C hE dX8_faith_53 (by omega) (by omega) ⟨_, by simp [o_faith, rng, zsA_g, zsN_g, zsN_2, zsA_1, zsA_c, zsA_l, zsL_g, zsL_1, zsL_c, zsL_a, courtOn_th, faithAt_th, lawOf_th, ruleOn_th, isGrown_th, canWit_th, lasting_th, isMinor_th, h8], hR⟩
set_option maxRecDepth 100000 in
set_option maxHeartbeats 1000000 in
theorem m_canMarry {g : zGh} {M0 : zM} {mo : Nat} {ad : Nat → Nat} {S : zS} (h w : Nat) (hi : iB S) (hP : iPs S) (hh : h < S.1 13) (hw : w < S.1 13) : zMc g M0 mo ad yX8_canMarry cX8_canMarry 5 (some .boolean) 2 52 mkI [.int (nI h), .int (nI w)] S (fun v S1 => v = b2i (canMarry S h w) ∧ S1 = S) := by
  intro M hR
  refine zof [some (.ref mo), some (.int (nI h)), some (.int (nI w)), none, none] (by decide +kernel) rfl rfl (Nat.le_of_ble_eq_true rfl) ?_
  intro X C hE hnm
  have C : zC g X RX8 cX8_canMarry 5 2 52 0 0 := C
  obtain ⟨hb1, hb2, hb4, hb9, hb13, hb25, hb33⟩ := id hi
  refine zaload_n C dX8_canMarry_0 rfl ?_
  refine ziload_n C dX8_canMarry_1 rfl ?_
  refine zcallV C (m_isGrown h (by omega) M hR) hy_X8_isGrown hv_X8_isGrown hl_X8_205 hR.1 rfl rfl rfl rfl (by decide) (by decide) (by omega) (by omega) rfl (by exact Nat.le_of_ble_eq_true rfl) dX8_canMarry_2 (fun v2 M hp2 => ?_)
  obtain ⟨S1, ⟨rfl, hs⟩, hR⟩ := hp2
  rw [hs] at hR
  clear hs
  refine zif_eq (tgt := 25) C dX8_canMarry_5 (by decide) (fun h5 => ?_) (fun h5 => ?_)
  · replace h5 := b2i_0.mp h5
    refine zconst (v := 0) C dX8_canMarry_25 (by decide) ?_
    exact zend_z C hE dX8_canMarry_26 (by omega) (by omega) (by first | exact Or.inl rfl | exact Or.inr rfl | exact b2i_b _) ⟨_, ⟨by simp [canMarry, b2i, h5], rfl⟩, hR⟩
  · replace h5 := b2i_n0.mp h5
    refine zaload_n C dX8_canMarry_8 rfl ?_
    refine ziload_n C dX8_canMarry_9 rfl ?_
    refine zcallV C (m_isGrown w (by omega) M hR) hy_X8_isGrown hv_X8_isGrown hl_X8_205 hR.1 rfl rfl rfl rfl (by decide) (by decide) (by omega) (by omega) rfl (by exact Nat.le_of_ble_eq_true rfl) dX8_canMarry_10 (fun v10 M hp10 => ?_)
    obtain ⟨S1, ⟨rfl, hs⟩, hR⟩ := hp10
    rw [hs] at hR
    clear hs
    refine zif_eq (tgt := 25) C dX8_canMarry_13 (by decide) (fun h13 => ?_) (fun h13 => ?_)
    · replace h13 := b2i_0.mp h13
      refine zconst (v := 0) C dX8_canMarry_25 (by decide) ?_
      exact zend_z C hE dX8_canMarry_26 (by omega) (by omega) (by first | exact Or.inl rfl | exact Or.inr rfl | exact b2i_b _) ⟨_, ⟨by simp [canMarry, b2i, h5, h13], rfl⟩, hR⟩
    · replace h13 := b2i_n0.mp h13
      refine zaload_n C dX8_canMarry_16 rfl ?_
      refine zmgi C hR hf_X8_148 rfl dX8_canMarry_17 ?_
      refine zbipush (v := 30) C dX8_canMarry_20 (by decide) ?_
      refine zicmp_ne (tgt := 27) C dX8_canMarry_22 (by decide) (fun h22 => ?_) (fun h22 => ?_)
      · replace h22 := zni_n (b := 30) h22
        refine zaload_n C dX8_canMarry_27 rfl ?_
        refine zconst (v := 0) C dX8_canMarry_28 (by decide) ?_
        refine ziload_n C dX8_canMarry_29 rfl ?_
        refine ziload_n C dX8_canMarry_30 rfl ?_
        refine zaload_n C dX8_canMarry_31 rfl ?_
        refine zmgi C hR hf_X8_154 rfl dX8_canMarry_32 ?_
        refine zcallV C (m_courtOn 0 h w (S.1 1) hb9 hb1 (by omega) (by omega) (hP h hh).1 (hP w hw).1 (by obtain ⟨c, h1, h2⟩ := (hP h hh).2.2 (nI (S.1 1)); exact ⟨c, by omega, h2⟩) (by obtain ⟨c, h1, h2⟩ := (hP w hw).2.2 (nI (S.1 1)); exact ⟨c, by omega, h2⟩) M hR) hy_X8_courtOn hv_X8_courtOn hl_X8_194 hR.1 rfl rfl rfl rfl (by decide) (by decide) (by omega) (by omega) rfl (by exact Nat.le_of_ble_eq_true rfl) dX8_canMarry_35 (fun v35 M hp35 => ?_)
        obtain ⟨S1, ⟨rfl, hs⟩, hR⟩ := hp35
        rw [hs] at hR
        clear hs
        refine zistore_n (L1 := [_, _, _, _, _]) C dX8_canMarry_38 rfl (Nat.le_of_ble_eq_true rfl) ?_
        refine zaload_n C dX8_canMarry_39 rfl ?_
        refine ziload_n C dX8_canMarry_40 rfl ?_
        refine zaload_n C dX8_canMarry_41 rfl ?_
        refine zmgi C hR hf_X8_154 rfl dX8_canMarry_42 ?_
        refine zcallV C (m_faithAt h _ (by omega) (hP h hh).1 M hR) hy_X8_faithOn hv_X8_faithOn hl_X8_188 hR.1 rfl rfl rfl rfl (by decide) (by decide) (by omega) (by omega) rfl (by exact Nat.le_of_ble_eq_true rfl) dX8_canMarry_45 (fun v45 M hp45 => ?_)
        obtain ⟨S1, ⟨rfl, hs⟩, hR⟩ := hp45
        rw [hs] at hR
        clear hs
        refine zaload_n C dX8_canMarry_48 rfl ?_
        refine ziload_n C dX8_canMarry_49 rfl ?_
        refine zaload_n C dX8_canMarry_50 rfl ?_
        refine zmgi C hR hf_X8_154 rfl dX8_canMarry_51 ?_
        refine zcallV C (m_faithAt w _ (by omega) (hP w hw).1 M hR) hy_X8_faithOn hv_X8_faithOn hl_X8_188 hR.1 rfl rfl rfl rfl (by decide) (by decide) (by omega) (by omega) rfl (by exact Nat.le_of_ble_eq_true rfl) dX8_canMarry_54 (fun v54 M hp54 => ?_)
        obtain ⟨S1, ⟨rfl, hs⟩, hR⟩ := hp54
        rw [hs] at hR
        clear hs
        refine zicmp_ne (tgt := 64) C dX8_canMarry_57 (by decide) (fun h57 => ?_) (fun h57 => ?_)
        · refine zconst (v := 0) C dX8_canMarry_64 (by decide) ?_
          refine zistore (L1 := [_, _, _, _, _]) C dX8_canMarry_65 rfl (Nat.le_of_ble_eq_true rfl) ?_
          refine zaload_n C dX8_canMarry_67 rfl ?_
          refine ziload_n C dX8_canMarry_68 rfl ?_
          refine zcallV C (m_lasting (nI w) hb25 M hR) hy_X8_lasting hv_X8_lasting hl_X8_218 hR.1 rfl rfl rfl rfl (by decide) (by decide) (by omega) (by omega) rfl (by exact Nat.le_of_ble_eq_true rfl) dX8_canMarry_69 (fun v69 M hp69 => ?_)
          obtain ⟨S1, ⟨rfl, hs⟩, hR⟩ := hp69
          rw [hs] at hR
          clear hs
          refine zif_ne (tgt := 116) C dX8_canMarry_72 (by decide) (fun h72 => ?_) (fun h72 => ?_)
          · replace h72 := zni_n (b := 0) h72
            refine zconst (v := 0) C dX8_canMarry_116 (by decide) ?_
            exact zend_z C hE dX8_canMarry_117 (by omega) (by omega) (by first | exact Or.inl rfl | exact Or.inr rfl | exact b2i_b _) ⟨_, ⟨by simp [canMarry, b2i, h5, h13, h22, h57, h72], rfl⟩, hR⟩
          · replace h72 := zni_e (b := 0) (by have := lastL_le (S.2.2.1 26) (S.2.2.1 27) (S.2.2.1 28) (nI w) (S.1 25); unfold lasting; omega) (by decide) h72
            refine zaload_n C dX8_canMarry_75 rfl ?_
            refine ziload_n C dX8_canMarry_76 rfl ?_
            refine zcallV C (m_lasting (nI h) hb25 M hR) hy_X8_lasting hv_X8_lasting hl_X8_218 hR.1 rfl rfl rfl rfl (by decide) (by decide) (by omega) (by omega) rfl (by exact Nat.le_of_ble_eq_true rfl) dX8_canMarry_77 (fun v77 M hp77 => ?_)
            obtain ⟨S1, ⟨rfl, hs⟩, hR⟩ := hp77
            rw [hs] at hR
            clear hs
            refine zaload_n C dX8_canMarry_80 rfl ?_
            refine ziload_n C dX8_canMarry_81 rfl ?_
            refine zconst (v := 2) C dX8_canMarry_82 (by decide) ?_
            refine zaload_n C dX8_canMarry_83 rfl ?_
            refine zmgi C hR hf_X8_154 rfl dX8_canMarry_84 ?_
            refine zcallV C (m_lawOf _ 2 _ hb4 M hR) hy_X8_lawOf hv_X8_lawOf hl_X8_177 hR.1 rfl rfl rfl rfl (by decide) (by decide) (by omega) (by omega) rfl (by exact Nat.le_of_ble_eq_true rfl) dX8_canMarry_87 (fun v87 M hp87 => ?_)
            obtain ⟨S1, ⟨rfl, hs⟩, hR⟩ := hp87
            rw [hs] at hR
            clear hs
            refine zicmp_ge (tgt := 116) C dX8_canMarry_90 (by decide) (fun h90 => ?_) (fun h90 => ?_)
            · replace h90 := zlt_f h90
              refine zconst (v := 0) C dX8_canMarry_116 (by decide) ?_
              exact zend_z C hE dX8_canMarry_117 (by omega) (by omega) (by first | exact Or.inl rfl | exact Or.inr rfl | exact b2i_b _) ⟨_, ⟨by simp [canMarry, b2i, h5, h13, h22, h57, h72, h90], rfl⟩, hR⟩
            · replace h90 := zlt_t h90
              refine ziload C dX8_canMarry_93 rfl ?_
              refine zif_ne_f (tgt := 112) C dX8_canMarry_95 (by decide) (by decide) ?_
              refine zaload_n C dX8_canMarry_98 rfl ?_
              refine ziload_n C dX8_canMarry_99 rfl ?_
              refine zconst (v := 4) C dX8_canMarry_100 (by decide) ?_
              refine zaload_n C dX8_canMarry_101 rfl ?_
              refine zmgi C hR hf_X8_154 rfl dX8_canMarry_102 ?_
              refine zcallV C (m_lawOf _ 4 _ hb4 M hR) hy_X8_lawOf hv_X8_lawOf hl_X8_177 hR.1 rfl rfl rfl rfl (by decide) (by decide) (by omega) (by omega) rfl (by exact Nat.le_of_ble_eq_true rfl) dX8_canMarry_105 (fun v105 M hp105 => ?_)
              obtain ⟨S1, ⟨rfl, hs⟩, hR⟩ := hp105
              rw [hs] at hR
              clear hs
              refine zconst (v := 1) C dX8_canMarry_108 (by decide) ?_
              refine zicmp_ne (tgt := 116) C dX8_canMarry_109 (by decide) (fun h109 => ?_) (fun h109 => ?_)
              · refine zconst (v := 0) C dX8_canMarry_116 (by decide) ?_
                exact zend_z C hE dX8_canMarry_117 (by omega) (by omega) (by first | exact Or.inl rfl | exact Or.inr rfl | exact b2i_b _) ⟨_, ⟨by simp [canMarry, b2i, h5, h13, h22, h57, h72, h90, h109], rfl⟩, hR⟩
              · refine zconst (v := 1) C dX8_canMarry_112 (by decide) ?_
                refine zgoto (tgt := 117) C dX8_canMarry_113 (by decide) ?_
                exact zend_z C hE dX8_canMarry_117 (by omega) (by omega) (by first | exact Or.inl rfl | exact Or.inr rfl | exact b2i_b _) ⟨_, ⟨by simp [canMarry, b2i, h5, h13, h22, h57, h72, h90, h109], rfl⟩, hR⟩
        · refine zconst (v := 1) C dX8_canMarry_60 (by decide) ?_
          refine zgoto (tgt := 65) C dX8_canMarry_61 (by decide) ?_
          refine zistore (L1 := [_, _, _, _, _]) C dX8_canMarry_65 rfl (Nat.le_of_ble_eq_true rfl) ?_
          refine zaload_n C dX8_canMarry_67 rfl ?_
          refine ziload_n C dX8_canMarry_68 rfl ?_
          refine zcallV C (m_lasting (nI w) hb25 M hR) hy_X8_lasting hv_X8_lasting hl_X8_218 hR.1 rfl rfl rfl rfl (by decide) (by decide) (by omega) (by omega) rfl (by exact Nat.le_of_ble_eq_true rfl) dX8_canMarry_69 (fun v69 M hp69 => ?_)
          obtain ⟨S1, ⟨rfl, hs⟩, hR⟩ := hp69
          rw [hs] at hR
          clear hs
          refine zif_ne (tgt := 116) C dX8_canMarry_72 (by decide) (fun h72 => ?_) (fun h72 => ?_)
          · replace h72 := zni_n (b := 0) h72
            refine zconst (v := 0) C dX8_canMarry_116 (by decide) ?_
            exact zend_z C hE dX8_canMarry_117 (by omega) (by omega) (by first | exact Or.inl rfl | exact Or.inr rfl | exact b2i_b _) ⟨_, ⟨by simp [canMarry, b2i, h5, h13, h22, h57, h72], rfl⟩, hR⟩
          · replace h72 := zni_e (b := 0) (by have := lastL_le (S.2.2.1 26) (S.2.2.1 27) (S.2.2.1 28) (nI w) (S.1 25); unfold lasting; omega) (by decide) h72
            refine zaload_n C dX8_canMarry_75 rfl ?_
            refine ziload_n C dX8_canMarry_76 rfl ?_
            refine zcallV C (m_lasting (nI h) hb25 M hR) hy_X8_lasting hv_X8_lasting hl_X8_218 hR.1 rfl rfl rfl rfl (by decide) (by decide) (by omega) (by omega) rfl (by exact Nat.le_of_ble_eq_true rfl) dX8_canMarry_77 (fun v77 M hp77 => ?_)
            obtain ⟨S1, ⟨rfl, hs⟩, hR⟩ := hp77
            rw [hs] at hR
            clear hs
            refine zaload_n C dX8_canMarry_80 rfl ?_
            refine ziload_n C dX8_canMarry_81 rfl ?_
            refine zconst (v := 2) C dX8_canMarry_82 (by decide) ?_
            refine zaload_n C dX8_canMarry_83 rfl ?_
            refine zmgi C hR hf_X8_154 rfl dX8_canMarry_84 ?_
            refine zcallV C (m_lawOf _ 2 _ hb4 M hR) hy_X8_lawOf hv_X8_lawOf hl_X8_177 hR.1 rfl rfl rfl rfl (by decide) (by decide) (by omega) (by omega) rfl (by exact Nat.le_of_ble_eq_true rfl) dX8_canMarry_87 (fun v87 M hp87 => ?_)
            obtain ⟨S1, ⟨rfl, hs⟩, hR⟩ := hp87
            rw [hs] at hR
            clear hs
            refine zicmp_ge (tgt := 116) C dX8_canMarry_90 (by decide) (fun h90 => ?_) (fun h90 => ?_)
            · replace h90 := zlt_f h90
              refine zconst (v := 0) C dX8_canMarry_116 (by decide) ?_
              exact zend_z C hE dX8_canMarry_117 (by omega) (by omega) (by first | exact Or.inl rfl | exact Or.inr rfl | exact b2i_b _) ⟨_, ⟨by simp [canMarry, b2i, h5, h13, h22, h57, h72, h90], rfl⟩, hR⟩
            · replace h90 := zlt_t h90
              refine ziload C dX8_canMarry_93 rfl ?_
              refine zif_ne_t (tgt := 112) C dX8_canMarry_95 (by decide) (by decide) ?_
              refine zconst (v := 1) C dX8_canMarry_112 (by decide) ?_
              refine zgoto (tgt := 117) C dX8_canMarry_113 (by decide) ?_
              exact zend_z C hE dX8_canMarry_117 (by omega) (by omega) (by first | exact Or.inl rfl | exact Or.inr rfl | exact b2i_b _) ⟨_, ⟨by simp [canMarry, b2i, h5, h13, h22, h57, h72, h90], rfl⟩, hR⟩
      · replace h22 := zni_e (b := 30) (by omega) (by decide) h22
        refine zconst (v := 0) C dX8_canMarry_25 (by decide) ?_
        exact zend_z C hE dX8_canMarry_26 (by omega) (by omega) (by first | exact Or.inl rfl | exact Or.inr rfl | exact b2i_b _) ⟨_, ⟨by simp [canMarry, b2i, h5, h13, h22], rfl⟩, hR⟩
set_option maxRecDepth 100000 in
set_option maxHeartbeats 1000000 in
theorem m_marry {g : zGh} {M0 : zM} {mo : Nat} {ad : Nat → Nat} {S : zS} (h w d : Int32) (hi : iB S) (hP : iPs S) : zMc g M0 mo ad yX8_marry cX8_marry 6 (some .int) 3 76 mkI [.int h, .int w, .int d] S (fun v S1 => (S1, v) = o_marry S h w d) := by
  intro M hR
  refine zof [some (.ref mo), some (.int h), some (.int w), some (.int d), none, none] (by decide +kernel) rfl rfl (Nat.le_of_ble_eq_true rfl) ?_
  intro X C hE hnm
  have C : zC g X RX8 cX8_marry 6 3 76 0 0 := C
  obtain ⟨hb1, hb2, hb4, hb9, hb13, hb25, hb33⟩ := id hi
  refine zaload_n C dX8_marry_0 rfl ?_
  refine ziload_n C dX8_marry_1 rfl ?_
  refine zcallV C (m_isPerson h (by omega) M hR) hy_X8_isPerson hv_X8_isPerson hl_X8_191 hR.1 rfl rfl rfl rfl (by decide) (by decide) (by omega) (by omega) rfl (by exact Nat.le_of_ble_eq_true rfl) dX8_marry_2 (fun v2 M hp2 => ?_)
  obtain ⟨S1, ⟨rfl, hs⟩, hR⟩ := hp2
  rw [hs] at hR
  clear hs
  refine zif_eq (tgt := 20) C dX8_marry_5 (by decide) (fun h5 => ?_) (fun h5 => ?_)
  · replace h5 := b2i_0.mp h5
    refine zconst (v := 0) C dX8_marry_20 (by decide) ?_
    refine zistore (L1 := [_, _, _, _, _, _]) C dX8_marry_21 rfl (Nat.le_of_ble_eq_true rfl) ?_
    refine ziload C dX8_marry_23 rfl ?_
    refine zif_eq_t (tgt := 60) C dX8_marry_25 (by decide) (by decide) ?_
    refine zconst (v := 0) C dX8_marry_60 (by decide) ?_
    refine zistore (L1 := [_, _, _, _, _, _]) C dX8_marry_61 rfl (Nat.le_of_ble_eq_true rfl) ?_
    refine zaload_n C dX8_marry_63 rfl ?_
    refine ziload C dX8_marry_64 rfl ?_
    refine zif_ne_f (tgt := 73) C dX8_marry_66 (by decide) (by decide) ?_
    refine zconst (v := 1) C dX8_marry_69 (by decide) ?_
    refine zgoto (tgt := 96) C dX8_marry_70 (by decide) ?_
    refine zcallV C (m_holds 1 (by decide) M hR) hy_X8_holds hv_X8_holds hl_X8_157 hR.1 rfl rfl rfl rfl (by decide) (by decide) (by omega) (by omega) rfl (by exact Nat.le_of_ble_eq_true rfl) dX8_marry_96 (fun v96 M hp96 => ?_)
    obtain ⟨S1, ⟨rfl, hs⟩, hR⟩ := hp96
    rw [hs] at hR
    clear hs
    refine zif_ne_f (tgt := 104) C dX8_marry_99 (by decide) (by decide) ?_
    refine zconst (v := 0) C dX8_marry_102 (by decide) ?_
    exact zend_i C hE dX8_marry_103 (by omega) (by omega) ⟨_, by simp [o_marry, rng, marS, nI_pred, zsA_g, zsN_g, zsN_2, zsA_1, zsA_c, zsA_l, zsL_g, zsL_1, zsL_c, zsL_a, courtOn_th, faithAt_th, lawOf_th, ruleOn_th, isGrown_th, canWit_th, lasting_th, isMinor_th, h5], hR⟩
  · replace h5 := b2i_n0.mp h5
    obtain ⟨hn, hhn, rfl⟩ := zix_of h5 (by omega)
    have ehn := nI_clamp (show hn < 2 ^ 31 by omega)
    refine zaload_n C dX8_marry_8 rfl ?_
    refine ziload_n C dX8_marry_9 rfl ?_
    refine zcallV C (m_isPerson w (by omega) M hR) hy_X8_isPerson hv_X8_isPerson hl_X8_191 hR.1 rfl rfl rfl rfl (by decide) (by decide) (by omega) (by omega) rfl (by exact Nat.le_of_ble_eq_true rfl) dX8_marry_10 (fun v10 M hp10 => ?_)
    obtain ⟨S1, ⟨rfl, hs⟩, hR⟩ := hp10
    rw [hs] at hR
    clear hs
    refine zif_eq (tgt := 20) C dX8_marry_13 (by decide) (fun h13 => ?_) (fun h13 => ?_)
    · replace h13 := b2i_0.mp h13
      refine zconst (v := 0) C dX8_marry_20 (by decide) ?_
      refine zistore (L1 := [_, _, _, _, _, _]) C dX8_marry_21 rfl (Nat.le_of_ble_eq_true rfl) ?_
      refine ziload C dX8_marry_23 rfl ?_
      refine zif_eq_t (tgt := 60) C dX8_marry_25 (by decide) (by decide) ?_
      refine zconst (v := 0) C dX8_marry_60 (by decide) ?_
      refine zistore (L1 := [_, _, _, _, _, _]) C dX8_marry_61 rfl (Nat.le_of_ble_eq_true rfl) ?_
      refine zaload_n C dX8_marry_63 rfl ?_
      refine ziload C dX8_marry_64 rfl ?_
      refine zif_ne_f (tgt := 73) C dX8_marry_66 (by decide) (by decide) ?_
      refine zconst (v := 1) C dX8_marry_69 (by decide) ?_
      refine zgoto (tgt := 96) C dX8_marry_70 (by decide) ?_
      refine zcallV C (m_holds 1 (by decide) M hR) hy_X8_holds hv_X8_holds hl_X8_157 hR.1 rfl rfl rfl rfl (by decide) (by decide) (by omega) (by omega) rfl (by exact Nat.le_of_ble_eq_true rfl) dX8_marry_96 (fun v96 M hp96 => ?_)
      obtain ⟨S1, ⟨rfl, hs⟩, hR⟩ := hp96
      rw [hs] at hR
      clear hs
      refine zif_ne_f (tgt := 104) C dX8_marry_99 (by decide) (by decide) ?_
      refine zconst (v := 0) C dX8_marry_102 (by decide) ?_
      exact zend_i C hE dX8_marry_103 (by omega) (by omega) ⟨_, by simp [o_marry, rng, marS, nI_pred, zsA_g, zsN_g, zsN_2, zsA_1, zsA_c, zsA_l, zsL_g, zsL_1, zsL_c, zsL_a, courtOn_th, faithAt_th, lawOf_th, ruleOn_th, isGrown_th, canWit_th, lasting_th, isMinor_th, h5, ehn, h13], hR⟩
    · replace h13 := b2i_n0.mp h13
      obtain ⟨wn, hwn, rfl⟩ := zix_of h13 (by omega)
      have ewn := nI_clamp (show wn < 2 ^ 31 by omega)
      refine zconst (v := 1) C dX8_marry_16 (by decide) ?_
      refine zgoto (tgt := 21) C dX8_marry_17 (by decide) ?_
      refine zistore (L1 := [_, _, _, _, _, _]) C dX8_marry_21 rfl (Nat.le_of_ble_eq_true rfl) ?_
      refine ziload C dX8_marry_23 rfl ?_
      refine zif_eq_f (tgt := 60) C dX8_marry_25 (by decide) (by decide) ?_
      refine zaload_n C dX8_marry_28 rfl ?_
      refine zmga C hR hf_X8_34 rfl dX8_marry_29 ?_
      refine ziload_n C dX8_marry_32 rfl ?_
      refine zmza C hR rfl rfl rfl (show _ < 40 from by omega) dX8_marry_33 ?_
      refine zif_eq (tgt := 60) C dX8_marry_34 (by decide) (fun h34 => ?_) (fun h34 => ?_)
      · refine zconst (v := 0) C dX8_marry_60 (by decide) ?_
        refine zistore (L1 := [_, _, _, _, _, _]) C dX8_marry_61 rfl (Nat.le_of_ble_eq_true rfl) ?_
        refine zaload_n C dX8_marry_63 rfl ?_
        refine ziload C dX8_marry_64 rfl ?_
        refine zif_ne_t (tgt := 73) C dX8_marry_66 (by decide) (by decide) ?_
        refine ziload C dX8_marry_73 rfl ?_
        refine zif_ne_f (tgt := 82) C dX8_marry_75 (by decide) (by decide) ?_
        refine zconst (v := 2) C dX8_marry_78 (by decide) ?_
        refine zgoto (tgt := 96) C dX8_marry_79 (by decide) ?_
        refine zcallV C (m_holds 2 (by decide) M hR) hy_X8_holds hv_X8_holds hl_X8_157 hR.1 rfl rfl rfl rfl (by decide) (by decide) (by omega) (by omega) rfl (by exact Nat.le_of_ble_eq_true rfl) dX8_marry_96 (fun v96 M hp96 => ?_)
        obtain ⟨S1, ⟨rfl, hs⟩, hR⟩ := hp96
        rw [hs] at hR
        clear hs
        refine zif_ne_f (tgt := 104) C dX8_marry_99 (by decide) (by decide) ?_
        refine zconst (v := 0) C dX8_marry_102 (by decide) ?_
        exact zend_i C hE dX8_marry_103 (by omega) (by omega) ⟨_, by simp [o_marry, rng, marS, nI_pred, zsA_g, zsN_g, zsN_2, zsA_1, zsA_c, zsA_l, zsL_g, zsL_1, zsL_c, zsL_a, courtOn_th, faithAt_th, lawOf_th, ruleOn_th, isGrown_th, canWit_th, lasting_th, isMinor_th, h5, ehn, h13, ewn, h34], hR⟩
      · refine zaload_n C dX8_marry_37 rfl ?_
        refine zmga C hR hf_X8_34 rfl dX8_marry_38 ?_
        refine ziload_n C dX8_marry_41 rfl ?_
        refine zmza C hR rfl rfl rfl (show _ < 40 from by omega) dX8_marry_42 ?_
        refine zif_ne (tgt := 60) C dX8_marry_43 (by decide) (fun h43 => ?_) (fun h43 => ?_)
        · refine zconst (v := 0) C dX8_marry_60 (by decide) ?_
          refine zistore (L1 := [_, _, _, _, _, _]) C dX8_marry_61 rfl (Nat.le_of_ble_eq_true rfl) ?_
          refine zaload_n C dX8_marry_63 rfl ?_
          refine ziload C dX8_marry_64 rfl ?_
          refine zif_ne_t (tgt := 73) C dX8_marry_66 (by decide) (by decide) ?_
          refine ziload C dX8_marry_73 rfl ?_
          refine zif_ne_f (tgt := 82) C dX8_marry_75 (by decide) (by decide) ?_
          refine zconst (v := 2) C dX8_marry_78 (by decide) ?_
          refine zgoto (tgt := 96) C dX8_marry_79 (by decide) ?_
          refine zcallV C (m_holds 2 (by decide) M hR) hy_X8_holds hv_X8_holds hl_X8_157 hR.1 rfl rfl rfl rfl (by decide) (by decide) (by omega) (by omega) rfl (by exact Nat.le_of_ble_eq_true rfl) dX8_marry_96 (fun v96 M hp96 => ?_)
          obtain ⟨S1, ⟨rfl, hs⟩, hR⟩ := hp96
          rw [hs] at hR
          clear hs
          refine zif_ne_f (tgt := 104) C dX8_marry_99 (by decide) (by decide) ?_
          refine zconst (v := 0) C dX8_marry_102 (by decide) ?_
          exact zend_i C hE dX8_marry_103 (by omega) (by omega) ⟨_, by simp [o_marry, rng, marS, nI_pred, zsA_g, zsN_g, zsN_2, zsA_1, zsA_c, zsA_l, zsL_g, zsL_1, zsL_c, zsL_a, courtOn_th, faithAt_th, lawOf_th, ruleOn_th, isGrown_th, canWit_th, lasting_th, isMinor_th, h5, ehn, h13, ewn, h34, h43], hR⟩
        · refine ziload_n C dX8_marry_46 rfl ?_
          refine zconst (v := 0) C dX8_marry_47 (by decide) ?_
          refine zldc C hk_X8_222 dX8_marry_48 ?_
          refine zcallS C (m_in d 0 1000000) hy_X8_in hst_X8_in hl_X8_137 rfl rfl (by decide) (by decide) (by omega) (by omega) rfl (by exact Nat.le_of_ble_eq_true rfl) dX8_marry_50 (fun v50 M hp50 => ?_)
          obtain ⟨rfl, rfl⟩ := hp50
          refine zif_eq (tgt := 60) C dX8_marry_53 (by decide) (fun h53 => ?_) (fun h53 => ?_)
          · replace h53 := b2i_0.mp h53
            refine zconst (v := 0) C dX8_marry_60 (by decide) ?_
            refine zistore (L1 := [_, _, _, _, _, _]) C dX8_marry_61 rfl (Nat.le_of_ble_eq_true rfl) ?_
            refine zaload_n C dX8_marry_63 rfl ?_
            refine ziload C dX8_marry_64 rfl ?_
            refine zif_ne_t (tgt := 73) C dX8_marry_66 (by decide) (by decide) ?_
            refine ziload C dX8_marry_73 rfl ?_
            refine zif_ne_f (tgt := 82) C dX8_marry_75 (by decide) (by decide) ?_
            refine zconst (v := 2) C dX8_marry_78 (by decide) ?_
            refine zgoto (tgt := 96) C dX8_marry_79 (by decide) ?_
            refine zcallV C (m_holds 2 (by decide) M hR) hy_X8_holds hv_X8_holds hl_X8_157 hR.1 rfl rfl rfl rfl (by decide) (by decide) (by omega) (by omega) rfl (by exact Nat.le_of_ble_eq_true rfl) dX8_marry_96 (fun v96 M hp96 => ?_)
            obtain ⟨S1, ⟨rfl, hs⟩, hR⟩ := hp96
            rw [hs] at hR
            clear hs
            refine zif_ne_f (tgt := 104) C dX8_marry_99 (by decide) (by decide) ?_
            refine zconst (v := 0) C dX8_marry_102 (by decide) ?_
            exact zend_i C hE dX8_marry_103 (by omega) (by omega) ⟨_, by simp [o_marry, rng, marS, nI_pred, zsA_g, zsN_g, zsN_2, zsA_1, zsA_c, zsA_l, zsL_g, zsL_1, zsL_c, zsL_a, courtOn_th, faithAt_th, lawOf_th, ruleOn_th, isGrown_th, canWit_th, lasting_th, isMinor_th, h5, ehn, h13, ewn, h34, h43, h53], hR⟩
          · replace h53 := b2i_n0.mp h53
            refine zconst (v := 1) C dX8_marry_56 (by decide) ?_
            refine zgoto (tgt := 61) C dX8_marry_57 (by decide) ?_
            refine zistore (L1 := [_, _, _, _, _, _]) C dX8_marry_61 rfl (Nat.le_of_ble_eq_true rfl) ?_
            refine zaload_n C dX8_marry_63 rfl ?_
            refine ziload C dX8_marry_64 rfl ?_
            refine zif_ne_t (tgt := 73) C dX8_marry_66 (by decide) (by decide) ?_
            refine ziload C dX8_marry_73 rfl ?_
            refine zif_ne_t (tgt := 82) C dX8_marry_75 (by decide) (by decide) ?_
            refine zaload_n C dX8_marry_82 rfl ?_
            refine ziload_n C dX8_marry_83 rfl ?_
            refine ziload_n C dX8_marry_84 rfl ?_
            refine zcallV C (m_canMarry hn wn hi hP hhn hwn M hR) hy_X8_canMarry hv_X8_canMarry hl_X8_223 hR.1 rfl rfl rfl rfl (by decide) (by decide) (by omega) (by omega) rfl (by exact Nat.le_of_ble_eq_true rfl) dX8_marry_85 (fun v85 M hp85 => ?_)
            obtain ⟨S1, ⟨rfl, hs⟩, hR⟩ := hp85
            rw [hs] at hR
            clear hs
            refine zif_eq (tgt := 95) C dX8_marry_88 (by decide) (fun h88 => ?_) (fun h88 => ?_)
            · replace h88 := b2i_0.mp h88
              refine zconst (v := 3) C dX8_marry_95 (by decide) ?_
              refine zcallV C (m_holds 3 (by decide) M hR) hy_X8_holds hv_X8_holds hl_X8_157 hR.1 rfl rfl rfl rfl (by decide) (by decide) (by omega) (by omega) rfl (by exact Nat.le_of_ble_eq_true rfl) dX8_marry_96 (fun v96 M hp96 => ?_)
              obtain ⟨S1, ⟨rfl, hs⟩, hR⟩ := hp96
              rw [hs] at hR
              clear hs
              refine zif_ne_f (tgt := 104) C dX8_marry_99 (by decide) (by decide) ?_
              refine zconst (v := 0) C dX8_marry_102 (by decide) ?_
              exact zend_i C hE dX8_marry_103 (by omega) (by omega) ⟨_, by simp [o_marry, rng, marS, nI_pred, zsA_g, zsN_g, zsN_2, zsA_1, zsA_c, zsA_l, zsL_g, zsL_1, zsL_c, zsL_a, courtOn_th, faithAt_th, lawOf_th, ruleOn_th, isGrown_th, canWit_th, lasting_th, isMinor_th, h5, ehn, h13, ewn, h34, h43, h53, h88], hR⟩
            · replace h88 := b2i_n0.mp h88
              have h30 := canMarry_30 h88
              refine zconst (v := 0) C dX8_marry_91 (by decide) ?_
              refine zgoto (tgt := 96) C dX8_marry_92 (by decide) ?_
              refine zcallV C (m_holds 0 (by decide) M hR) hy_X8_holds hv_X8_holds hl_X8_157 hR.1 rfl rfl rfl rfl (by decide) (by decide) (by omega) (by omega) rfl (by exact Nat.le_of_ble_eq_true rfl) dX8_marry_96 (fun v96 M hp96 => ?_)
              obtain ⟨S1, ⟨rfl, hs⟩, hR⟩ := hp96
              rw [hs] at hR
              clear hs
              refine zif_ne_t (tgt := 104) C dX8_marry_99 (by decide) (by decide) ?_
              refine zaload_n C dX8_marry_104 rfl ?_
              refine zmga C hR hf_X8_70 rfl dX8_marry_105 ?_
              refine zaload_n C dX8_marry_108 rfl ?_
              refine zmgi C hR hf_X8_148 rfl dX8_marry_109 ?_
              refine ziload_n C dX8_marry_112 rfl ?_
              refine zmis (i0 := S.1 25) C hR rfl rfl rfl (show _ < 30 from by omega) dX8_marry_113 (fun M hR => ?_)
              refine zaload_n C dX8_marry_114 rfl ?_
              refine zmga C hR hf_X8_73 rfl dX8_marry_115 ?_
              refine zaload_n C dX8_marry_118 rfl ?_
              refine zmgi C hR hf_X8_148 rfl dX8_marry_119 ?_
              refine ziload_n C dX8_marry_122 rfl ?_
              refine zmis (i0 := S.1 25) C hR rfl rfl rfl (show _ < 30 from by omega) dX8_marry_123 (fun M hR => ?_)
              refine zaload_n C dX8_marry_124 rfl ?_
              refine zmga C hR hf_X8_79 rfl dX8_marry_125 ?_
              refine zaload_n C dX8_marry_128 rfl ?_
              refine zmgi C hR hf_X8_148 rfl dX8_marry_129 ?_
              refine ziload_n C dX8_marry_132 rfl ?_
              refine zmis (i0 := S.1 25) C hR rfl rfl rfl (show _ < 30 from by omega) dX8_marry_133 (fun M hR => ?_)
              refine zaload_n C dX8_marry_134 rfl ?_
              refine zmga C hR hf_X8_82 rfl dX8_marry_135 ?_
              refine zaload_n C dX8_marry_138 rfl ?_
              refine zmgi C hR hf_X8_148 rfl dX8_marry_139 ?_
              refine zaload_n C dX8_marry_142 rfl ?_
              refine zconst (v := 0) C dX8_marry_143 (by decide) ?_
              refine ziload_n C dX8_marry_144 rfl ?_
              refine ziload_n C dX8_marry_145 rfl ?_
              refine zaload_n C dX8_marry_146 rfl ?_
              refine zmgi C hR hf_X8_154 rfl dX8_marry_147 ?_
              refine zcallV C (m_courtOn (S := zsA (zsA (zsA (th S 0) 26 (upd (S.2.2.1 26) (S.1 25) (nI hn))) 27 (upd (S.2.2.1 27) (S.1 25) (nI wn))) 29 (upd (S.2.2.1 29) (S.1 25) d)) 0 hn wn (S.1 1) hb9 hb1 (by omega) (by omega) (hP hn hhn).1 (hP wn hwn).1 (by obtain ⟨c, h1, h2⟩ := (hP hn hhn).2.2 (nI (S.1 1)); exact ⟨c, by omega, h2⟩) (by obtain ⟨c, h1, h2⟩ := (hP wn hwn).2.2 (nI (S.1 1)); exact ⟨c, by omega, h2⟩) M hR) hy_X8_courtOn hv_X8_courtOn hl_X8_194 hR.1 rfl rfl rfl rfl (by decide) (by decide) (by omega) (by omega) rfl (by exact Nat.le_of_ble_eq_true rfl) dX8_marry_150 (fun v150 M hp150 => ?_)
              obtain ⟨S1, ⟨hv, hs⟩, hR⟩ := hp150
              have hv : v150 = courtOn S 0 hn wn (S.1 1) := hv
              subst hv
              rw [hs] at hR
              clear hs
              refine zmis (i0 := S.1 25) C hR rfl rfl rfl (show _ < 30 from by omega) dX8_marry_153 (fun M hR => ?_)
              refine zaload_n C dX8_marry_154 rfl ?_
              refine zdup C dX8_marry_155 rfl ?_
              refine zmgi C hR hf_X8_148 rfl dX8_marry_156 ?_
              refine zconst (v := 1) C dX8_marry_159 (by decide) ?_
              refine ziadd C dX8_marry_160 ?_
              refine zmpi (v := S.1 25 + 1) C hR hf_X8_148 rfl rfl rfl (nI_1 (S.1 25)) dX8_marry_161 (fun M hR => ?_)
              refine zaload_n C dX8_marry_164 rfl ?_
              refine zmgi C hR hf_X8_148 rfl dX8_marry_165 ?_
              refine zconst (v := 1) C dX8_marry_168 (by decide) ?_
              refine zisub C dX8_marry_169 ?_
              exact zend_i C hE dX8_marry_170 (by omega) (by omega) ⟨_, by simp [o_marry, rng, marS, nI_pred, zsA_g, zsN_g, zsN_2, zsA_1, zsA_c, zsA_l, zsL_g, zsL_1, zsL_c, zsL_a, courtOn_th, faithAt_th, lawOf_th, ruleOn_th, isGrown_th, canWit_th, lasting_th, isMinor_th, h5, ehn, h13, ewn, h34, h43, h53, h88], hR⟩
