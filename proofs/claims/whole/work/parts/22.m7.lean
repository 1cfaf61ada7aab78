theorem iPar_eq {S A : zS} {k : Nat} (h1 : A.2.2.1 15 = S.2.2.1 15) (h2 : A.2.2.1 16 = S.2.2.1 16) {f : Nat → Int32} (h : iPar S k) : iPar (zsA A 24 f) k := by
  unfold iPar parentOf at h ⊢
  simp only [zsA_g, h1, h2]
  exact h
set_option maxRecDepth 100000 in
set_option maxHeartbeats 1000000 in
theorem m_sue {g : zGh} {M0 : zM} {mo : Nat} {ad : Nat → Nat} {S : zS} (p q c x : Int32) (hi : iB S) (hP : iPs S) : zMc g M0 mo ad yX8_sue cX8_sue 10 (some .int) 3 64 mkI [.int p, .int q, .int c, .int x] S (fun v S1 => (S1, v) = o_sue S p q c x) := by
  intro M hR
  refine zof [some (.ref mo), some (.int p), some (.int q), some (.int c), some (.int x), none, none, none, none, none] (by decide +kernel) rfl rfl (Nat.le_of_ble_eq_true rfl) ?_
  intro X C hE hnm
  have C : zC g X RX8 cX8_sue 10 3 64 0 0 := C
  obtain ⟨hb1, hb2, hb4, hb9, hb13, hb25, hb33⟩ := id hi
  refine zaload_n C dX8_sue_0 rfl ?_
  refine ziload_n C dX8_sue_1 rfl ?_
  refine zcallV C (m_isPerson p (by omega) M hR) hy_X8_isPerson hv_X8_isPerson hl_X8_191 hR.1 rfl rfl rfl rfl (by decide) (by decide) (by omega) (by omega) rfl (by exact Nat.le_of_ble_eq_true rfl) dX8_sue_2 (fun v2 M hp2 => ?_)
  obtain ⟨S1, ⟨rfl, hs⟩, hR⟩ := hp2
  rw [hs] at hR
  clear hs
  refine zif_eq (tgt := 28) C dX8_sue_5 (by decide) (fun h5 => ?_) (fun h5 => ?_)
  · replace h5 := b2i_0.mp h5
    refine zconst (v := 0) C dX8_sue_28 (by decide) ?_
    refine zistore (L1 := [_, _, _, _, _, _, _, _, _, _]) C dX8_sue_29 rfl (Nat.le_of_ble_eq_true rfl) ?_
    refine ziload_n C dX8_sue_31 rfl ?_
    refine ziload_n C dX8_sue_32 rfl ?_
    refine zicmp_eq (tgt := 51) C dX8_sue_33 (by decide) (fun h33 => ?_) (fun h33 => ?_)
    · refine zconst (v := 0) C dX8_sue_51 (by decide) ?_
      refine zistore (L1 := [_, _, _, _, _, _, _, _, _, _]) C dX8_sue_52 rfl (Nat.le_of_ble_eq_true rfl) ?_
      refine zaload_n C dX8_sue_54 rfl ?_
      refine ziload C dX8_sue_55 rfl ?_
      refine zif_ne_f (tgt := 64) C dX8_sue_57 (by decide) (by decide) ?_
      refine zconst (v := 1) C dX8_sue_60 (by decide) ?_
      refine zgoto (tgt := 105) C dX8_sue_61 (by decide) ?_
      refine zcallV C (m_holds 1 (by decide) M hR) hy_X8_holds hv_X8_holds hl_X8_157 hR.1 rfl rfl rfl rfl (by decide) (by decide) (by omega) (by omega) rfl (by exact Nat.le_of_ble_eq_true rfl) dX8_sue_105 (fun v105 M hp105 => ?_)
      obtain ⟨S1, ⟨rfl, hs⟩, hR⟩ := hp105
      rw [hs] at hR
      clear hs
      refine zif_ne_f (tgt := 113) C dX8_sue_108 (by decide) (by decide) ?_
      refine zconst (v := 0) C dX8_sue_111 (by decide) ?_
      exact zend_i C hE dX8_sue_112 (by omega) (by omega) ⟨_, by first | (simp [o_sue, rng, zsA_g, zsN_g, zsN_2, zsA_1, zsA_c, zsA_l, zsL_g, zsL_1, zsL_c, zsL_a, zsN_N, h5, h33]; done) | (simp_all [o_sue, rng, zsA_g, zsN_g, zsN_2, zsA_1, zsA_c, zsA_l, zsL_g, zsL_1, zsL_c, zsL_a, zsN_N, h5, h33]; done), hR⟩
    · refine ziload C dX8_sue_36 rfl ?_
      refine zconst (v := 1) C dX8_sue_38 (by decide) ?_
      refine zldc C hk_X8_222 dX8_sue_39 ?_
      refine zcallS C (m_in x 1 1000000) hy_X8_in hst_X8_in hl_X8_137 rfl rfl (by decide) (by decide) (by omega) (by omega) rfl (by exact Nat.le_of_ble_eq_true rfl) dX8_sue_41 (fun v41 M hp41 => ?_)
      obtain ⟨rfl, rfl⟩ := hp41
      refine zif_eq (tgt := 51) C dX8_sue_44 (by decide) (fun h44 => ?_) (fun h44 => ?_)
      · replace h44 := b2i_0.mp h44
        refine zconst (v := 0) C dX8_sue_51 (by decide) ?_
        refine zistore (L1 := [_, _, _, _, _, _, _, _, _, _]) C dX8_sue_52 rfl (Nat.le_of_ble_eq_true rfl) ?_
        refine zaload_n C dX8_sue_54 rfl ?_
        refine ziload C dX8_sue_55 rfl ?_
        refine zif_ne_f (tgt := 64) C dX8_sue_57 (by decide) (by decide) ?_
        refine zconst (v := 1) C dX8_sue_60 (by decide) ?_
        refine zgoto (tgt := 105) C dX8_sue_61 (by decide) ?_
        refine zcallV C (m_holds 1 (by decide) M hR) hy_X8_holds hv_X8_holds hl_X8_157 hR.1 rfl rfl rfl rfl (by decide) (by decide) (by omega) (by omega) rfl (by exact Nat.le_of_ble_eq_true rfl) dX8_sue_105 (fun v105 M hp105 => ?_)
        obtain ⟨S1, ⟨rfl, hs⟩, hR⟩ := hp105
        rw [hs] at hR
        clear hs
        refine zif_ne_f (tgt := 113) C dX8_sue_108 (by decide) (by decide) ?_
        refine zconst (v := 0) C dX8_sue_111 (by decide) ?_
        exact zend_i C hE dX8_sue_112 (by omega) (by omega) ⟨_, by first | (simp [o_sue, rng, zsA_g, zsN_g, zsN_2, zsA_1, zsA_c, zsA_l, zsL_g, zsL_1, zsL_c, zsL_a, zsN_N, h5, h33, h44]; done) | (simp_all [o_sue, rng, zsA_g, zsN_g, zsN_2, zsA_1, zsA_c, zsA_l, zsL_g, zsL_1, zsL_c, zsL_a, zsN_N, h5, h33, h44]; done), hR⟩
      · replace h44 := b2i_n0.mp h44
        refine zconst (v := 1) C dX8_sue_47 (by decide) ?_
        refine zgoto (tgt := 52) C dX8_sue_48 (by decide) ?_
        refine zistore (L1 := [_, _, _, _, _, _, _, _, _, _]) C dX8_sue_52 rfl (Nat.le_of_ble_eq_true rfl) ?_
        refine zaload_n C dX8_sue_54 rfl ?_
        refine ziload C dX8_sue_55 rfl ?_
        refine zif_ne_f (tgt := 64) C dX8_sue_57 (by decide) (by decide) ?_
        refine zconst (v := 1) C dX8_sue_60 (by decide) ?_
        refine zgoto (tgt := 105) C dX8_sue_61 (by decide) ?_
        refine zcallV C (m_holds 1 (by decide) M hR) hy_X8_holds hv_X8_holds hl_X8_157 hR.1 rfl rfl rfl rfl (by decide) (by decide) (by omega) (by omega) rfl (by exact Nat.le_of_ble_eq_true rfl) dX8_sue_105 (fun v105 M hp105 => ?_)
        obtain ⟨S1, ⟨rfl, hs⟩, hR⟩ := hp105
        rw [hs] at hR
        clear hs
        refine zif_ne_f (tgt := 113) C dX8_sue_108 (by decide) (by decide) ?_
        refine zconst (v := 0) C dX8_sue_111 (by decide) ?_
        exact zend_i C hE dX8_sue_112 (by omega) (by omega) ⟨_, by first | (simp [o_sue, rng, zsA_g, zsN_g, zsN_2, zsA_1, zsA_c, zsA_l, zsL_g, zsL_1, zsL_c, zsL_a, zsN_N, h5, h33, h44]; done) | (simp_all [o_sue, rng, zsA_g, zsN_g, zsN_2, zsA_1, zsA_c, zsA_l, zsL_g, zsL_1, zsL_c, zsL_a, zsN_N, h5, h33, h44]; done), hR⟩
  · replace h5 := b2i_n0.mp h5
    obtain ⟨pn, hpn, rfl⟩ := zix_of h5 (by omega)
    have epn := nI_clamp (show pn < 2 ^ 31 by omega)
    refine zaload_n C dX8_sue_8 rfl ?_
    refine ziload_n C dX8_sue_9 rfl ?_
    refine zcallV C (m_isPerson q (by omega) M hR) hy_X8_isPerson hv_X8_isPerson hl_X8_191 hR.1 rfl rfl rfl rfl (by decide) (by decide) (by omega) (by omega) rfl (by exact Nat.le_of_ble_eq_true rfl) dX8_sue_10 (fun v10 M hp10 => ?_)
    obtain ⟨S1, ⟨rfl, hs⟩, hR⟩ := hp10
    rw [hs] at hR
    clear hs
    refine zif_eq (tgt := 28) C dX8_sue_13 (by decide) (fun h13 => ?_) (fun h13 => ?_)
    · replace h13 := b2i_0.mp h13
      refine zconst (v := 0) C dX8_sue_28 (by decide) ?_
      refine zistore (L1 := [_, _, _, _, _, _, _, _, _, _]) C dX8_sue_29 rfl (Nat.le_of_ble_eq_true rfl) ?_
      refine ziload_n C dX8_sue_31 rfl ?_
      refine ziload_n C dX8_sue_32 rfl ?_
      refine zicmp_eq (tgt := 51) C dX8_sue_33 (by decide) (fun h33 => ?_) (fun h33 => ?_)
      · refine zconst (v := 0) C dX8_sue_51 (by decide) ?_
        refine zistore (L1 := [_, _, _, _, _, _, _, _, _, _]) C dX8_sue_52 rfl (Nat.le_of_ble_eq_true rfl) ?_
        refine zaload_n C dX8_sue_54 rfl ?_
        refine ziload C dX8_sue_55 rfl ?_
        refine zif_ne_f (tgt := 64) C dX8_sue_57 (by decide) (by decide) ?_
        refine zconst (v := 1) C dX8_sue_60 (by decide) ?_
        refine zgoto (tgt := 105) C dX8_sue_61 (by decide) ?_
        refine zcallV C (m_holds 1 (by decide) M hR) hy_X8_holds hv_X8_holds hl_X8_157 hR.1 rfl rfl rfl rfl (by decide) (by decide) (by omega) (by omega) rfl (by exact Nat.le_of_ble_eq_true rfl) dX8_sue_105 (fun v105 M hp105 => ?_)
        obtain ⟨S1, ⟨rfl, hs⟩, hR⟩ := hp105
        rw [hs] at hR
        clear hs
        refine zif_ne_f (tgt := 113) C dX8_sue_108 (by decide) (by decide) ?_
        refine zconst (v := 0) C dX8_sue_111 (by decide) ?_
        exact zend_i C hE dX8_sue_112 (by omega) (by omega) ⟨_, by first | (simp [o_sue, rng, zsA_g, zsN_g, zsN_2, zsA_1, zsA_c, zsA_l, zsL_g, zsL_1, zsL_c, zsL_a, zsN_N, h5, epn, h13, h33]; done) | (simp_all [o_sue, rng, zsA_g, zsN_g, zsN_2, zsA_1, zsA_c, zsA_l, zsL_g, zsL_1, zsL_c, zsL_a, zsN_N, h5, epn, h13, h33]; done), hR⟩
      · refine ziload C dX8_sue_36 rfl ?_
        refine zconst (v := 1) C dX8_sue_38 (by decide) ?_
        refine zldc C hk_X8_222 dX8_sue_39 ?_
        refine zcallS C (m_in x 1 1000000) hy_X8_in hst_X8_in hl_X8_137 rfl rfl (by decide) (by decide) (by omega) (by omega) rfl (by exact Nat.le_of_ble_eq_true rfl) dX8_sue_41 (fun v41 M hp41 => ?_)
        obtain ⟨rfl, rfl⟩ := hp41
        refine zif_eq (tgt := 51) C dX8_sue_44 (by decide) (fun h44 => ?_) (fun h44 => ?_)
        · replace h44 := b2i_0.mp h44
          refine zconst (v := 0) C dX8_sue_51 (by decide) ?_
          refine zistore (L1 := [_, _, _, _, _, _, _, _, _, _]) C dX8_sue_52 rfl (Nat.le_of_ble_eq_true rfl) ?_
          refine zaload_n C dX8_sue_54 rfl ?_
          refine ziload C dX8_sue_55 rfl ?_
          refine zif_ne_f (tgt := 64) C dX8_sue_57 (by decide) (by decide) ?_
          refine zconst (v := 1) C dX8_sue_60 (by decide) ?_
          refine zgoto (tgt := 105) C dX8_sue_61 (by decide) ?_
          refine zcallV C (m_holds 1 (by decide) M hR) hy_X8_holds hv_X8_holds hl_X8_157 hR.1 rfl rfl rfl rfl (by decide) (by decide) (by omega) (by omega) rfl (by exact Nat.le_of_ble_eq_true rfl) dX8_sue_105 (fun v105 M hp105 => ?_)
          obtain ⟨S1, ⟨rfl, hs⟩, hR⟩ := hp105
          rw [hs] at hR
          clear hs
          refine zif_ne_f (tgt := 113) C dX8_sue_108 (by decide) (by decide) ?_
          refine zconst (v := 0) C dX8_sue_111 (by decide) ?_
          exact zend_i C hE dX8_sue_112 (by omega) (by omega) ⟨_, by first | (simp [o_sue, rng, zsA_g, zsN_g, zsN_2, zsA_1, zsA_c, zsA_l, zsL_g, zsL_1, zsL_c, zsL_a, zsN_N, h5, epn, h13, h33, h44]; done) | (simp_all [o_sue, rng, zsA_g, zsN_g, zsN_2, zsA_1, zsA_c, zsA_l, zsL_g, zsL_1, zsL_c, zsL_a, zsN_N, h5, epn, h13, h33, h44]; done), hR⟩
        · replace h44 := b2i_n0.mp h44
          refine zconst (v := 1) C dX8_sue_47 (by decide) ?_
          refine zgoto (tgt := 52) C dX8_sue_48 (by decide) ?_
          refine zistore (L1 := [_, _, _, _, _, _, _, _, _, _]) C dX8_sue_52 rfl (Nat.le_of_ble_eq_true rfl) ?_
          refine zaload_n C dX8_sue_54 rfl ?_
          refine ziload C dX8_sue_55 rfl ?_
          refine zif_ne_f (tgt := 64) C dX8_sue_57 (by decide) (by decide) ?_
          refine zconst (v := 1) C dX8_sue_60 (by decide) ?_
          refine zgoto (tgt := 105) C dX8_sue_61 (by decide) ?_
          refine zcallV C (m_holds 1 (by decide) M hR) hy_X8_holds hv_X8_holds hl_X8_157 hR.1 rfl rfl rfl rfl (by decide) (by decide) (by omega) (by omega) rfl (by exact Nat.le_of_ble_eq_true rfl) dX8_sue_105 (fun v105 M hp105 => ?_)
          obtain ⟨S1, ⟨rfl, hs⟩, hR⟩ := hp105
          rw [hs] at hR
          clear hs
          refine zif_ne_f (tgt := 113) C dX8_sue_108 (by decide) (by decide) ?_
          refine zconst (v := 0) C dX8_sue_111 (by decide) ?_
          exact zend_i C hE dX8_sue_112 (by omega) (by omega) ⟨_, by first | (simp [o_sue, rng, zsA_g, zsN_g, zsN_2, zsA_1, zsA_c, zsA_l, zsL_g, zsL_1, zsL_c, zsL_a, zsN_N, h5, epn, h13, h33, h44]; done) | (simp_all [o_sue, rng, zsA_g, zsN_g, zsN_2, zsA_1, zsA_c, zsA_l, zsL_g, zsL_1, zsL_c, zsL_a, zsN_N, h5, epn, h13, h33, h44]; done), hR⟩
    · replace h13 := b2i_n0.mp h13
      obtain ⟨qn, hqn, rfl⟩ := zix_of h13 (by omega)
      have eqn := nI_clamp (show qn < 2 ^ 31 by omega)
      refine zaload_n C dX8_sue_16 rfl ?_
      refine ziload_n C dX8_sue_17 rfl ?_
      refine zcallV C (m_isCourt c (by omega) M hR) hy_X8_isCourt hv_X8_isCourt hl_X8_174 hR.1 rfl rfl rfl rfl (by decide) (by decide) (by omega) (by omega) rfl (by exact Nat.le_of_ble_eq_true rfl) dX8_sue_18 (fun v18 M hp18 => ?_)
      obtain ⟨S1, ⟨rfl, hs⟩, hR⟩ := hp18
      rw [hs] at hR
      clear hs
      refine zif_eq (tgt := 28) C dX8_sue_21 (by decide) (fun h21 => ?_) (fun h21 => ?_)
      · replace h21 := b2i_0.mp h21
        have o21 : okc S c = false := h21
        refine zconst (v := 0) C dX8_sue_28 (by decide) ?_
        refine zistore (L1 := [_, _, _, _, _, _, _, _, _, _]) C dX8_sue_29 rfl (Nat.le_of_ble_eq_true rfl) ?_
        refine ziload_n C dX8_sue_31 rfl ?_
        refine ziload_n C dX8_sue_32 rfl ?_
        refine zicmp_eq (tgt := 51) C dX8_sue_33 (by decide) (fun h33 => ?_) (fun h33 => ?_)
        · refine zconst (v := 0) C dX8_sue_51 (by decide) ?_
          refine zistore (L1 := [_, _, _, _, _, _, _, _, _, _]) C dX8_sue_52 rfl (Nat.le_of_ble_eq_true rfl) ?_
          refine zaload_n C dX8_sue_54 rfl ?_
          refine ziload C dX8_sue_55 rfl ?_
          refine zif_ne_f (tgt := 64) C dX8_sue_57 (by decide) (by decide) ?_
          refine zconst (v := 1) C dX8_sue_60 (by decide) ?_
          refine zgoto (tgt := 105) C dX8_sue_61 (by decide) ?_
          refine zcallV C (m_holds 1 (by decide) M hR) hy_X8_holds hv_X8_holds hl_X8_157 hR.1 rfl rfl rfl rfl (by decide) (by decide) (by omega) (by omega) rfl (by exact Nat.le_of_ble_eq_true rfl) dX8_sue_105 (fun v105 M hp105 => ?_)
          obtain ⟨S1, ⟨rfl, hs⟩, hR⟩ := hp105
          rw [hs] at hR
          clear hs
          refine zif_ne_f (tgt := 113) C dX8_sue_108 (by decide) (by decide) ?_
          refine zconst (v := 0) C dX8_sue_111 (by decide) ?_
          exact zend_i C hE dX8_sue_112 (by omega) (by omega) ⟨_, by first | (simp [o_sue, rng, zsA_g, zsN_g, zsN_2, zsA_1, zsA_c, zsA_l, zsL_g, zsL_1, zsL_c, zsL_a, zsN_N, h5, epn, h13, eqn, h21, o21, h33]; done) | (simp_all [o_sue, rng, zsA_g, zsN_g, zsN_2, zsA_1, zsA_c, zsA_l, zsL_g, zsL_1, zsL_c, zsL_a, zsN_N, h5, epn, h13, eqn, h21, o21, h33]; done), hR⟩
        · refine ziload C dX8_sue_36 rfl ?_
          refine zconst (v := 1) C dX8_sue_38 (by decide) ?_
          refine zldc C hk_X8_222 dX8_sue_39 ?_
          refine zcallS C (m_in x 1 1000000) hy_X8_in hst_X8_in hl_X8_137 rfl rfl (by decide) (by decide) (by omega) (by omega) rfl (by exact Nat.le_of_ble_eq_true rfl) dX8_sue_41 (fun v41 M hp41 => ?_)
          obtain ⟨rfl, rfl⟩ := hp41
          refine zif_eq (tgt := 51) C dX8_sue_44 (by decide) (fun h44 => ?_) (fun h44 => ?_)
          · replace h44 := b2i_0.mp h44
            refine zconst (v := 0) C dX8_sue_51 (by decide) ?_
            refine zistore (L1 := [_, _, _, _, _, _, _, _, _, _]) C dX8_sue_52 rfl (Nat.le_of_ble_eq_true rfl) ?_
            refine zaload_n C dX8_sue_54 rfl ?_
            refine ziload C dX8_sue_55 rfl ?_
            refine zif_ne_f (tgt := 64) C dX8_sue_57 (by decide) (by decide) ?_
            refine zconst (v := 1) C dX8_sue_60 (by decide) ?_
            refine zgoto (tgt := 105) C dX8_sue_61 (by decide) ?_
            refine zcallV C (m_holds 1 (by decide) M hR) hy_X8_holds hv_X8_holds hl_X8_157 hR.1 rfl rfl rfl rfl (by decide) (by decide) (by omega) (by omega) rfl (by exact Nat.le_of_ble_eq_true rfl) dX8_sue_105 (fun v105 M hp105 => ?_)
            obtain ⟨S1, ⟨rfl, hs⟩, hR⟩ := hp105
            rw [hs] at hR
            clear hs
            refine zif_ne_f (tgt := 113) C dX8_sue_108 (by decide) (by decide) ?_
            refine zconst (v := 0) C dX8_sue_111 (by decide) ?_
            exact zend_i C hE dX8_sue_112 (by omega) (by omega) ⟨_, by first | (simp [o_sue, rng, zsA_g, zsN_g, zsN_2, zsA_1, zsA_c, zsA_l, zsL_g, zsL_1, zsL_c, zsL_a, zsN_N, h5, epn, h13, eqn, h21, o21, h33, h44]; done) | (simp_all [o_sue, rng, zsA_g, zsN_g, zsN_2, zsA_1, zsA_c, zsA_l, zsL_g, zsL_1, zsL_c, zsL_a, zsN_N, h5, epn, h13, eqn, h21, o21, h33, h44]; done), hR⟩
          · replace h44 := b2i_n0.mp h44
            refine zconst (v := 1) C dX8_sue_47 (by decide) ?_
            refine zgoto (tgt := 52) C dX8_sue_48 (by decide) ?_
            refine zistore (L1 := [_, _, _, _, _, _, _, _, _, _]) C dX8_sue_52 rfl (Nat.le_of_ble_eq_true rfl) ?_
            refine zaload_n C dX8_sue_54 rfl ?_
            refine ziload C dX8_sue_55 rfl ?_
            refine zif_ne_f (tgt := 64) C dX8_sue_57 (by decide) (by decide) ?_
            refine zconst (v := 1) C dX8_sue_60 (by decide) ?_
            refine zgoto (tgt := 105) C dX8_sue_61 (by decide) ?_
            refine zcallV C (m_holds 1 (by decide) M hR) hy_X8_holds hv_X8_holds hl_X8_157 hR.1 rfl rfl rfl rfl (by decide) (by decide) (by omega) (by omega) rfl (by exact Nat.le_of_ble_eq_true rfl) dX8_sue_105 (fun v105 M hp105 => ?_)
            obtain ⟨S1, ⟨rfl, hs⟩, hR⟩ := hp105
            rw [hs] at hR
            clear hs
            refine zif_ne_f (tgt := 113) C dX8_sue_108 (by decide) (by decide) ?_
            refine zconst (v := 0) C dX8_sue_111 (by decide) ?_
            exact zend_i C hE dX8_sue_112 (by omega) (by omega) ⟨_, by first | (simp [o_sue, rng, zsA_g, zsN_g, zsN_2, zsA_1, zsA_c, zsA_l, zsL_g, zsL_1, zsL_c, zsL_a, zsN_N, h5, epn, h13, eqn, h21, o21, h33, h44]; done) | (simp_all [o_sue, rng, zsA_g, zsN_g, zsN_2, zsA_1, zsA_c, zsA_l, zsL_g, zsL_1, zsL_c, zsL_a, zsN_N, h5, epn, h13, eqn, h21, o21, h33, h44]; done), hR⟩
      · replace h21 := b2i_n0.mp h21
        have o21 : okc S c = true := h21
        refine zconst (v := 1) C dX8_sue_24 (by decide) ?_
        refine zgoto (tgt := 29) C dX8_sue_25 (by decide) ?_
        refine zistore (L1 := [_, _, _, _, _, _, _, _, _, _]) C dX8_sue_29 rfl (Nat.le_of_ble_eq_true rfl) ?_
        refine ziload_n C dX8_sue_31 rfl ?_
        refine ziload_n C dX8_sue_32 rfl ?_
        refine zicmp_eq (tgt := 51) C dX8_sue_33 (by decide) (fun h33 => ?_) (fun h33 => ?_)
        · refine zconst (v := 0) C dX8_sue_51 (by decide) ?_
          refine zistore (L1 := [_, _, _, _, _, _, _, _, _, _]) C dX8_sue_52 rfl (Nat.le_of_ble_eq_true rfl) ?_
          refine zaload_n C dX8_sue_54 rfl ?_
          refine ziload C dX8_sue_55 rfl ?_
          refine zif_ne_t (tgt := 64) C dX8_sue_57 (by decide) (by decide) ?_
          refine ziload C dX8_sue_64 rfl ?_
          refine zif_ne_f (tgt := 73) C dX8_sue_66 (by decide) (by decide) ?_
          refine zconst (v := 2) C dX8_sue_69 (by decide) ?_
          refine zgoto (tgt := 105) C dX8_sue_70 (by decide) ?_
          refine zcallV C (m_holds 2 (by decide) M hR) hy_X8_holds hv_X8_holds hl_X8_157 hR.1 rfl rfl rfl rfl (by decide) (by decide) (by omega) (by omega) rfl (by exact Nat.le_of_ble_eq_true rfl) dX8_sue_105 (fun v105 M hp105 => ?_)
          obtain ⟨S1, ⟨rfl, hs⟩, hR⟩ := hp105
          rw [hs] at hR
          clear hs
          refine zif_ne_f (tgt := 113) C dX8_sue_108 (by decide) (by decide) ?_
          refine zconst (v := 0) C dX8_sue_111 (by decide) ?_
          exact zend_i C hE dX8_sue_112 (by omega) (by omega) ⟨_, by first | (simp [o_sue, rng, zsA_g, zsN_g, zsN_2, zsA_1, zsA_c, zsA_l, zsL_g, zsL_1, zsL_c, zsL_a, zsN_N, h5, epn, h13, eqn, h21, o21, h33]; done) | (simp_all [o_sue, rng, zsA_g, zsN_g, zsN_2, zsA_1, zsA_c, zsA_l, zsL_g, zsL_1, zsL_c, zsL_a, zsN_N, h5, epn, h13, eqn, h21, o21, h33]; done), hR⟩
        · refine ziload C dX8_sue_36 rfl ?_
          refine zconst (v := 1) C dX8_sue_38 (by decide) ?_
          refine zldc C hk_X8_222 dX8_sue_39 ?_
          refine zcallS C (m_in x 1 1000000) hy_X8_in hst_X8_in hl_X8_137 rfl rfl (by decide) (by decide) (by omega) (by omega) rfl (by exact Nat.le_of_ble_eq_true rfl) dX8_sue_41 (fun v41 M hp41 => ?_)
          obtain ⟨rfl, rfl⟩ := hp41
          refine zif_eq (tgt := 51) C dX8_sue_44 (by decide) (fun h44 => ?_) (fun h44 => ?_)
          · replace h44 := b2i_0.mp h44
            refine zconst (v := 0) C dX8_sue_51 (by decide) ?_
            refine zistore (L1 := [_, _, _, _, _, _, _, _, _, _]) C dX8_sue_52 rfl (Nat.le_of_ble_eq_true rfl) ?_
            refine zaload_n C dX8_sue_54 rfl ?_
            refine ziload C dX8_sue_55 rfl ?_
            refine zif_ne_t (tgt := 64) C dX8_sue_57 (by decide) (by decide) ?_
            refine ziload C dX8_sue_64 rfl ?_
            refine zif_ne_f (tgt := 73) C dX8_sue_66 (by decide) (by decide) ?_
            refine zconst (v := 2) C dX8_sue_69 (by decide) ?_
            refine zgoto (tgt := 105) C dX8_sue_70 (by decide) ?_
            refine zcallV C (m_holds 2 (by decide) M hR) hy_X8_holds hv_X8_holds hl_X8_157 hR.1 rfl rfl rfl rfl (by decide) (by decide) (by omega) (by omega) rfl (by exact Nat.le_of_ble_eq_true rfl) dX8_sue_105 (fun v105 M hp105 => ?_)
            obtain ⟨S1, ⟨rfl, hs⟩, hR⟩ := hp105
            rw [hs] at hR
            clear hs
            refine zif_ne_f (tgt := 113) C dX8_sue_108 (by decide) (by decide) ?_
            refine zconst (v := 0) C dX8_sue_111 (by decide) ?_
            exact zend_i C hE dX8_sue_112 (by omega) (by omega) ⟨_, by first | (simp [o_sue, rng, zsA_g, zsN_g, zsN_2, zsA_1, zsA_c, zsA_l, zsL_g, zsL_1, zsL_c, zsL_a, zsN_N, h5, epn, h13, eqn, h21, o21, h33, h44]; done) | (simp_all [o_sue, rng, zsA_g, zsN_g, zsN_2, zsA_1, zsA_c, zsA_l, zsL_g, zsL_1, zsL_c, zsL_a, zsN_N, h5, epn, h13, eqn, h21, o21, h33, h44]; done), hR⟩
          · replace h44 := b2i_n0.mp h44
            refine zconst (v := 1) C dX8_sue_47 (by decide) ?_
            refine zgoto (tgt := 52) C dX8_sue_48 (by decide) ?_
            refine zistore (L1 := [_, _, _, _, _, _, _, _, _, _]) C dX8_sue_52 rfl (Nat.le_of_ble_eq_true rfl) ?_
            refine zaload_n C dX8_sue_54 rfl ?_
            refine ziload C dX8_sue_55 rfl ?_
            refine zif_ne_t (tgt := 64) C dX8_sue_57 (by decide) (by decide) ?_
            refine ziload C dX8_sue_64 rfl ?_
            refine zif_ne_t (tgt := 73) C dX8_sue_66 (by decide) (by decide) ?_
            refine zaload_n C dX8_sue_73 rfl ?_
            refine zmga C hR hf_X8_47 rfl dX8_sue_74 ?_
            refine ziload_n C dX8_sue_77 rfl ?_
            refine zmza C hR rfl rfl rfl (show _ < 40 from by omega) dX8_sue_78 ?_
            refine zif_ne (tgt := 100) C dX8_sue_79 (by decide) (fun h79 => ?_) (fun h79 => ?_)
            · refine zconst (v := 3) C dX8_sue_100 (by decide) ?_
              refine zgoto (tgt := 105) C dX8_sue_101 (by decide) ?_
              refine zcallV C (m_holds 3 (by decide) M hR) hy_X8_holds hv_X8_holds hl_X8_157 hR.1 rfl rfl rfl rfl (by decide) (by decide) (by omega) (by omega) rfl (by exact Nat.le_of_ble_eq_true rfl) dX8_sue_105 (fun v105 M hp105 => ?_)
              obtain ⟨S1, ⟨rfl, hs⟩, hR⟩ := hp105
              rw [hs] at hR
              clear hs
              refine zif_ne_f (tgt := 113) C dX8_sue_108 (by decide) (by decide) ?_
              refine zconst (v := 0) C dX8_sue_111 (by decide) ?_
              exact zend_i C hE dX8_sue_112 (by omega) (by omega) ⟨_, by first | (simp [o_sue, rng, zsA_g, zsN_g, zsN_2, zsA_1, zsA_c, zsA_l, zsL_g, zsL_1, zsL_c, zsL_a, zsN_N, h5, epn, h13, eqn, h21, o21, h33, h44, h79]; done) | (simp_all [o_sue, rng, zsA_g, zsN_g, zsN_2, zsA_1, zsA_c, zsA_l, zsL_g, zsL_1, zsL_c, zsL_a, zsN_N, h5, epn, h13, eqn, h21, o21, h33, h44, h79]; done), hR⟩
            · refine zaload_n C dX8_sue_82 rfl ?_
              refine zmga C hR hf_X8_47 rfl dX8_sue_83 ?_
              refine ziload_n C dX8_sue_86 rfl ?_
              refine zmza C hR rfl rfl rfl (show _ < 40 from by omega) dX8_sue_87 ?_
              refine zif_ne (tgt := 100) C dX8_sue_88 (by decide) (fun h88 => ?_) (fun h88 => ?_)
              · refine zconst (v := 3) C dX8_sue_100 (by decide) ?_
                refine zgoto (tgt := 105) C dX8_sue_101 (by decide) ?_
                refine zcallV C (m_holds 3 (by decide) M hR) hy_X8_holds hv_X8_holds hl_X8_157 hR.1 rfl rfl rfl rfl (by decide) (by decide) (by omega) (by omega) rfl (by exact Nat.le_of_ble_eq_true rfl) dX8_sue_105 (fun v105 M hp105 => ?_)
                obtain ⟨S1, ⟨rfl, hs⟩, hR⟩ := hp105
                rw [hs] at hR
                clear hs
                refine zif_ne_f (tgt := 113) C dX8_sue_108 (by decide) (by decide) ?_
                refine zconst (v := 0) C dX8_sue_111 (by decide) ?_
                exact zend_i C hE dX8_sue_112 (by omega) (by omega) ⟨_, by first | (simp [o_sue, rng, zsA_g, zsN_g, zsN_2, zsA_1, zsA_c, zsA_l, zsL_g, zsL_1, zsL_c, zsL_a, zsN_N, h5, epn, h13, eqn, h21, o21, h33, h44, h79, h88]; done) | (simp_all [o_sue, rng, zsA_g, zsN_g, zsN_2, zsA_1, zsA_c, zsA_l, zsL_g, zsL_1, zsL_c, zsL_a, zsN_N, h5, epn, h13, eqn, h21, o21, h33, h44, h79, h88]; done), hR⟩
              · refine zaload_n C dX8_sue_91 rfl ?_
                refine zmgi C hR hf_X8_151 rfl dX8_sue_92 ?_
                refine zbipush (v := 20) C dX8_sue_95 (by decide) ?_
                refine zicmp_ne (tgt := 104) C dX8_sue_97 (by decide) (fun h97 => ?_) (fun h97 => ?_)
                · replace h97 := zni_n (b := 20) h97
                  refine zconst (v := 0) C dX8_sue_104 (by decide) ?_
                  refine zcallV C (m_holds 0 (by decide) M hR) hy_X8_holds hv_X8_holds hl_X8_157 hR.1 rfl rfl rfl rfl (by decide) (by decide) (by omega) (by omega) rfl (by exact Nat.le_of_ble_eq_true rfl) dX8_sue_105 (fun v105 M hp105 => ?_)
                  obtain ⟨S1, ⟨rfl, hs⟩, hR⟩ := hp105
                  rw [hs] at hR
                  clear hs
                  refine zif_ne_t (tgt := 113) C dX8_sue_108 (by decide) (by decide) ?_
                  refine zconst (v := 0) C dX8_sue_113 (by decide) ?_
                  refine zistore (L1 := [_, _, _, _, _, _, _, _, _, _]) C dX8_sue_114 rfl (Nat.le_of_ble_eq_true rfl) ?_
                  refine zconst (v := 0) C dX8_sue_116 (by decide) ?_
                  refine zistore (L1 := [_, _, _, _, _, _, _, _, _, _]) C dX8_sue_117 rfl (Nat.le_of_ble_eq_true rfl) ?_
                  have loop : ∀ (r i : Nat), i + r = S.1 33 → ∀ M, zR g M0 mo ad (th S 0) M → zG g X M 0 0 119 [some (.ref mo), some (.int (nI pn)), some (.int (nI qn)), some (.int c), some (.int x), none, none, some (.int (b2i (voidL (S.2.2.1 34) (S.2.2.1 35) (S.2.2.1 39) (nI pn) (nI qn) i))), some (.int (nI i)), none] [] := by
                    intro r
                    induction r with
                    | zero =>
                      intro i hi M hR
                      refine ziload C dX8_sue_119 rfl ?_
                      refine zaload_n C dX8_sue_121 rfl ?_
                      refine zmgi C hR hf_X8_151 rfl dX8_sue_122 ?_
                      rw [show (zsN S 0 0).1 33 = S.1 33 from rfl]
                      refine zicmp_ge (tgt := 212) C dX8_sue_125 (by decide) (fun h125 => ?_) (fun h125 => by first | exact absurd (nI_le (by omega) (by omega)) h125 | exact absurd h125 (nI_le (by omega) (by omega)))
                      refine zaload_n C dX8_sue_212 rfl ?_
                      refine zmga C hR hf_X8_91 rfl dX8_sue_213 ?_
                      refine zaload_n C dX8_sue_216 rfl ?_
                      refine zmgi C hR hf_X8_151 rfl dX8_sue_217 ?_
                      refine ziload_n C dX8_sue_220 rfl ?_
                      refine zmis (i0 := S.1 33) C hR rfl rfl rfl (show _ < 20 from by omega) dX8_sue_221 (fun M hR => ?_)
                      refine zaload_n C dX8_sue_222 rfl ?_
                      refine zmga C hR hf_X8_94 rfl dX8_sue_223 ?_
                      refine zaload_n C dX8_sue_226 rfl ?_
                      refine zmgi C hR hf_X8_151 rfl dX8_sue_227 ?_
                      refine ziload_n C dX8_sue_230 rfl ?_
                      refine zmis (i0 := S.1 33) C hR rfl rfl rfl (show _ < 20 from by omega) dX8_sue_231 (fun M hR => ?_)
                      refine zaload_n C dX8_sue_232 rfl ?_
                      refine zmga C hR hf_X8_97 rfl dX8_sue_233 ?_
                      refine zaload_n C dX8_sue_236 rfl ?_
                      refine zmgi C hR hf_X8_151 rfl dX8_sue_237 ?_
                      refine ziload_n C dX8_sue_240 rfl ?_
                      refine zmis (i0 := S.1 33) C hR rfl rfl rfl (show _ < 20 from by omega) dX8_sue_241 (fun M hR => ?_)
                      refine zaload_n C dX8_sue_242 rfl ?_
                      refine zmga C hR hf_X8_100 rfl dX8_sue_243 ?_
                      refine zaload_n C dX8_sue_246 rfl ?_
                      refine zmgi C hR hf_X8_151 rfl dX8_sue_247 ?_
                      refine ziload C dX8_sue_250 rfl ?_
                      refine zmis (i0 := S.1 33) C hR rfl rfl rfl (show _ < 20 from by omega) dX8_sue_252 (fun M hR => ?_)
                      refine zaload_n C dX8_sue_253 rfl ?_
                      refine zmga C hR hf_X8_103 rfl dX8_sue_254 ?_
                      refine zaload_n C dX8_sue_257 rfl ?_
                      refine zmgi C hR hf_X8_151 rfl dX8_sue_258 ?_
                      refine zaload_n C dX8_sue_261 rfl ?_
                      refine zconst (v := 3) C dX8_sue_262 (by decide) ?_
                      refine ziload_n C dX8_sue_263 rfl ?_
                      refine ziload_n C dX8_sue_264 rfl ?_
                      refine zaload_n C dX8_sue_265 rfl ?_
                      refine zmgi C hR hf_X8_154 rfl dX8_sue_266 ?_
                      refine zcallV C (m_courtOn (S := zsA (zsA (zsA (zsA (th S 0) 34 (upd (S.2.2.1 34) (S.1 33) (nI pn))) 35 (upd (S.2.2.1 35) (S.1 33) (nI qn))) 36 (upd (S.2.2.1 36) (S.1 33) c)) 37 (upd (S.2.2.1 37) (S.1 33) x)) 3 pn qn (S.1 1) hb9 hb1 (by omega) (by omega) (hP pn hpn).1 (hP qn hqn).1 (by obtain ⟨c, h1, h2⟩ := (hP pn hpn).2.2 (nI (S.1 1)); exact ⟨c, by omega, h2⟩) (by obtain ⟨c, h1, h2⟩ := (hP qn hqn).2.2 (nI (S.1 1)); exact ⟨c, by omega, h2⟩) M hR) hy_X8_courtOn hv_X8_courtOn hl_X8_194 hR.1 rfl rfl rfl rfl (by decide) (by decide) (by omega) (by omega) rfl (by exact Nat.le_of_ble_eq_true rfl) dX8_sue_269 (fun v269 M hp269 => ?_)
                      obtain ⟨S1, ⟨hv, hs⟩, hR⟩ := hp269
                      have hv : v269 = courtOn S 3 pn qn (S.1 1) := hv
                      subst hv
                      rw [hs] at hR
                      clear hs
                      refine ziload_n C dX8_sue_272 rfl ?_
                      refine zicmp_ne (tgt := 280) C dX8_sue_273 (by decide) (fun h273 => ?_) (fun h273 => ?_)
                      · replace h273 : decide (courtOn S 3 pn qn (S.1 1) = c) = false := decide_eq_false h273
                        refine zconst (v := 0) C dX8_sue_280 (by decide) ?_
                        refine zmzs (i0 := S.1 33) C hR rfl rfl rfl (show _ < 20 from by omega) (by decide) dX8_sue_281 (fun M hR => ?_)
                        refine zaload_n C dX8_sue_282 rfl ?_
                        refine zmga C hR hf_X8_106 rfl dX8_sue_283 ?_
                        refine zaload_n C dX8_sue_286 rfl ?_
                        refine zmgi C hR hf_X8_151 rfl dX8_sue_287 ?_
                        refine ziload C dX8_sue_290 rfl ?_
                        refine zif_eq (tgt := 299) C dX8_sue_292 (by decide) (fun h292 => ?_) (fun h292 => ?_)
                        · replace h292 := b2i_0.mp h292
                          refine zconst (v := 0) C dX8_sue_299 (by decide) ?_
                          refine zmis (i0 := S.1 33) C hR rfl rfl rfl (show _ < 20 from by omega) dX8_sue_300 (fun M hR => ?_)
                          refine zaload_n C dX8_sue_301 rfl ?_
                          refine zmga C hR hf_X8_121 rfl dX8_sue_302 ?_
                          refine zaload_n C dX8_sue_305 rfl ?_
                          refine zmgi C hR hf_X8_151 rfl dX8_sue_306 ?_
                          refine zconst (v := -1) C dX8_sue_309 (by decide) ?_
                          refine zmis (i0 := S.1 33) C hR rfl rfl rfl (show _ < 20 from by omega) dX8_sue_310 (fun M hR => ?_)
                          refine zaload_n C dX8_sue_311 rfl ?_
                          refine zdup C dX8_sue_312 rfl ?_
                          refine zmgi C hR hf_X8_151 rfl dX8_sue_313 ?_
                          refine zconst (v := 1) C dX8_sue_316 (by decide) ?_
                          refine ziadd C dX8_sue_317 ?_
                          refine zmpi (v := S.1 33 + 1) C hR hf_X8_151 rfl rfl rfl (nI_1 (S.1 33)) dX8_sue_318 (fun M hR => ?_)
                          refine zaload_n C dX8_sue_321 rfl ?_
                          refine zmgi C hR hf_X8_151 rfl dX8_sue_322 ?_
                          refine zconst (v := 1) C dX8_sue_325 (by decide) ?_
                          refine zisub C dX8_sue_326 ?_
                          have evd : S.1 33 = i := by omega
                          exact zend_i C hE dX8_sue_327 (by omega) (by omega) ⟨_, by first | (simp [o_sue, sueS, isVoid, rng, nI_pred, b2i, zsA_g, zsN_g, zsN_2, zsA_1, zsA_c, zsA_l, zsL_g, zsL_1, zsL_c, zsL_a, zsN_N, courtOn_th, faithAt_th, lawOf_th, ruleOn_th, isGrown_th, canWit_th, lasting_th, isMinor_th, isWonAt_th, canJudge_th, canTest_th, heard_th, bothLive_th, lowestMarriage_th, kids_th, h5, epn, h13, eqn, o21, h33, h44, h79, h88, h97, h273, h292, evd]; done) | (simp_all [o_sue, sueS, isVoid, rng, nI_pred, b2i, zsA_g, zsN_g, zsN_2, zsA_1, zsA_c, zsA_l, zsL_g, zsL_1, zsL_c, zsL_a, zsN_N, courtOn_th, faithAt_th, lawOf_th, ruleOn_th, isGrown_th, canWit_th, lasting_th, isMinor_th, isWonAt_th, canJudge_th, canTest_th, heard_th, bothLive_th, lowestMarriage_th, kids_th, h5, epn, h13, eqn, o21, h33, h44, h79, h88, h97, h273, h292, evd]; done), hR⟩
                        · replace h292 := b2i_n0.mp h292
                          refine zconst (v := 1) C dX8_sue_295 (by decide) ?_
                          refine zgoto (tgt := 300) C dX8_sue_296 (by decide) ?_
                          refine zmis (i0 := S.1 33) C hR rfl rfl rfl (show _ < 20 from by omega) dX8_sue_300 (fun M hR => ?_)
                          refine zaload_n C dX8_sue_301 rfl ?_
                          refine zmga C hR hf_X8_121 rfl dX8_sue_302 ?_
                          refine zaload_n C dX8_sue_305 rfl ?_
                          refine zmgi C hR hf_X8_151 rfl dX8_sue_306 ?_
                          refine zconst (v := -1) C dX8_sue_309 (by decide) ?_
                          refine zmis (i0 := S.1 33) C hR rfl rfl rfl (show _ < 20 from by omega) dX8_sue_310 (fun M hR => ?_)
                          refine zaload_n C dX8_sue_311 rfl ?_
                          refine zdup C dX8_sue_312 rfl ?_
                          refine zmgi C hR hf_X8_151 rfl dX8_sue_313 ?_
                          refine zconst (v := 1) C dX8_sue_316 (by decide) ?_
                          refine ziadd C dX8_sue_317 ?_
                          refine zmpi (v := S.1 33 + 1) C hR hf_X8_151 rfl rfl rfl (nI_1 (S.1 33)) dX8_sue_318 (fun M hR => ?_)
                          refine zaload_n C dX8_sue_321 rfl ?_
                          refine zmgi C hR hf_X8_151 rfl dX8_sue_322 ?_
                          refine zconst (v := 1) C dX8_sue_325 (by decide) ?_
                          refine zisub C dX8_sue_326 ?_
                          have evd : S.1 33 = i := by omega
                          exact zend_i C hE dX8_sue_327 (by omega) (by omega) ⟨_, by first | (simp [o_sue, sueS, isVoid, rng, nI_pred, b2i, zsA_g, zsN_g, zsN_2, zsA_1, zsA_c, zsA_l, zsL_g, zsL_1, zsL_c, zsL_a, zsN_N, courtOn_th, faithAt_th, lawOf_th, ruleOn_th, isGrown_th, canWit_th, lasting_th, isMinor_th, isWonAt_th, canJudge_th, canTest_th, heard_th, bothLive_th, lowestMarriage_th, kids_th, h5, epn, h13, eqn, o21, h33, h44, h79, h88, h97, h273, h292, evd]; done) | (simp_all [o_sue, sueS, isVoid, rng, nI_pred, b2i, zsA_g, zsN_g, zsN_2, zsA_1, zsA_c, zsA_l, zsL_g, zsL_1, zsL_c, zsL_a, zsN_N, courtOn_th, faithAt_th, lawOf_th, ruleOn_th, isGrown_th, canWit_th, lasting_th, isMinor_th, isWonAt_th, canJudge_th, canTest_th, heard_th, bothLive_th, lowestMarriage_th, kids_th, h5, epn, h13, eqn, o21, h33, h44, h79, h88, h97, h273, h292, evd]; done), hR⟩
                      · replace h273 : decide (courtOn S 3 pn qn (S.1 1) = c) = true := decide_eq_true h273
                        refine zconst (v := 1) C dX8_sue_276 (by decide) ?_
                        refine zgoto (tgt := 281) C dX8_sue_277 (by decide) ?_
                        refine zmzs (i0 := S.1 33) C hR rfl rfl rfl (show _ < 20 from by omega) (by decide) dX8_sue_281 (fun M hR => ?_)
                        refine zaload_n C dX8_sue_282 rfl ?_
                        refine zmga C hR hf_X8_106 rfl dX8_sue_283 ?_
                        refine zaload_n C dX8_sue_286 rfl ?_
                        refine zmgi C hR hf_X8_151 rfl dX8_sue_287 ?_
                        refine ziload C dX8_sue_290 rfl ?_
                        refine zif_eq (tgt := 299) C dX8_sue_292 (by decide) (fun h292 => ?_) (fun h292 => ?_)
                        · replace h292 := b2i_0.mp h292
                          refine zconst (v := 0) C dX8_sue_299 (by decide) ?_
                          refine zmis (i0 := S.1 33) C hR rfl rfl rfl (show _ < 20 from by omega) dX8_sue_300 (fun M hR => ?_)
                          refine zaload_n C dX8_sue_301 rfl ?_
                          refine zmga C hR hf_X8_121 rfl dX8_sue_302 ?_
                          refine zaload_n C dX8_sue_305 rfl ?_
                          refine zmgi C hR hf_X8_151 rfl dX8_sue_306 ?_
                          refine zconst (v := -1) C dX8_sue_309 (by decide) ?_
                          refine zmis (i0 := S.1 33) C hR rfl rfl rfl (show _ < 20 from by omega) dX8_sue_310 (fun M hR => ?_)
                          refine zaload_n C dX8_sue_311 rfl ?_
                          refine zdup C dX8_sue_312 rfl ?_
                          refine zmgi C hR hf_X8_151 rfl dX8_sue_313 ?_
                          refine zconst (v := 1) C dX8_sue_316 (by decide) ?_
                          refine ziadd C dX8_sue_317 ?_
                          refine zmpi (v := S.1 33 + 1) C hR hf_X8_151 rfl rfl rfl (nI_1 (S.1 33)) dX8_sue_318 (fun M hR => ?_)
                          refine zaload_n C dX8_sue_321 rfl ?_
                          refine zmgi C hR hf_X8_151 rfl dX8_sue_322 ?_
                          refine zconst (v := 1) C dX8_sue_325 (by decide) ?_
                          refine zisub C dX8_sue_326 ?_
                          have evd : S.1 33 = i := by omega
                          exact zend_i C hE dX8_sue_327 (by omega) (by omega) ⟨_, by first | (simp [o_sue, sueS, isVoid, rng, nI_pred, b2i, zsA_g, zsN_g, zsN_2, zsA_1, zsA_c, zsA_l, zsL_g, zsL_1, zsL_c, zsL_a, zsN_N, courtOn_th, faithAt_th, lawOf_th, ruleOn_th, isGrown_th, canWit_th, lasting_th, isMinor_th, isWonAt_th, canJudge_th, canTest_th, heard_th, bothLive_th, lowestMarriage_th, kids_th, h5, epn, h13, eqn, o21, h33, h44, h79, h88, h97, h273, h292, evd]; done) | (simp_all [o_sue, sueS, isVoid, rng, nI_pred, b2i, zsA_g, zsN_g, zsN_2, zsA_1, zsA_c, zsA_l, zsL_g, zsL_1, zsL_c, zsL_a, zsN_N, courtOn_th, faithAt_th, lawOf_th, ruleOn_th, isGrown_th, canWit_th, lasting_th, isMinor_th, isWonAt_th, canJudge_th, canTest_th, heard_th, bothLive_th, lowestMarriage_th, kids_th, h5, epn, h13, eqn, o21, h33, h44, h79, h88, h97, h273, h292, evd]; done), hR⟩
                        · replace h292 := b2i_n0.mp h292
                          refine zconst (v := 1) C dX8_sue_295 (by decide) ?_
                          refine zgoto (tgt := 300) C dX8_sue_296 (by decide) ?_
                          refine zmis (i0 := S.1 33) C hR rfl rfl rfl (show _ < 20 from by omega) dX8_sue_300 (fun M hR => ?_)
                          refine zaload_n C dX8_sue_301 rfl ?_
                          refine zmga C hR hf_X8_121 rfl dX8_sue_302 ?_
                          refine zaload_n C dX8_sue_305 rfl ?_
                          refine zmgi C hR hf_X8_151 rfl dX8_sue_306 ?_
                          refine zconst (v := -1) C dX8_sue_309 (by decide) ?_
                          refine zmis (i0 := S.1 33) C hR rfl rfl rfl (show _ < 20 from by omega) dX8_sue_310 (fun M hR => ?_)
                          refine zaload_n C dX8_sue_311 rfl ?_
                          refine zdup C dX8_sue_312 rfl ?_
                          refine zmgi C hR hf_X8_151 rfl dX8_sue_313 ?_
                          refine zconst (v := 1) C dX8_sue_316 (by decide) ?_
                          refine ziadd C dX8_sue_317 ?_
                          refine zmpi (v := S.1 33 + 1) C hR hf_X8_151 rfl rfl rfl (nI_1 (S.1 33)) dX8_sue_318 (fun M hR => ?_)
                          refine zaload_n C dX8_sue_321 rfl ?_
                          refine zmgi C hR hf_X8_151 rfl dX8_sue_322 ?_
                          refine zconst (v := 1) C dX8_sue_325 (by decide) ?_
                          refine zisub C dX8_sue_326 ?_
                          have evd : S.1 33 = i := by omega
                          exact zend_i C hE dX8_sue_327 (by omega) (by omega) ⟨_, by first | (simp [o_sue, sueS, isVoid, rng, nI_pred, b2i, zsA_g, zsN_g, zsN_2, zsA_1, zsA_c, zsA_l, zsL_g, zsL_1, zsL_c, zsL_a, zsN_N, courtOn_th, faithAt_th, lawOf_th, ruleOn_th, isGrown_th, canWit_th, lasting_th, isMinor_th, isWonAt_th, canJudge_th, canTest_th, heard_th, bothLive_th, lowestMarriage_th, kids_th, h5, epn, h13, eqn, o21, h33, h44, h79, h88, h97, h273, h292, evd]; done) | (simp_all [o_sue, sueS, isVoid, rng, nI_pred, b2i, zsA_g, zsN_g, zsN_2, zsA_1, zsA_c, zsA_l, zsL_g, zsL_1, zsL_c, zsL_a, zsN_N, courtOn_th, faithAt_th, lawOf_th, ruleOn_th, isGrown_th, canWit_th, lasting_th, isMinor_th, isWonAt_th, canJudge_th, canTest_th, heard_th, bothLive_th, lowestMarriage_th, kids_th, h5, epn, h13, eqn, o21, h33, h44, h79, h88, h97, h273, h292, evd]; done), hR⟩
                    | succ r ih =>
                      intro i hi M hR
                      refine ziload C dX8_sue_119 rfl ?_
                      refine zaload_n C dX8_sue_121 rfl ?_
                      refine zmgi C hR hf_X8_151 rfl dX8_sue_122 ?_
                      rw [show (zsN S 0 0).1 33 = S.1 33 from rfl]
                      refine zicmp_ge (tgt := 212) C dX8_sue_125 (by decide) (fun h125 => by first | exact absurd h125 (nI_ge (by omega) (by omega)) | exact absurd (nI_ge (by omega) (by omega)) h125) (fun h125 => ?_)
                      refine zaload_n C dX8_sue_128 rfl ?_
                      refine zmga C hR hf_X8_91 rfl dX8_sue_129 ?_
                      refine ziload C dX8_sue_132 rfl ?_
                      refine zmia C hR rfl rfl rfl (show _ < 20 from by omega) dX8_sue_134 ?_
                      refine ziload_n C dX8_sue_135 rfl ?_
                      refine zicmp_ne (tgt := 150) C dX8_sue_136 (by decide) (fun h136 => ?_) (fun h136 => ?_)
                      · replace h136 : ¬ S.2.2.1 34 i = nI pn := h136
                        refine zaload_n C dX8_sue_150 rfl ?_
                        refine zmga C hR hf_X8_91 rfl dX8_sue_151 ?_
                        refine ziload C dX8_sue_154 rfl ?_
                        refine zmia C hR rfl rfl rfl (show _ < 20 from by omega) dX8_sue_156 ?_
                        refine ziload_n C dX8_sue_157 rfl ?_
                        refine zicmp_ne (tgt := 176) C dX8_sue_158 (by decide) (fun h158 => ?_) (fun h158 => ?_)
                        · replace h158 : ¬ S.2.2.1 34 i = nI qn := h158
                          refine zconst (v := 0) C dX8_sue_176 (by decide) ?_
                          refine zistore (L1 := [_, _, _, _, _, _, _, _, _, _]) C dX8_sue_177 rfl (Nat.le_of_ble_eq_true rfl) ?_
                          refine ziload C dX8_sue_179 rfl ?_
                          refine zif_ne (tgt := 199) C dX8_sue_181 (by decide) (fun h181 => ?_) (fun h181 => ?_)
                          · replace h181 := b2i_n0.mp h181
                            refine zconst (v := 1) C dX8_sue_199 (by decide) ?_
                            refine zgoto (tgt := 204) C dX8_sue_200 (by decide) ?_
                            refine zistore (L1 := [_, _, _, _, _, _, _, _, _, _]) C dX8_sue_204 rfl (Nat.le_of_ble_eq_true rfl) ?_
                            refine ziinc (L1 := [_, _, _, _, _, _, _, _, _, _]) (v := nI (i + 1)) C dX8_sue_206 rfl (nI_1 i) rfl ?_
                            refine zgoto (tgt := 119) C dX8_sue_209 (by decide) ?_
                            refine zfor [true, true, true, true, true, false, false, true, true, false] (L1 := [_, _, _, _, _, _, _, _, _, _]) rfl ?_
                            exact zcg (ih (i + 1) (by omega) M hR) (by first | (simp [zk1, voidL, b2i, h136, h158, h181]; done) | (simp_all [zk1, voidL, b2i, h136, h158, h181]; done))
                          · replace h181 := b2i_0.mp h181
                            refine ziload C dX8_sue_184 rfl ?_
                            refine zif_eq_t (tgt := 203) C dX8_sue_186 (by decide) (by decide) ?_
                            refine zconst (v := 0) C dX8_sue_203 (by decide) ?_
                            refine zistore (L1 := [_, _, _, _, _, _, _, _, _, _]) C dX8_sue_204 rfl (Nat.le_of_ble_eq_true rfl) ?_
                            refine ziinc (L1 := [_, _, _, _, _, _, _, _, _, _]) (v := nI (i + 1)) C dX8_sue_206 rfl (nI_1 i) rfl ?_
                            refine zgoto (tgt := 119) C dX8_sue_209 (by decide) ?_
                            refine zfor [true, true, true, true, true, false, false, true, true, false] (L1 := [_, _, _, _, _, _, _, _, _, _]) rfl ?_
                            exact zcg (ih (i + 1) (by omega) M hR) (by first | (simp [zk1, voidL, b2i, h136, h158, h181]; done) | (simp_all [zk1, voidL, b2i, h136, h158, h181]; done))
                        · replace h158 : S.2.2.1 34 i = nI qn := h158
                          refine zaload_n C dX8_sue_161 rfl ?_
                          refine zmga C hR hf_X8_94 rfl dX8_sue_162 ?_
                          refine ziload C dX8_sue_165 rfl ?_
                          refine zmia C hR rfl rfl rfl (show _ < 20 from by omega) dX8_sue_167 ?_
                          refine ziload_n C dX8_sue_168 rfl ?_
                          refine zicmp_ne (tgt := 176) C dX8_sue_169 (by decide) (fun h169 => ?_) (fun h169 => ?_)
                          · replace h169 : ¬ S.2.2.1 35 i = nI pn := h169
                            refine zconst (v := 0) C dX8_sue_176 (by decide) ?_
                            refine zistore (L1 := [_, _, _, _, _, _, _, _, _, _]) C dX8_sue_177 rfl (Nat.le_of_ble_eq_true rfl) ?_
                            refine ziload C dX8_sue_179 rfl ?_
                            refine zif_ne (tgt := 199) C dX8_sue_181 (by decide) (fun h181 => ?_) (fun h181 => ?_)
                            · replace h181 := b2i_n0.mp h181
                              refine zconst (v := 1) C dX8_sue_199 (by decide) ?_
                              refine zgoto (tgt := 204) C dX8_sue_200 (by decide) ?_
                              refine zistore (L1 := [_, _, _, _, _, _, _, _, _, _]) C dX8_sue_204 rfl (Nat.le_of_ble_eq_true rfl) ?_
                              refine ziinc (L1 := [_, _, _, _, _, _, _, _, _, _]) (v := nI (i + 1)) C dX8_sue_206 rfl (nI_1 i) rfl ?_
                              refine zgoto (tgt := 119) C dX8_sue_209 (by decide) ?_
                              refine zfor [true, true, true, true, true, false, false, true, true, false] (L1 := [_, _, _, _, _, _, _, _, _, _]) rfl ?_
                              exact zcg (ih (i + 1) (by omega) M hR) (by first | (simp [zk1, voidL, b2i, h136, h158, h169, h181]; done) | (simp_all [zk1, voidL, b2i, h136, h158, h169, h181]; done))
                            · replace h181 := b2i_0.mp h181
                              refine ziload C dX8_sue_184 rfl ?_
                              refine zif_eq_t (tgt := 203) C dX8_sue_186 (by decide) (by decide) ?_
                              refine zconst (v := 0) C dX8_sue_203 (by decide) ?_
                              refine zistore (L1 := [_, _, _, _, _, _, _, _, _, _]) C dX8_sue_204 rfl (Nat.le_of_ble_eq_true rfl) ?_
                              refine ziinc (L1 := [_, _, _, _, _, _, _, _, _, _]) (v := nI (i + 1)) C dX8_sue_206 rfl (nI_1 i) rfl ?_
                              refine zgoto (tgt := 119) C dX8_sue_209 (by decide) ?_
                              refine zfor [true, true, true, true, true, false, false, true, true, false] (L1 := [_, _, _, _, _, _, _, _, _, _]) rfl ?_
                              exact zcg (ih (i + 1) (by omega) M hR) (by first | (simp [zk1, voidL, b2i, h136, h158, h169, h181]; done) | (simp_all [zk1, voidL, b2i, h136, h158, h169, h181]; done))
                          · replace h169 : S.2.2.1 35 i = nI pn := h169
                            refine zconst (v := 1) C dX8_sue_172 (by decide) ?_
                            refine zgoto (tgt := 177) C dX8_sue_173 (by decide) ?_
                            refine zistore (L1 := [_, _, _, _, _, _, _, _, _, _]) C dX8_sue_177 rfl (Nat.le_of_ble_eq_true rfl) ?_
                            refine ziload C dX8_sue_179 rfl ?_
                            refine zif_ne (tgt := 199) C dX8_sue_181 (by decide) (fun h181 => ?_) (fun h181 => ?_)
                            · replace h181 := b2i_n0.mp h181
                              refine zconst (v := 1) C dX8_sue_199 (by decide) ?_
                              refine zgoto (tgt := 204) C dX8_sue_200 (by decide) ?_
                              refine zistore (L1 := [_, _, _, _, _, _, _, _, _, _]) C dX8_sue_204 rfl (Nat.le_of_ble_eq_true rfl) ?_
                              refine ziinc (L1 := [_, _, _, _, _, _, _, _, _, _]) (v := nI (i + 1)) C dX8_sue_206 rfl (nI_1 i) rfl ?_
                              refine zgoto (tgt := 119) C dX8_sue_209 (by decide) ?_
                              refine zfor [true, true, true, true, true, false, false, true, true, false] (L1 := [_, _, _, _, _, _, _, _, _, _]) rfl ?_
                              exact zcg (ih (i + 1) (by omega) M hR) (by first | (simp [zk1, voidL, b2i, h136, h158, h169, h181]; done) | (simp_all [zk1, voidL, b2i, h136, h158, h169, h181]; done))
                            · replace h181 := b2i_0.mp h181
                              refine ziload C dX8_sue_184 rfl ?_
                              refine zif_eq_f (tgt := 203) C dX8_sue_186 (by decide) (by decide) ?_
                              refine zaload_n C dX8_sue_189 rfl ?_
                              refine zmga C hR hf_X8_106 rfl dX8_sue_190 ?_
                              refine ziload C dX8_sue_193 rfl ?_
                              refine zmia C hR rfl rfl rfl (show _ < 20 from by omega) dX8_sue_195 ?_
                              refine zif_ne (tgt := 203) C dX8_sue_196 (by decide) (fun h196 => ?_) (fun h196 => ?_)
                              · replace h196 : ¬ S.2.2.1 39 i = 0 := h196
                                refine zconst (v := 0) C dX8_sue_203 (by decide) ?_
                                refine zistore (L1 := [_, _, _, _, _, _, _, _, _, _]) C dX8_sue_204 rfl (Nat.le_of_ble_eq_true rfl) ?_
                                refine ziinc (L1 := [_, _, _, _, _, _, _, _, _, _]) (v := nI (i + 1)) C dX8_sue_206 rfl (nI_1 i) rfl ?_
                                refine zgoto (tgt := 119) C dX8_sue_209 (by decide) ?_
                                refine zfor [true, true, true, true, true, false, false, true, true, false] (L1 := [_, _, _, _, _, _, _, _, _, _]) rfl ?_
                                exact zcg (ih (i + 1) (by omega) M hR) (by first | (simp [zk1, voidL, b2i, h136, h158, h169, h181, h196]; done) | (simp_all [zk1, voidL, b2i, h136, h158, h169, h181, h196]; done))
                              · replace h196 : S.2.2.1 39 i = 0 := h196
                                refine zconst (v := 1) C dX8_sue_199 (by decide) ?_
                                refine zgoto (tgt := 204) C dX8_sue_200 (by decide) ?_
                                refine zistore (L1 := [_, _, _, _, _, _, _, _, _, _]) C dX8_sue_204 rfl (Nat.le_of_ble_eq_true rfl) ?_
                                refine ziinc (L1 := [_, _, _, _, _, _, _, _, _, _]) (v := nI (i + 1)) C dX8_sue_206 rfl (nI_1 i) rfl ?_
                                refine zgoto (tgt := 119) C dX8_sue_209 (by decide) ?_
                                refine zfor [true, true, true, true, true, false, false, true, true, false] (L1 := [_, _, _, _, _, _, _, _, _, _]) rfl ?_
                                exact zcg (ih (i + 1) (by omega) M hR) (by first | (simp [zk1, voidL, b2i, h136, h158, h169, h181, h196]; done) | (simp_all [zk1, voidL, b2i, h136, h158, h169, h181, h196]; done))
                      · replace h136 : S.2.2.1 34 i = nI pn := h136
                        refine zaload_n C dX8_sue_139 rfl ?_
                        refine zmga C hR hf_X8_94 rfl dX8_sue_140 ?_
                        refine ziload C dX8_sue_143 rfl ?_
                        refine zmia C hR rfl rfl rfl (show _ < 20 from by omega) dX8_sue_145 ?_
                        refine ziload_n C dX8_sue_146 rfl ?_
                        refine zicmp_eq (tgt := 172) C dX8_sue_147 (by decide) (fun h147 => ?_) (fun h147 => ?_)
                        · replace h147 : S.2.2.1 35 i = nI qn := h147
                          refine zconst (v := 1) C dX8_sue_172 (by decide) ?_
                          refine zgoto (tgt := 177) C dX8_sue_173 (by decide) ?_
                          refine zistore (L1 := [_, _, _, _, _, _, _, _, _, _]) C dX8_sue_177 rfl (Nat.le_of_ble_eq_true rfl) ?_
                          refine ziload C dX8_sue_179 rfl ?_
                          refine zif_ne (tgt := 199) C dX8_sue_181 (by decide) (fun h181 => ?_) (fun h181 => ?_)
                          · replace h181 := b2i_n0.mp h181
                            refine zconst (v := 1) C dX8_sue_199 (by decide) ?_
                            refine zgoto (tgt := 204) C dX8_sue_200 (by decide) ?_
                            refine zistore (L1 := [_, _, _, _, _, _, _, _, _, _]) C dX8_sue_204 rfl (Nat.le_of_ble_eq_true rfl) ?_
                            refine ziinc (L1 := [_, _, _, _, _, _, _, _, _, _]) (v := nI (i + 1)) C dX8_sue_206 rfl (nI_1 i) rfl ?_
                            refine zgoto (tgt := 119) C dX8_sue_209 (by decide) ?_
                            refine zfor [true, true, true, true, true, false, false, true, true, false] (L1 := [_, _, _, _, _, _, _, _, _, _]) rfl ?_
                            exact zcg (ih (i + 1) (by omega) M hR) (by first | (simp [zk1, voidL, b2i, h136, h147, h181]; done) | (simp_all [zk1, voidL, b2i, h136, h147, h181]; done))
                          · replace h181 := b2i_0.mp h181
                            refine ziload C dX8_sue_184 rfl ?_
                            refine zif_eq_f (tgt := 203) C dX8_sue_186 (by decide) (by decide) ?_
                            refine zaload_n C dX8_sue_189 rfl ?_
                            refine zmga C hR hf_X8_106 rfl dX8_sue_190 ?_
                            refine ziload C dX8_sue_193 rfl ?_
                            refine zmia C hR rfl rfl rfl (show _ < 20 from by omega) dX8_sue_195 ?_
                            refine zif_ne (tgt := 203) C dX8_sue_196 (by decide) (fun h196 => ?_) (fun h196 => ?_)
                            · replace h196 : ¬ S.2.2.1 39 i = 0 := h196
                              refine zconst (v := 0) C dX8_sue_203 (by decide) ?_
                              refine zistore (L1 := [_, _, _, _, _, _, _, _, _, _]) C dX8_sue_204 rfl (Nat.le_of_ble_eq_true rfl) ?_
                              refine ziinc (L1 := [_, _, _, _, _, _, _, _, _, _]) (v := nI (i + 1)) C dX8_sue_206 rfl (nI_1 i) rfl ?_
                              refine zgoto (tgt := 119) C dX8_sue_209 (by decide) ?_
                              refine zfor [true, true, true, true, true, false, false, true, true, false] (L1 := [_, _, _, _, _, _, _, _, _, _]) rfl ?_
                              exact zcg (ih (i + 1) (by omega) M hR) (by first | (simp [zk1, voidL, b2i, h136, h147, h181, h196]; done) | (simp_all [zk1, voidL, b2i, h136, h147, h181, h196]; done))
                            · replace h196 : S.2.2.1 39 i = 0 := h196
                              refine zconst (v := 1) C dX8_sue_199 (by decide) ?_
                              refine zgoto (tgt := 204) C dX8_sue_200 (by decide) ?_
                              refine zistore (L1 := [_, _, _, _, _, _, _, _, _, _]) C dX8_sue_204 rfl (Nat.le_of_ble_eq_true rfl) ?_
                              refine ziinc (L1 := [_, _, _, _, _, _, _, _, _, _]) (v := nI (i + 1)) C dX8_sue_206 rfl (nI_1 i) rfl ?_
                              refine zgoto (tgt := 119) C dX8_sue_209 (by decide) ?_
                              refine zfor [true, true, true, true, true, false, false, true, true, false] (L1 := [_, _, _, _, _, _, _, _, _, _]) rfl ?_
                              exact zcg (ih (i + 1) (by omega) M hR) (by first | (simp [zk1, voidL, b2i, h136, h147, h181, h196]; done) | (simp_all [zk1, voidL, b2i, h136, h147, h181, h196]; done))
                        · replace h147 : ¬ S.2.2.1 35 i = nI qn := h147
                          refine zaload_n C dX8_sue_150 rfl ?_
                          refine zmga C hR hf_X8_91 rfl dX8_sue_151 ?_
                          refine ziload C dX8_sue_154 rfl ?_
                          refine zmia C hR rfl rfl rfl (show _ < 20 from by omega) dX8_sue_156 ?_
                          refine ziload_n C dX8_sue_157 rfl ?_
                          refine zicmp_ne (tgt := 176) C dX8_sue_158 (by decide) (fun h158 => ?_) (fun h158 => ?_)
                          · replace h158 : ¬ S.2.2.1 34 i = nI qn := h158
                            refine zconst (v := 0) C dX8_sue_176 (by decide) ?_
                            refine zistore (L1 := [_, _, _, _, _, _, _, _, _, _]) C dX8_sue_177 rfl (Nat.le_of_ble_eq_true rfl) ?_
                            refine ziload C dX8_sue_179 rfl ?_
                            refine zif_ne (tgt := 199) C dX8_sue_181 (by decide) (fun h181 => ?_) (fun h181 => ?_)
                            · replace h181 := b2i_n0.mp h181
                              refine zconst (v := 1) C dX8_sue_199 (by decide) ?_
                              refine zgoto (tgt := 204) C dX8_sue_200 (by decide) ?_
                              refine zistore (L1 := [_, _, _, _, _, _, _, _, _, _]) C dX8_sue_204 rfl (Nat.le_of_ble_eq_true rfl) ?_
                              refine ziinc (L1 := [_, _, _, _, _, _, _, _, _, _]) (v := nI (i + 1)) C dX8_sue_206 rfl (nI_1 i) rfl ?_
                              refine zgoto (tgt := 119) C dX8_sue_209 (by decide) ?_
                              refine zfor [true, true, true, true, true, false, false, true, true, false] (L1 := [_, _, _, _, _, _, _, _, _, _]) rfl ?_
                              exact zcg (ih (i + 1) (by omega) M hR) (by first | (simp [zk1, voidL, b2i, h136, h147, h158, h181]; done) | (simp_all [zk1, voidL, b2i, h136, h147, h158, h181]; done))
                            · replace h181 := b2i_0.mp h181
                              refine ziload C dX8_sue_184 rfl ?_
                              refine zif_eq_t (tgt := 203) C dX8_sue_186 (by decide) (by decide) ?_
                              refine zconst (v := 0) C dX8_sue_203 (by decide) ?_
                              refine zistore (L1 := [_, _, _, _, _, _, _, _, _, _]) C dX8_sue_204 rfl (Nat.le_of_ble_eq_true rfl) ?_
                              refine ziinc (L1 := [_, _, _, _, _, _, _, _, _, _]) (v := nI (i + 1)) C dX8_sue_206 rfl (nI_1 i) rfl ?_
                              refine zgoto (tgt := 119) C dX8_sue_209 (by decide) ?_
                              refine zfor [true, true, true, true, true, false, false, true, true, false] (L1 := [_, _, _, _, _, _, _, _, _, _]) rfl ?_
                              exact zcg (ih (i + 1) (by omega) M hR) (by first | (simp [zk1, voidL, b2i, h136, h147, h158, h181]; done) | (simp_all [zk1, voidL, b2i, h136, h147, h158, h181]; done))
                          · replace h158 : S.2.2.1 34 i = nI qn := h158
                            refine zaload_n C dX8_sue_161 rfl ?_
                            refine zmga C hR hf_X8_94 rfl dX8_sue_162 ?_
                            refine ziload C dX8_sue_165 rfl ?_
                            refine zmia C hR rfl rfl rfl (show _ < 20 from by omega) dX8_sue_167 ?_
                            refine ziload_n C dX8_sue_168 rfl ?_
                            refine zicmp_ne (tgt := 176) C dX8_sue_169 (by decide) (fun h169 => ?_) (fun h169 => ?_)
                            · replace h169 : ¬ S.2.2.1 35 i = nI pn := h169
                              refine zconst (v := 0) C dX8_sue_176 (by decide) ?_
                              refine zistore (L1 := [_, _, _, _, _, _, _, _, _, _]) C dX8_sue_177 rfl (Nat.le_of_ble_eq_true rfl) ?_
                              refine ziload C dX8_sue_179 rfl ?_
                              refine zif_ne (tgt := 199) C dX8_sue_181 (by decide) (fun h181 => ?_) (fun h181 => ?_)
                              · replace h181 := b2i_n0.mp h181
                                refine zconst (v := 1) C dX8_sue_199 (by decide) ?_
                                refine zgoto (tgt := 204) C dX8_sue_200 (by decide) ?_
                                refine zistore (L1 := [_, _, _, _, _, _, _, _, _, _]) C dX8_sue_204 rfl (Nat.le_of_ble_eq_true rfl) ?_
                                refine ziinc (L1 := [_, _, _, _, _, _, _, _, _, _]) (v := nI (i + 1)) C dX8_sue_206 rfl (nI_1 i) rfl ?_
                                refine zgoto (tgt := 119) C dX8_sue_209 (by decide) ?_
                                refine zfor [true, true, true, true, true, false, false, true, true, false] (L1 := [_, _, _, _, _, _, _, _, _, _]) rfl ?_
                                exact zcg (ih (i + 1) (by omega) M hR) (by first | (simp [zk1, voidL, b2i, h136, h147, h158, h169, h181]; done) | (simp_all [zk1, voidL, b2i, h136, h147, h158, h169, h181]; done))
                              · replace h181 := b2i_0.mp h181
                                refine ziload C dX8_sue_184 rfl ?_
                                refine zif_eq_t (tgt := 203) C dX8_sue_186 (by decide) (by decide) ?_
                                refine zconst (v := 0) C dX8_sue_203 (by decide) ?_
                                refine zistore (L1 := [_, _, _, _, _, _, _, _, _, _]) C dX8_sue_204 rfl (Nat.le_of_ble_eq_true rfl) ?_
                                refine ziinc (L1 := [_, _, _, _, _, _, _, _, _, _]) (v := nI (i + 1)) C dX8_sue_206 rfl (nI_1 i) rfl ?_
                                refine zgoto (tgt := 119) C dX8_sue_209 (by decide) ?_
                                refine zfor [true, true, true, true, true, false, false, true, true, false] (L1 := [_, _, _, _, _, _, _, _, _, _]) rfl ?_
                                exact zcg (ih (i + 1) (by omega) M hR) (by first | (simp [zk1, voidL, b2i, h136, h147, h158, h169, h181]; done) | (simp_all [zk1, voidL, b2i, h136, h147, h158, h169, h181]; done))
                            · replace h169 : S.2.2.1 35 i = nI pn := h169
                              refine zconst (v := 1) C dX8_sue_172 (by decide) ?_
                              refine zgoto (tgt := 177) C dX8_sue_173 (by decide) ?_
                              refine zistore (L1 := [_, _, _, _, _, _, _, _, _, _]) C dX8_sue_177 rfl (Nat.le_of_ble_eq_true rfl) ?_
                              refine ziload C dX8_sue_179 rfl ?_
                              refine zif_ne (tgt := 199) C dX8_sue_181 (by decide) (fun h181 => ?_) (fun h181 => ?_)
                              · replace h181 := b2i_n0.mp h181
                                refine zconst (v := 1) C dX8_sue_199 (by decide) ?_
                                refine zgoto (tgt := 204) C dX8_sue_200 (by decide) ?_
                                refine zistore (L1 := [_, _, _, _, _, _, _, _, _, _]) C dX8_sue_204 rfl (Nat.le_of_ble_eq_true rfl) ?_
                                refine ziinc (L1 := [_, _, _, _, _, _, _, _, _, _]) (v := nI (i + 1)) C dX8_sue_206 rfl (nI_1 i) rfl ?_
                                refine zgoto (tgt := 119) C dX8_sue_209 (by decide) ?_
                                refine zfor [true, true, true, true, true, false, false, true, true, false] (L1 := [_, _, _, _, _, _, _, _, _, _]) rfl ?_
                                exact zcg (ih (i + 1) (by omega) M hR) (by first | (simp [zk1, voidL, b2i, h136, h147, h158, h169, h181]; done) | (simp_all [zk1, voidL, b2i, h136, h147, h158, h169, h181]; done))
                              · replace h181 := b2i_0.mp h181
                                refine ziload C dX8_sue_184 rfl ?_
                                refine zif_eq_f (tgt := 203) C dX8_sue_186 (by decide) (by decide) ?_
                                refine zaload_n C dX8_sue_189 rfl ?_
                                refine zmga C hR hf_X8_106 rfl dX8_sue_190 ?_
                                refine ziload C dX8_sue_193 rfl ?_
                                refine zmia C hR rfl rfl rfl (show _ < 20 from by omega) dX8_sue_195 ?_
                                refine zif_ne (tgt := 203) C dX8_sue_196 (by decide) (fun h196 => ?_) (fun h196 => ?_)
                                · replace h196 : ¬ S.2.2.1 39 i = 0 := h196
                                  refine zconst (v := 0) C dX8_sue_203 (by decide) ?_
                                  refine zistore (L1 := [_, _, _, _, _, _, _, _, _, _]) C dX8_sue_204 rfl (Nat.le_of_ble_eq_true rfl) ?_
                                  refine ziinc (L1 := [_, _, _, _, _, _, _, _, _, _]) (v := nI (i + 1)) C dX8_sue_206 rfl (nI_1 i) rfl ?_
                                  refine zgoto (tgt := 119) C dX8_sue_209 (by decide) ?_
                                  refine zfor [true, true, true, true, true, false, false, true, true, false] (L1 := [_, _, _, _, _, _, _, _, _, _]) rfl ?_
                                  exact zcg (ih (i + 1) (by omega) M hR) (by first | (simp [zk1, voidL, b2i, h136, h147, h158, h169, h181, h196]; done) | (simp_all [zk1, voidL, b2i, h136, h147, h158, h169, h181, h196]; done))
                                · replace h196 : S.2.2.1 39 i = 0 := h196
                                  refine zconst (v := 1) C dX8_sue_199 (by decide) ?_
                                  refine zgoto (tgt := 204) C dX8_sue_200 (by decide) ?_
                                  refine zistore (L1 := [_, _, _, _, _, _, _, _, _, _]) C dX8_sue_204 rfl (Nat.le_of_ble_eq_true rfl) ?_
                                  refine ziinc (L1 := [_, _, _, _, _, _, _, _, _, _]) (v := nI (i + 1)) C dX8_sue_206 rfl (nI_1 i) rfl ?_
                                  refine zgoto (tgt := 119) C dX8_sue_209 (by decide) ?_
                                  refine zfor [true, true, true, true, true, false, false, true, true, false] (L1 := [_, _, _, _, _, _, _, _, _, _]) rfl ?_
                                  exact zcg (ih (i + 1) (by omega) M hR) (by first | (simp [zk1, voidL, b2i, h136, h147, h158, h169, h181, h196]; done) | (simp_all [zk1, voidL, b2i, h136, h147, h158, h169, h181, h196]; done))
                  refine zfor [true, true, true, true, true, false, false, true, true, false] (L1 := [_, _, _, _, _, _, _, _, _, _]) rfl ?_
                  exact zcg (loop (S.1 33) 0 (by omega) M hR)
                · replace h97 := zni_e (b := 20) (by omega) (by decide) h97
                  refine zconst (v := 3) C dX8_sue_100 (by decide) ?_
                  refine zgoto (tgt := 105) C dX8_sue_101 (by decide) ?_
                  refine zcallV C (m_holds 3 (by decide) M hR) hy_X8_holds hv_X8_holds hl_X8_157 hR.1 rfl rfl rfl rfl (by decide) (by decide) (by omega) (by omega) rfl (by exact Nat.le_of_ble_eq_true rfl) dX8_sue_105 (fun v105 M hp105 => ?_)
                  obtain ⟨S1, ⟨rfl, hs⟩, hR⟩ := hp105
                  rw [hs] at hR
                  clear hs
                  refine zif_ne_f (tgt := 113) C dX8_sue_108 (by decide) (by decide) ?_
                  refine zconst (v := 0) C dX8_sue_111 (by decide) ?_
                  exact zend_i C hE dX8_sue_112 (by omega) (by omega) ⟨_, by first | (simp [o_sue, rng, zsA_g, zsN_g, zsN_2, zsA_1, zsA_c, zsA_l, zsL_g, zsL_1, zsL_c, zsL_a, zsN_N, h5, epn, h13, eqn, h21, o21, h33, h44, h79, h88, h97]; done) | (simp_all [o_sue, rng, zsA_g, zsN_g, zsN_2, zsA_1, zsA_c, zsA_l, zsL_g, zsL_1, zsL_c, zsL_a, zsN_N, h5, epn, h13, eqn, h21, o21, h33, h44, h79, h88, h97]; done), hR⟩
set_option maxRecDepth 100000 in
set_option maxHeartbeats 1000000 in
theorem m_follows {g : zGh} {M0 : zM} {mo : Nat} {ad : Nat → Nat} {S : zS} (k : Nat) (its : Int32) (hk : k < 40) (hpar : iPar S k) (ht : iT S k) : zMc g M0 mo ad yX8_follows cX8_follows 4 (some .boolean) 1 23 mkI [.int (nI k), .int its] S (fun v S1 => v = b2i (follows S k its) ∧ S1 = S) := by
  intro M hR
  refine zof [some (.ref mo), some (.int (nI k)), some (.int its), none] (by decide +kernel) rfl rfl (Nat.le_of_ble_eq_true rfl) ?_
  intro X C hE hnm
  have C : zC g X RX8 cX8_follows 4 1 23 0 0 := C
  refine zjn 25 (fun x => x = parentOf S k) (fun J0_1 => ?_) (fun x0 hx0 => ?_)
  · refine zaload_n C dX8_follows_0 rfl ?_
    refine zmga C hR hf_X8_41 rfl dX8_follows_1 ?_
    refine ziload_n C dX8_follows_4 rfl ?_
    refine zmia C hR rfl rfl rfl (show _ < 40 from by omega) dX8_follows_5 ?_
    refine zconst (v := -1) C dX8_follows_6 (by decide) ?_
    refine zicmp_eq (tgt := 19) C dX8_follows_7 (by decide) (fun h7 => ?_) (fun h7 => ?_)
    · refine zaload_n C dX8_follows_19 rfl ?_
      refine zmga C hR hf_X8_38 rfl dX8_follows_20 ?_
      refine ziload_n C dX8_follows_23 rfl ?_
      refine zmia C hR rfl rfl rfl (show _ < 40 from by omega) dX8_follows_24 ?_
      exact J0_1 _ (by simp [parentOf, h7])
    · refine zaload_n C dX8_follows_10 rfl ?_
      refine zmga C hR hf_X8_41 rfl dX8_follows_11 ?_
      refine ziload_n C dX8_follows_14 rfl ?_
      refine zmia C hR rfl rfl rfl (show _ < 40 from by omega) dX8_follows_15 ?_
      refine zgoto (tgt := 25) C dX8_follows_16 (by decide) ?_
      exact J0_1 _ (by simp [parentOf, h7])
  · subst hx0
    refine zistore_n (L1 := [_, _, _, _]) C dX8_follows_25 rfl (Nat.le_of_ble_eq_true rfl) ?_
    refine ziload_n C dX8_follows_26 rfl ?_
    refine zconst (v := -1) C dX8_follows_27 (by decide) ?_
    refine zicmp_eq (tgt := 74) C dX8_follows_28 (by decide) (fun h28 => ?_) (fun h28 => ?_)
    · skip
      refine zconst (v := 0) C dX8_follows_74 (by decide) ?_
      exact zend_z C hE dX8_follows_75 (by omega) (by omega) (by first | exact Or.inl rfl | exact Or.inr rfl | exact b2i_b _) ⟨_, ⟨by simp [follows, b2i, h28], rfl⟩, hR⟩
    · obtain ⟨q, hq, eq⟩ : ∃ q, q < 40 ∧ parentOf S k = nI q := hpar.resolve_left h28
      have eqn := nI_clamp (show q < 2 ^ 31 by omega)
      refine zaload_n C dX8_follows_31 rfl ?_
      refine zmga C hR hf_X8_67 rfl dX8_follows_32 ?_
      refine ziload_n C dX8_follows_35 rfl ?_
      refine zmza (i0 := q) C hR rfl rfl eq (show _ < 40 from by omega) dX8_follows_36 ?_
      refine zif_eq (tgt := 74) C dX8_follows_37 (by decide) (fun h37 => ?_) (fun h37 => ?_)
      · refine zconst (v := 0) C dX8_follows_74 (by decide) ?_
        exact zend_z C hE dX8_follows_75 (by omega) (by omega) (by first | exact Or.inl rfl | exact Or.inr rfl | exact b2i_b _) ⟨_, ⟨by simp [follows, b2i, eq, eqn, h37, show ¬ nI q = -1 from eq ▸ h28], rfl⟩, hR⟩
      · refine zaload_n C dX8_follows_40 rfl ?_
        refine zmga C hR hf_X8_47 rfl dX8_follows_41 ?_
        refine ziload_n C dX8_follows_44 rfl ?_
        refine zmza C hR rfl rfl rfl (show _ < 40 from by omega) dX8_follows_45 ?_
        refine zif_ne (tgt := 74) C dX8_follows_46 (by decide) (fun h46 => ?_) (fun h46 => ?_)
        · refine zconst (v := 0) C dX8_follows_74 (by decide) ?_
          exact zend_z C hE dX8_follows_75 (by omega) (by omega) (by first | exact Or.inl rfl | exact Or.inr rfl | exact b2i_b _) ⟨_, ⟨by simp [follows, b2i, eq, eqn, h37, h46, show ¬ nI q = -1 from eq ▸ h28], rfl⟩, hR⟩
        · refine zaload_n C dX8_follows_49 rfl ?_
          refine ziload_n C dX8_follows_50 rfl ?_
          refine zcallV C (m_isMinor k (by omega) M hR) hy_X8_isMinor hv_X8_isMinor hl_X8_202 hR.1 rfl rfl rfl rfl (by decide) (by decide) (by omega) (by omega) rfl (by exact Nat.le_of_ble_eq_true rfl) dX8_follows_51 (fun v51 M hp51 => ?_)
          obtain ⟨S1, ⟨rfl, hs⟩, hR⟩ := hp51
          rw [hs] at hR
          clear hs
          refine zif_eq (tgt := 74) C dX8_follows_54 (by decide) (fun h54 => ?_) (fun h54 => ?_)
          · replace h54 := b2i_0.mp h54
            refine zconst (v := 0) C dX8_follows_74 (by decide) ?_
            exact zend_z C hE dX8_follows_75 (by omega) (by omega) (by first | exact Or.inl rfl | exact Or.inr rfl | exact b2i_b _) ⟨_, ⟨by simp [follows, b2i, eq, eqn, h37, h46, h54, show ¬ nI q = -1 from eq ▸ h28], rfl⟩, hR⟩
          · replace h54 := b2i_n0.mp h54
            refine zaload_n C dX8_follows_57 rfl ?_
            refine ziload_n C dX8_follows_58 rfl ?_
            refine zaload_n C dX8_follows_59 rfl ?_
            refine zmgi C hR hf_X8_154 rfl dX8_follows_60 ?_
            refine zcallV C (m_faithAt k _ hk ht M hR) hy_X8_faithOn hv_X8_faithOn hl_X8_188 hR.1 rfl rfl rfl rfl (by decide) (by decide) (by omega) (by omega) rfl (by exact Nat.le_of_ble_eq_true rfl) dX8_follows_63 (fun v63 M hp63 => ?_)
            obtain ⟨S1, ⟨rfl, hs⟩, hR⟩ := hp63
            rw [hs] at hR
            clear hs
            refine ziload_n C dX8_follows_66 rfl ?_
            refine zicmp_eq (tgt := 74) C dX8_follows_67 (by decide) (fun h67 => ?_) (fun h67 => ?_)
            · refine zconst (v := 0) C dX8_follows_74 (by decide) ?_
              exact zend_z C hE dX8_follows_75 (by omega) (by omega) (by first | exact Or.inl rfl | exact Or.inr rfl | exact b2i_b _) ⟨_, ⟨by simp [follows, b2i, eq, eqn, h37, h46, h54, h67, show ¬ nI q = -1 from eq ▸ h28], rfl⟩, hR⟩
            · refine zconst (v := 1) C dX8_follows_70 (by decide) ?_
              refine zgoto (tgt := 75) C dX8_follows_71 (by decide) ?_
              exact zend_z C hE dX8_follows_75 (by omega) (by omega) (by first | exact Or.inl rfl | exact Or.inr rfl | exact b2i_b _) ⟨_, ⟨by simp [follows, b2i, eq, eqn, h37, h46, h54, h67, show ¬ nI q = -1 from eq ▸ h28], rfl⟩, hR⟩
set_option maxRecDepth 100000 in
set_option maxHeartbeats 1000000 in
theorem m_turns {g : zGh} {M0 : zM} {mo : Nat} {ad : Nat → Nat} {S : zS} (p t : Nat) (hb13 : S.1 13 ≤ 40) (hp : p < S.1 13) (ht : t < 1023) (htk : S.2.2.1 20 p = nI (t + 1)) (hT : ∀ k, k < S.1 13 → ∃ t, t < 1023 ∧ S.2.2.1 20 k = nI (t + 1)) (hpar : ∀ k, k < S.1 13 → iPar S k) : zMc g M0 mo ad yX8_turns cX8_turns 5 none 2 46 mkV [.int (nI p)] S (fun v S1 => S1 = turnsS S p) := by
  intro M hR
  refine zof [some (.ref mo), some (.int (nI p)), none, none, none] (by decide +kernel) rfl rfl (Nat.le_of_ble_eq_true rfl) ?_
  intro X C hE hnm
  have C : zC g X RX8 cX8_turns 5 2 46 0 0 := C
  obtain ⟨its, ei⟩ : ∃ x, x = S.2.2.1 22 p := ⟨_, rfl⟩
  obtain ⟨T, eT⟩ : ∃ x, x = turn1 (staysS S p) p t its := ⟨_, rfl⟩
  obtain ⟨f1, f2, f3, f4, f5⟩ := turn1_f (staysS S p) p t its
  rw [← eT] at f1 f2 f3 f4 f5
  have hft : fT S p = t := fT_eq (by omega) htk
  have loop : ∀ (r i : Nat), i + r = S.1 13 → ∀ M, zR g M0 mo ad (turnL p its T i) M → zG g X M 0 0 93 [some (.ref mo), some (.int (nI p)), some (.int its), none, some (.int (nI i))] [] := by
    intro r
    induction r with
    | zero =>
      intro i hi M hR
      refine ziload C dX8_turns_93 rfl ?_
      refine zaload_n C dX8_turns_95 rfl ?_
      refine zmgi C hR hf_X8_145 rfl dX8_turns_96 ?_
      rw [show (turnL p its T i).1 13 = S.1 13 from congrFun ((turnL_f p its T i).1.trans f1) 13]
      refine zicmp_ge (tgt := 157) C dX8_turns_99 (by decide) (fun h99 => ?_) (fun h99 => by first | exact absurd (nI_le (by omega) (by omega)) h99 | exact absurd h99 (nI_le (by omega) (by omega)))
      exact zend_v C hE dX8_turns_157 (by omega) (by omega) ⟨_, by rw [turnsS, hft, ← ei, ← eT, show S.1 13 = i by omega], hR⟩
    | succ r ih =>
      intro i hi M hR
      have hi2 : i < S.1 13 := by omega
      obtain ⟨g1, g2, g3, g4, g5⟩ := turnL_f p its T i
      obtain ⟨A, eA⟩ : ∃ x, x = turnL p its T i := ⟨_, rfl⟩
      refine ziload C dX8_turns_93 rfl ?_
      refine zaload_n C dX8_turns_95 rfl ?_
      refine zmgi C hR hf_X8_145 rfl dX8_turns_96 ?_
      rw [show (turnL p its T i).1 13 = S.1 13 from congrFun (g1.trans f1) 13]
      refine zicmp_ge (tgt := 157) C dX8_turns_99 (by decide) (fun h99 => by first | exact absurd h99 (nI_ge (by omega) (by omega)) | exact absurd (nI_ge (by omega) (by omega)) h99) (fun h99 => ?_)
      refine zaload_n C dX8_turns_102 rfl ?_
      refine zmga C hR hf_X8_67 rfl dX8_turns_103 ?_
      refine ziload C dX8_turns_106 rfl ?_
      refine zjn 119 (fun x => x = b2i (decide (i = p))) (fun J108_1 => ?_) (fun x108 hx108 => ?_)
      · refine ziload C dX8_turns_108 rfl ?_
        refine ziload_n C dX8_turns_110 rfl ?_
        refine zicmp_ne (tgt := 118) C dX8_turns_111 (by decide) (fun h111 => ?_) (fun h111 => ?_)
        · replace h111 := zni_n h111
          refine zconst (v := 0) C dX8_turns_118 (by decide) ?_
          exact J108_1 _ (by simp [b2i, h111])
        · replace h111 := zni_e (by omega) (by omega) h111
          refine zconst (v := 1) C dX8_turns_114 (by decide) ?_
          refine zgoto (tgt := 119) C dX8_turns_115 (by decide) ?_
          exact J108_1 _ (by simp [b2i, h111])
      · subst hx108
        refine zmzs C hR rfl rfl rfl (show _ < 40 from by omega) (b2i_b _) dX8_turns_119 (fun M hR => ?_)
        refine ziload C dX8_turns_120 rfl ?_
        refine ziload_n C dX8_turns_122 rfl ?_
        refine zicmp_eq (tgt := 151) C dX8_turns_123 (by decide) (fun h123 => ?_) (fun h123 => ?_)
        · replace h123 := zni_e (by omega) (by omega) h123
          refine ziinc (L1 := [_, _, _, _, _]) (v := nI (i + 1)) C dX8_turns_151 rfl (nI_1 i) rfl ?_
          refine zgoto (tgt := 93) C dX8_turns_154 (by decide) ?_
          exact ih (i + 1) (by omega) M (hR.eqv (by rw [turnL, turnK, if_neg (fun h => h.1 h123)]))
        · replace h123 := zni_n h123
          obtain ⟨u, hu, eu⟩ := hT i hi2
          have eu2 : (turnL p its T i).2.2.1 20 i = nI (u + 1) := (g5 i (Nat.le_refl _)).trans ((f5 i h123).trans eu)
          refine zaload_n C dX8_turns_126 rfl ?_
          refine ziload C dX8_turns_127 rfl ?_
          refine ziload_n C dX8_turns_129 rfl ?_
          refine zcallV C (m_follows (S := zsA (turnL p its T i) 24 (upd ((turnL p its T i).2.2.1 24) i (b2i (decide (i = p))))) i its (by omega) (iPar_eq ((g4 15 (by decide) (by decide) (by decide)).trans (f4 15 (by decide) (by decide))) ((g4 16 (by decide) (by decide) (by decide)).trans (f4 16 (by decide) (by decide))) (hpar i hi2)) ⟨u, by omega, eu2⟩ M hR) hy_X8_follows hv_X8_follows hl_X8_215 hR.1 rfl rfl rfl rfl (by decide) (by decide) (by omega) (by omega) rfl (by exact Nat.le_of_ble_eq_true rfl) dX8_turns_130 (fun v130 M hp130 => ?_)
          obtain ⟨S1, ⟨rfl, hs⟩, hR⟩ := hp130
          rw [hs] at hR
          clear hs
          refine zif_eq (tgt := 151) C dX8_turns_133 (by decide) (fun h133 => ?_) (fun h133 => ?_)
          · replace h133 := b2i_0.mp h133
            refine ziinc (L1 := [_, _, _, _, _]) (v := nI (i + 1)) C dX8_turns_151 rfl (nI_1 i) rfl ?_
            refine zgoto (tgt := 93) C dX8_turns_154 (by decide) ?_
            exact ih (i + 1) (by omega) M (hR.eqv (by rw [turnL, turnK, if_neg (fun h => by rw [h133] at h; exact absurd h.2 (by simp))]))
          · replace h133 := b2i_n0.mp h133
            refine zaload_n C dX8_turns_136 rfl ?_
            refine zmga C hR hf_X8_67 rfl dX8_turns_137 ?_
            refine ziload C dX8_turns_140 rfl ?_
            refine zconst (v := 1) C dX8_turns_142 (by decide) ?_
            refine zmzs C hR rfl rfl rfl (show _ < 40 from by omega) (Or.inr rfl) dX8_turns_143 (fun M hR => ?_)
            refine zaload_n C dX8_turns_144 rfl ?_
            refine ziload C dX8_turns_145 rfl ?_
            refine ziload_n C dX8_turns_147 rfl ?_
            refine zcallV C (m_takes (S := zsA (zsA (turnL p its T i) 24 (upd ((turnL p its T i).2.2.1 24) i (b2i (decide (i = p))))) 24 (upd (upd ((turnL p its T i).2.2.1 24) i (b2i (decide (i = p)))) i 1)) i (u + 1) its (by omega) (by omega) eu2 M hR) hy_X8_takes hv_X8_takes hl_X8_198 hR.1 rfl rfl rfl rfl (by decide) (by decide) (by omega) (by omega) rfl (by exact Nat.le_of_ble_eq_true rfl) dX8_turns_148 (fun v148 M hp148 => ?_)
            obtain ⟨S1, hs, hR⟩ := hp148
            rw [hs] at hR
            clear hs
            refine ziinc (L1 := [_, _, _, _, _]) (v := nI (i + 1)) C dX8_turns_151 rfl (nI_1 i) rfl ?_
            refine zgoto (tgt := 93) C dX8_turns_154 (by decide) ?_
            exact ih (i + 1) (by omega) M (hR.eqv (by rw [turnL, turnK, if_pos ⟨h123, h133⟩]))
  refine zaload_n C dX8_turns_0 rfl ?_
  refine zmga C hR hf_X8_61 rfl dX8_turns_1 ?_
  refine ziload_n C dX8_turns_4 rfl ?_
  refine zmia C hR rfl rfl rfl (show _ < 40 from by omega) dX8_turns_5 ?_
  rw [← ei]
  refine zistore_n (L1 := [_, _, _, _, _]) C dX8_turns_6 rfl (Nat.le_of_ble_eq_true rfl) ?_
  refine zsipush (v := 1024) C dX8_turns_7 (by decide) ?_
  refine ziload_n C dX8_turns_10 rfl ?_
  refine zimul C dX8_turns_11 ?_
  refine zaload_n C dX8_turns_12 rfl ?_
  refine zmga C hR hf_X8_54 rfl dX8_turns_13 ?_
  refine ziload_n C dX8_turns_16 rfl ?_
  refine zmia C hR rfl rfl rfl (show _ < 40 from by omega) dX8_turns_17 ?_
  rw [htk]
  refine ziadd C dX8_turns_18 ?_
  rw [zx_tk p (t + 1)]
  refine zistore_n (L1 := [_, _, _, _, _]) C dX8_turns_19 rfl (Nat.le_of_ble_eq_true rfl) ?_
  refine zaload_n C dX8_turns_20 rfl ?_
  refine ziload_n C dX8_turns_21 rfl ?_
  refine zcallV C (m_stays p (by omega) M hR) hy_X8_stays hv_X8_stays hl_X8_211 hR.1 rfl rfl rfl rfl (by decide) (by decide) (by omega) (by omega) rfl (by exact Nat.le_of_ble_eq_true rfl) dX8_turns_22 (fun v22 M hp22 => ?_)
  obtain ⟨S1, hs, hR⟩ := hp22
  rw [hs] at hR
  clear hs
  refine zaload_n C dX8_turns_25 rfl ?_
  refine zmga C hR hf_X8_54 rfl dX8_turns_26 ?_
  refine ziload_n C dX8_turns_29 rfl ?_
  refine zmia C hR rfl rfl rfl (show _ < 40 from by omega) dX8_turns_30 ?_
  rw [show (staysS S p).2.2.1 20 p = nI (t + 1) from htk]
  refine zconst (v := 1) C dX8_turns_31 (by decide) ?_
  refine zicmp_le (tgt := 84) C dX8_turns_32 (by decide) (fun h32 => ?_) (fun h32 => ?_)
  · have ht0 : ¬ 1 ≤ t := fun h => absurd h32 (by rw [show (1 : Int32) = nI 1 from rfl, nI_leI (by omega) (by decide)]; omega)
    refine zaload_n C dX8_turns_84 rfl ?_
    refine ziload_n C dX8_turns_85 rfl ?_
    refine ziload_n C dX8_turns_86 rfl ?_
    refine zcallV C (m_takes (S := staysS S p) p (t + 1) its (by omega) (by omega) htk M hR) hy_X8_takes hv_X8_takes hl_X8_198 hR.1 rfl rfl rfl rfl (by decide) (by decide) (by omega) (by omega) rfl (by exact Nat.le_of_ble_eq_true rfl) dX8_turns_87 (fun v87 M hp87 => ?_)
    obtain ⟨S1, hs, hR⟩ := hp87
    rw [hs] at hR
    clear hs
    refine zconst (v := 0) C dX8_turns_90 (by decide) ?_
    refine zistore (L1 := [_, _, _, _, _]) C dX8_turns_91 rfl (Nat.le_of_ble_eq_true rfl) ?_
    refine zfor [true, true, true, false, true] (L1 := [_, _, _, _, _]) rfl ?_
    exact loop (S.1 13) 0 (by omega) M (hR.eqv (by rw [turnL, eT, turn1, if_neg (by unfold undoB; rw [decide_eq_false ht0]; simp)]))
  · have ht0 : 1 ≤ t := by have h := mt (fun h => (nI_leI (a := t + 1) (b := 1) (by omega) (by decide)).mpr h) h32; omega
    refine zaload_n C dX8_turns_35 rfl ?_
    refine zmga C hR hf_X8_58 rfl dX8_turns_36 ?_
    refine ziload_n C dX8_turns_39 rfl ?_
    refine zconst (v := 2) C dX8_turns_40 (by decide) ?_
    refine zisub C dX8_turns_41 ?_
    refine zmia (i0 := 1024 * p + (t + 1) - 2) C hR rfl rfl (by rw [show (2 : Int32) = nI 2 from rfl, pk_sub (by omega)]) (show _ < 40960 from by omega) dX8_turns_42 ?_
    refine zbipush (v := 8) C dX8_turns_43 (by decide) ?_
    refine zirem C dX8_turns_45 (by decide) ?_
    refine ziload_n C dX8_turns_46 rfl ?_
    refine zicmp_ne (tgt := 84) C dX8_turns_47 (by decide) (fun h47 => ?_) (fun h47 => ?_)
    · refine zaload_n C dX8_turns_84 rfl ?_
      refine ziload_n C dX8_turns_85 rfl ?_
      refine ziload_n C dX8_turns_86 rfl ?_
      refine zcallV C (m_takes (S := staysS S p) p (t + 1) its (by omega) (by omega) htk M hR) hy_X8_takes hv_X8_takes hl_X8_198 hR.1 rfl rfl rfl rfl (by decide) (by decide) (by omega) (by omega) rfl (by exact Nat.le_of_ble_eq_true rfl) dX8_turns_87 (fun v87 M hp87 => ?_)
      obtain ⟨S1, hs, hR⟩ := hp87
      rw [hs] at hR
      clear hs
      refine zconst (v := 0) C dX8_turns_90 (by decide) ?_
      refine zistore (L1 := [_, _, _, _, _]) C dX8_turns_91 rfl (Nat.le_of_ble_eq_true rfl) ?_
      refine zfor [true, true, true, false, true] (L1 := [_, _, _, _, _]) rfl ?_
      exact loop (S.1 13) 0 (by omega) M (hR.eqv (by rw [turnL, eT, turn1, if_neg (by unfold undoB; rw [decide_eq_false h47]; simp)]))
    · refine zaload_n C dX8_turns_50 rfl ?_
      refine zmgi C hR hf_X8_154 rfl dX8_turns_51 ?_
      refine zaload_n C dX8_turns_54 rfl ?_
      refine zmga C hR hf_X8_58 rfl dX8_turns_55 ?_
      refine ziload_n C dX8_turns_58 rfl ?_
      refine zconst (v := 1) C dX8_turns_59 (by decide) ?_
      refine zisub C dX8_turns_60 ?_
      refine zmia (i0 := 1024 * p + (t + 1) - 1) C hR rfl rfl (by rw [show (1 : Int32) = nI 1 from rfl, pk_sub (by omega)]) (show _ < 40960 from by omega) dX8_turns_61 ?_
      refine zbipush (v := 8) C dX8_turns_62 (by decide) ?_
      refine zidiv C dX8_turns_64 (by decide) ?_
      refine zisub C dX8_turns_65 ?_
      refine zbipush (v := 100) C dX8_turns_66 (by decide) ?_
      refine zicmp_ge (tgt := 84) C dX8_turns_68 (by decide) (fun h68 => ?_) (fun h68 => ?_)
      · replace h68 := zlt_f h68
        refine zaload_n C dX8_turns_84 rfl ?_
        refine ziload_n C dX8_turns_85 rfl ?_
        refine ziload_n C dX8_turns_86 rfl ?_
        refine zcallV C (m_takes (S := staysS S p) p (t + 1) its (by omega) (by omega) htk M hR) hy_X8_takes hv_X8_takes hl_X8_198 hR.1 rfl rfl rfl rfl (by decide) (by decide) (by omega) (by omega) rfl (by exact Nat.le_of_ble_eq_true rfl) dX8_turns_87 (fun v87 M hp87 => ?_)
        obtain ⟨S1, hs, hR⟩ := hp87
        rw [hs] at hR
        clear hs
        refine zconst (v := 0) C dX8_turns_90 (by decide) ?_
        refine zistore (L1 := [_, _, _, _, _]) C dX8_turns_91 rfl (Nat.le_of_ble_eq_true rfl) ?_
        refine zfor [true, true, true, false, true] (L1 := [_, _, _, _, _]) rfl ?_
        exact loop (S.1 13) 0 (by omega) M (hR.eqv (by rw [turnL, eT, turn1, if_neg (by unfold undoB; rw [h68]; simp)]))
      · replace h68 := zlt_t h68
        refine zaload_n C dX8_turns_71 rfl ?_
        refine zmga C hR hf_X8_54 rfl dX8_turns_72 ?_
        refine ziload_n C dX8_turns_75 rfl ?_
        refine zdup2_11 C dX8_turns_76 rfl rfl ?_
        refine zmia C hR rfl rfl rfl (show _ < 40 from by omega) dX8_turns_77 ?_
        rw [show (staysS S p).2.2.1 20 p = nI (t + 1) from htk]
        refine zconst (v := 1) C dX8_turns_78 (by decide) ?_
        refine zisub C dX8_turns_79 ?_
        rw [nI_pred]
        refine zmis C hR rfl rfl rfl (show _ < 40 from by omega) dX8_turns_80 (fun M hR => ?_)
        refine zgoto (tgt := 90) C dX8_turns_81 (by decide) ?_
        refine zconst (v := 0) C dX8_turns_90 (by decide) ?_
        refine zistore (L1 := [_, _, _, _, _]) C dX8_turns_91 rfl (Nat.le_of_ble_eq_true rfl) ?_
        refine zfor [true, true, true, false, true] (L1 := [_, _, _, _, _]) rfl ?_
        exact loop (S.1 13) 0 (by omega) M (hR.eqv (by rw [turnL, eT, turn1, if_pos (by unfold undoB; rw [h68, decide_eq_true h47, decide_eq_true ht0]; rfl)]))
