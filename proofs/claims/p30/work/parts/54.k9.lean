theorem zsub60 {x : Int32} (h : ¬ x ≤ 60) : ¬ x ≤ 60 := h
set_option maxRecDepth 100000 in
set_option maxHeartbeats 1000000 in
theorem K_appeal {g : zGh} {K : zK} {X : zg → Option va_E} {ad : zg → Nat} {M : zM} (s : Int32) (hp : zP g K X ad M) (hi : iK K) : zCt g yX7_appeal cX7_appeal 5 (some .boolean) 7 111 mkI [.ref (ad (0, 0)), .int s] M 8 48 (fun v M1 => x_appeal K s = 0 ∧ v = b2i (wonK K s.toNatClampNeg 0) ∧ zP g (k_appeal K s) X ad M1) (fun E M1 => thr E (x_appeal K s) ∧ M1 = M) := by
  refine zof [some (.ref (ad (0, 0))), some (.int s), none, none, none] (by decide +kernel) rfl rfl (Nat.le_of_ble_eq_true rfl) ?_
  intro Z C hE hnm
  have C : zC g Z RX7 cX7_appeal 5 7 111 8 48 := C
  obtain ⟨⟨hb1, h2, h4, h9, h13, h25, h33⟩, ⟨hch, hf⟩, ⟨hma, hsu, hpa⟩, hwp, hwi, hsc⟩ := hi
  have hw64 : ∀ s, (kws K s).1 ≤ 64 := fun s => Nat.le_trans (hwi s) (by decide)
  refine zaload_n C dX7_appeal_0 rfl ?_
  refine ziload_n C dX7_appeal_1 rfl ?_
  refine zcallVX C (k_suitAt _ hp h33) hy_X7_suitAt hv_X7_suitAt hl_X7_291 hp.main rfl rfl rfl rfl (by decide) (by decide) (by omega) (by omega) rfl (by exact Nat.le_of_ble_eq_true rfl) dX7_appeal_2 (fun E M1 hx => zout C hE (by omega) (by omega) (by obtain ⟨e, hz, hm⟩ := hx; subst e; subst hm; exact ⟨thr1 (by simp [x_appeal, okK, hz]), rfl⟩)) (fun v2 M hp2 => ?_)
  obtain ⟨⟨sn, hsn, rfl, rfl⟩, rfl⟩ := hp2
  have zsn : zix (nI sn) (K.1 33) = true := zix_t hsn (by omega)
  have esn : (nI sn).toNatClampNeg = sn := nI_clamp (by omega)
  refine zastore_n (L1 := [_, _, _, _, _]) C dX7_appeal_5 rfl (Nat.le_of_ble_eq_true rfl) ?_
  refine zaload_n C dX7_appeal_6 rfl ?_
  refine zget C hf_X7_287 (hp.sui (s := sn) hsn) (by rfl) dX7_appeal_7 ?_
  refine zconst (v := 2) C dX7_appeal_10 (by decide) ?_
  refine zicmp_eq (tgt := 33) C dX7_appeal_11 (by decide) (fun h11 => ?_) (fun h11 => ?_)
  · replace h11 : (ksu K sn).2.2.2.2.1 = 2 := h11
    refine zaload_n C dX7_appeal_33 rfl ?_
    refine zget C hf_X7_323 (hp.sui (s := sn) hsn) (by rfl) dX7_appeal_34 ?_
    refine zconst (v := -1) C dX7_appeal_37 (by decide) ?_
    refine zicmp_eq (tgt := 62) C dX7_appeal_38 (by decide) (fun h38 => ?_) (fun h38 => ?_)
    · replace h38 : (ksu K sn).2.2.1 = -1 := h38
      exact zthrowW C hE ht_X7_348_66 rfl (by decide) (by exact Nat.le_of_ble_eq_true rfl) (by omega) (by omega) dX7_appeal_62 dX7_appeal_65 dX7_appeal_66 dX7_appeal_69 dX7_appeal_72 ⟨thr3 (by rw [x_appeal, zsn, esn]; simp [canA, h11, h38]), rfl⟩
    · replace h38 : ¬ (ksu K sn).2.2.1 = -1 := h38
      refine zaload_n C dX7_appeal_41 rfl ?_
      refine zget C hf_X7_342 (hp.sui (s := sn) hsn) (by rfl) dX7_appeal_42 ?_
      refine zif_ne (tgt := 62) C dX7_appeal_45 (by decide) (fun h45 => ?_) (fun h45 => ?_)
      · replace h45 : (ksu K sn).2.2.2.2.2.2.2.2 = true := b2i_n0.mp h45
        exact zthrowW C hE ht_X7_348_66 rfl (by decide) (by exact Nat.le_of_ble_eq_true rfl) (by omega) (by omega) dX7_appeal_62 dX7_appeal_65 dX7_appeal_66 dX7_appeal_69 dX7_appeal_72 ⟨thr3 (by rw [x_appeal, zsn, esn]; simp [canA, h11, h38, h45]), rfl⟩
      · replace h45 : (ksu K sn).2.2.2.2.2.2.2.2 = false := b2i_0.mp h45
        refine zaload_n C dX7_appeal_48 rfl ?_
        refine zget C hf_X7_51 hp.main (by rfl) dX7_appeal_49 ?_
        refine zaload_n C dX7_appeal_52 rfl ?_
        refine zget C hf_X7_345 (hp.sui (s := sn) hsn) (by rfl) dX7_appeal_53 ?_
        refine zisub C dX7_appeal_56 ?_
        refine zbipush (v := 60) C dX7_appeal_57 (by decide) ?_
        refine zicmp_le (tgt := 73) C dX7_appeal_59 (by decide) (fun h59 => ?_) (fun h59 => ?_)
        · replace h59 : nI (K.1 1) - (ksu K sn).2.2.2.2.2.2.2.1 ≤ 60 := h59
          refine zaload_n C dX7_appeal_73 rfl ?_
          refine zget C hf_X7_287 (hp.sui (s := sn) hsn) (by rfl) dX7_appeal_74 ?_
          refine zconst (v := 2) C dX7_appeal_77 (by decide) ?_
          refine zicmp_ne (tgt := 85) C dX7_appeal_78 (by decide) (fun h78 => ?_) (fun h78 => ?_)
          · exact absurd h11 h78
          · refine zconst (v := 1) C dX7_appeal_81 (by decide) ?_
            refine zgoto (tgt := 86) C dX7_appeal_82 (by decide) ?_
            refine zistore_n (L1 := [_, _, _, _, _]) C dX7_appeal_86 rfl (Nat.le_of_ble_eq_true rfl) ?_
            refine zaload_n C dX7_appeal_87 rfl ?_
            refine zaload_n C dX7_appeal_88 rfl ?_
            refine zaload_n C dX7_appeal_89 rfl ?_
            refine zget C hf_X7_10 hp.main (by rfl) dX7_appeal_90 ?_
            refine zcallV C (k_isWon hsn (Nat.zero_le _) hp h33 h2 hch hf hwp hwi) hy_X7_isWonBefore hv_X7_isWonBefore hl_X7_326 hp.main rfl rfl rfl rfl (by decide) (by decide) (by omega) (by omega) rfl (by exact Nat.le_of_ble_eq_true rfl) dX7_appeal_93 (fun v93 M hp93 => ?_)
            obtain ⟨rfl, rfl⟩ := hp93
            refine zistore (L1 := [_, _, _, _, _]) C dX7_appeal_96 rfl (Nat.le_of_ble_eq_true rfl) ?_
            refine zaload_n C dX7_appeal_98 rfl ?_
            refine zconst (v := 1) C dX7_appeal_99 (by decide) ?_
            refine zput (fs1 := [_, _, _, _, _, _, _, _, _, _]) C hf_X7_342 hp_X5 rfl (hp.sui (s := sn) hsn) (nar_b true) (fit_b true) (by exact Nat.le_of_ble_eq_true rfl) (by rfl) dX7_appeal_100 ?_
            refine kstep (hp.suiV (p := sn) hsn suAp true) rfl (fun M hp => ?_)
            refine zaload_n C dX7_appeal_103 rfl ?_
            refine ziload C dX7_appeal_104 rfl ?_
            refine zaload_n C dX7_appeal_106 rfl ?_
            refine zget C hf_X7_51 hp.main (by rfl) dX7_appeal_107 ?_
            refine zcallV C (k_settle hp hsn (wonK K sn 0) _) hy_X5_settle hv_X5_settle hl_X7_330 (hp.sui (s := sn) hsn) rfl rfl rfl rfl (by decide) (by decide) (by omega) (by omega) rfl (by exact Nat.le_of_ble_eq_true rfl) dX7_appeal_110 (fun v110 M hp => ?_)
            rw [ksu_s, ssu_ssu] at hp
            replace hp : zP g (apK K sn (wonK K sn 0)) X ad M := hp
            have hsu := iSu_up (m := sn) (x := suJu (suSt (suAp (ksu K sn) true) (if (wonK K sn 0) = true then 2 else 3)) (nI (K.1 1))) hsu rfl rfl
            refine ziload_n C dX7_appeal_113 rfl ?_
            refine zif_eq_f (tgt := 129) C dX7_appeal_114 (by decide) (by decide) ?_
            refine ziload C dX7_appeal_117 rfl ?_
            refine zif_ne (tgt := 129) C dX7_appeal_119 (by decide) (fun h119 => ?_) (fun h119 => ?_)
            · replace h119 := b2i_n0.mp h119
              refine ziload C dX7_appeal_129 rfl ?_
              refine zif_eq (tgt := 146) C dX7_appeal_131 (by decide) (fun h131 => ?_) (fun h131 => ?_)
              · replace h131 := b2i_0.mp h131
                exact absurd (h119.symm.trans h131) (by decide)
              · replace h131 := b2i_n0.mp h131
                refine ziload_n C dX7_appeal_134 rfl ?_
                refine zif_ne_t (tgt := 146) C dX7_appeal_135 (by decide) (by decide) ?_
                refine ziload C dX7_appeal_146 rfl ?_
                exact zend_z C hE dX7_appeal_148 (by omega) (by omega) (by first | exact Or.inl rfl | exact Or.inr rfl | exact b2i_b _) ⟨by rw [x_appeal, zsn, esn]; simp [canA, h11, h38, h45, h59], by rw [esn], by rw [k_appeal, esn, if_neg (fun e => absurd (h119.symm.trans e.2) (by decide)), if_neg (fun e => e.2 h11)]; exact hp⟩
            · replace h119 := b2i_0.mp h119
              refine zaload_n C dX7_appeal_122 rfl ?_
              refine zcallV C (k_giveBack hp hsn hsu) hy_X5_giveBack hv_X5_giveBack hl_X7_350 (hp.sui (s := sn) hsn) rfl rfl rfl rfl (by decide) (by decide) (by omega) (by omega) rfl (by exact Nat.le_of_ble_eq_true rfl) dX7_appeal_123 (fun v123 M hp => ?_)
              refine zgoto (tgt := 146) C dX7_appeal_126 (by decide) ?_
              refine ziload C dX7_appeal_146 rfl ?_
              exact zend_z C hE dX7_appeal_148 (by omega) (by omega) (by first | exact Or.inl rfl | exact Or.inr rfl | exact b2i_b _) ⟨by rw [x_appeal, zsn, esn]; simp [canA, h11, h38, h45, h59], by rw [esn], by rw [k_appeal, esn, if_pos ⟨h11, h119⟩]; exact hp⟩
        · replace h59 : ¬ nI (K.1 1) - (ksu K sn).2.2.2.2.2.2.2.1 ≤ 60 := h59
          exact zthrowW C hE ht_X7_348_66 rfl (by decide) (by exact Nat.le_of_ble_eq_true rfl) (by omega) (by omega) dX7_appeal_62 dX7_appeal_65 dX7_appeal_66 dX7_appeal_69 dX7_appeal_72 ⟨thr3 (by rw [x_appeal, zsn, esn]; simp [canA, h11, h38, h45, h59]), rfl⟩
  · replace h11 : ¬ (ksu K sn).2.2.2.2.1 = 2 := h11
    refine zaload_n C dX7_appeal_14 rfl ?_
    refine zget C hf_X7_287 (hp.sui (s := sn) hsn) (by rfl) dX7_appeal_15 ?_
    refine zconst (v := 3) C dX7_appeal_18 (by decide) ?_
    refine zicmp_eq (tgt := 33) C dX7_appeal_19 (by decide) (fun h19 => ?_) (fun h19 => ?_)
    · replace h19 : (ksu K sn).2.2.2.2.1 = 3 := h19
      refine zaload_n C dX7_appeal_33 rfl ?_
      refine zget C hf_X7_323 (hp.sui (s := sn) hsn) (by rfl) dX7_appeal_34 ?_
      refine zconst (v := -1) C dX7_appeal_37 (by decide) ?_
      refine zicmp_eq (tgt := 62) C dX7_appeal_38 (by decide) (fun h38 => ?_) (fun h38 => ?_)
      · replace h38 : (ksu K sn).2.2.1 = -1 := h38
        exact zthrowW C hE ht_X7_348_66 rfl (by decide) (by exact Nat.le_of_ble_eq_true rfl) (by omega) (by omega) dX7_appeal_62 dX7_appeal_65 dX7_appeal_66 dX7_appeal_69 dX7_appeal_72 ⟨thr3 (by rw [x_appeal, zsn, esn]; simp [canA, h11, h19, h38]), rfl⟩
      · replace h38 : ¬ (ksu K sn).2.2.1 = -1 := h38
        refine zaload_n C dX7_appeal_41 rfl ?_
        refine zget C hf_X7_342 (hp.sui (s := sn) hsn) (by rfl) dX7_appeal_42 ?_
        refine zif_ne (tgt := 62) C dX7_appeal_45 (by decide) (fun h45 => ?_) (fun h45 => ?_)
        · replace h45 : (ksu K sn).2.2.2.2.2.2.2.2 = true := b2i_n0.mp h45
          exact zthrowW C hE ht_X7_348_66 rfl (by decide) (by exact Nat.le_of_ble_eq_true rfl) (by omega) (by omega) dX7_appeal_62 dX7_appeal_65 dX7_appeal_66 dX7_appeal_69 dX7_appeal_72 ⟨thr3 (by rw [x_appeal, zsn, esn]; simp [canA, h11, h19, h38, h45]), rfl⟩
        · replace h45 : (ksu K sn).2.2.2.2.2.2.2.2 = false := b2i_0.mp h45
          refine zaload_n C dX7_appeal_48 rfl ?_
          refine zget C hf_X7_51 hp.main (by rfl) dX7_appeal_49 ?_
          refine zaload_n C dX7_appeal_52 rfl ?_
          refine zget C hf_X7_345 (hp.sui (s := sn) hsn) (by rfl) dX7_appeal_53 ?_
          refine zisub C dX7_appeal_56 ?_
          refine zbipush (v := 60) C dX7_appeal_57 (by decide) ?_
          refine zicmp_le (tgt := 73) C dX7_appeal_59 (by decide) (fun h59 => ?_) (fun h59 => ?_)
          · replace h59 : nI (K.1 1) - (ksu K sn).2.2.2.2.2.2.2.1 ≤ 60 := h59
            refine zaload_n C dX7_appeal_73 rfl ?_
            refine zget C hf_X7_287 (hp.sui (s := sn) hsn) (by rfl) dX7_appeal_74 ?_
            refine zconst (v := 2) C dX7_appeal_77 (by decide) ?_
            refine zicmp_ne (tgt := 85) C dX7_appeal_78 (by decide) (fun h78 => ?_) (fun h78 => ?_)
            · refine zconst (v := 0) C dX7_appeal_85 (by decide) ?_
              refine zistore_n (L1 := [_, _, _, _, _]) C dX7_appeal_86 rfl (Nat.le_of_ble_eq_true rfl) ?_
              refine zaload_n C dX7_appeal_87 rfl ?_
              refine zaload_n C dX7_appeal_88 rfl ?_
              refine zaload_n C dX7_appeal_89 rfl ?_
              refine zget C hf_X7_10 hp.main (by rfl) dX7_appeal_90 ?_
              refine zcallV C (k_isWon hsn (Nat.zero_le _) hp h33 h2 hch hf hwp hwi) hy_X7_isWonBefore hv_X7_isWonBefore hl_X7_326 hp.main rfl rfl rfl rfl (by decide) (by decide) (by omega) (by omega) rfl (by exact Nat.le_of_ble_eq_true rfl) dX7_appeal_93 (fun v93 M hp93 => ?_)
              obtain ⟨rfl, rfl⟩ := hp93
              refine zistore (L1 := [_, _, _, _, _]) C dX7_appeal_96 rfl (Nat.le_of_ble_eq_true rfl) ?_
              refine zaload_n C dX7_appeal_98 rfl ?_
              refine zconst (v := 1) C dX7_appeal_99 (by decide) ?_
              refine zput (fs1 := [_, _, _, _, _, _, _, _, _, _]) C hf_X7_342 hp_X5 rfl (hp.sui (s := sn) hsn) (nar_b true) (fit_b true) (by exact Nat.le_of_ble_eq_true rfl) (by rfl) dX7_appeal_100 ?_
              refine kstep (hp.suiV (p := sn) hsn suAp true) rfl (fun M hp => ?_)
              refine zaload_n C dX7_appeal_103 rfl ?_
              refine ziload C dX7_appeal_104 rfl ?_
              refine zaload_n C dX7_appeal_106 rfl ?_
              refine zget C hf_X7_51 hp.main (by rfl) dX7_appeal_107 ?_
              refine zcallV C (k_settle hp hsn (wonK K sn 0) _) hy_X5_settle hv_X5_settle hl_X7_330 (hp.sui (s := sn) hsn) rfl rfl rfl rfl (by decide) (by decide) (by omega) (by omega) rfl (by exact Nat.le_of_ble_eq_true rfl) dX7_appeal_110 (fun v110 M hp => ?_)
              rw [ksu_s, ssu_ssu] at hp
              replace hp : zP g (apK K sn (wonK K sn 0)) X ad M := hp
              have hsu := iSu_up (m := sn) (x := suJu (suSt (suAp (ksu K sn) true) (if (wonK K sn 0) = true then 2 else 3)) (nI (K.1 1))) hsu rfl rfl
              refine ziload_n C dX7_appeal_113 rfl ?_
              refine zif_eq_t (tgt := 129) C dX7_appeal_114 (by decide) (by decide) ?_
              refine ziload C dX7_appeal_129 rfl ?_
              refine zif_eq (tgt := 146) C dX7_appeal_131 (by decide) (fun h131 => ?_) (fun h131 => ?_)
              · replace h131 := b2i_0.mp h131
                refine ziload C dX7_appeal_146 rfl ?_
                exact zend_z C hE dX7_appeal_148 (by omega) (by omega) (by first | exact Or.inl rfl | exact Or.inr rfl | exact b2i_b _) ⟨by rw [x_appeal, zsn, esn]; simp [canA, h11, h19, h38, h45, h59], by rw [esn], by rw [k_appeal, esn, if_neg (fun e => absurd (h19.symm.trans e.1) (by decide)), if_neg (fun e => absurd (h131.symm.trans e.1) (by decide))]; exact hp⟩
              · replace h131 := b2i_n0.mp h131
                refine ziload_n C dX7_appeal_134 rfl ?_
                refine zif_ne_f (tgt := 146) C dX7_appeal_135 (by decide) (by decide) ?_
                refine zaload_n C dX7_appeal_138 rfl ?_
                refine zaload_n C dX7_appeal_139 rfl ?_
                refine zget C hf_X7_334 (hp.sui (s := sn) hsn) (by rfl) dX7_appeal_140 ?_
                refine zput (fs1 := [_, _, _, _, _, _, _, _, _, _]) C hf_X7_337 hp_X5 rfl (hp.sui (s := sn) hsn) rfl rfl (by exact Nat.le_of_ble_eq_true rfl) (by rfl) dX7_appeal_143 ?_
                refine kstep (hp.suiV (p := sn) hsn suOw (ksu (apK K sn (wonK K sn 0)) sn).2.2.2.1) rfl (fun M hp => ?_)
                rw [show (ksu (apK K sn (wonK K sn 0)) sn).2.2.2.1 = (ksu K sn).2.2.2.1 from by rw [apK, ksu_s]; rfl] at hp
                refine ziload C dX7_appeal_146 rfl ?_
                exact zend_z C hE dX7_appeal_148 (by omega) (by omega) (by first | exact Or.inl rfl | exact Or.inr rfl | exact b2i_b _) ⟨by rw [x_appeal, zsn, esn]; simp [canA, h11, h19, h38, h45, h59], by rw [esn], by rw [k_appeal, esn, if_neg (fun e => absurd (h19.symm.trans e.1) (by decide)), if_pos ⟨h131, fun e => absurd (h19.symm.trans e) (by decide)⟩]; exact hp⟩
            · exact absurd h78 h11
          · replace h59 : ¬ nI (K.1 1) - (ksu K sn).2.2.2.2.2.2.2.1 ≤ 60 := h59
            exact zthrowW C hE ht_X7_348_66 rfl (by decide) (by exact Nat.le_of_ble_eq_true rfl) (by omega) (by omega) dX7_appeal_62 dX7_appeal_65 dX7_appeal_66 dX7_appeal_69 dX7_appeal_72 ⟨thr3 (by rw [x_appeal, zsn, esn]; simp [canA, h11, h19, h38, h45, h59]), rfl⟩
    · replace h19 : ¬ (ksu K sn).2.2.2.2.1 = 3 := h19
      exact zthrowW C hE ht_X7_340_66 rfl (by decide) (by exact Nat.le_of_ble_eq_true rfl) (by omega) (by omega) dX7_appeal_22 dX7_appeal_25 dX7_appeal_26 dX7_appeal_29 dX7_appeal_32 ⟨thr3 (by rw [x_appeal, zsn, esn]; simp [canA, h11, h19]), rfl⟩
set_option maxRecDepth 100000 in
set_option maxHeartbeats 1000000 in
theorem K_execute {g : zGh} {K : zK} {X : zg → Option va_E} {ad : zg → Nat} {M : zM} (s : Int32) (hp : zP g K X ad M) (hi : iK K) : zCt g yX7_execute cX7_execute 4 (some .long) 7 111 mkL [.ref (ad (0, 0)), .int s] M 8 48 (fun v M1 => x_execute K s = 0 ∧ v = (exeA K s.toNatClampNeg).toInt64 ∧ zP g (k_execute K s.toNatClampNeg) X ad M1) (fun E M1 => thr E (x_execute K s) ∧ M1 = M) := by
  refine zof [some (.ref (ad (0, 0))), some (.int s), none, none] (by decide +kernel) rfl rfl (Nat.le_of_ble_eq_true rfl) ?_
  intro Z C hE hnm
  have C : zC g Z RX7 cX7_execute 4 7 111 8 48 := C
  obtain ⟨⟨hb1, h2, h4, h9, h13, h25, h33⟩, ⟨hch, hf⟩, ⟨hma, hsu, hpa⟩, hwp, hwi, hsc⟩ := hi
  have hw64 : ∀ s, (kws K s).1 ≤ 64 := fun s => Nat.le_trans (hwi s) (by decide)
  refine zaload_n C dX7_execute_0 rfl ?_
  refine ziload_n C dX7_execute_1 rfl ?_
  refine zcallVX C (k_suitAt _ hp h33) hy_X7_suitAt hv_X7_suitAt hl_X7_291 hp.main rfl rfl rfl rfl (by decide) (by decide) (by omega) (by omega) rfl (by exact Nat.le_of_ble_eq_true rfl) dX7_execute_2 (fun E M1 hx => zout C hE (by omega) (by omega) (by obtain ⟨e, hz, hm⟩ := hx; subst e; subst hm; exact ⟨thr1 (by simp [x_execute, okK, hz]), rfl⟩)) (fun v2 M hp2 => ?_)
  obtain ⟨⟨sn, hsn, rfl, rfl⟩, rfl⟩ := hp2
  have zsn : zix (nI sn) (K.1 33) = true := zix_t hsn (by omega)
  have esn : (nI sn).toNatClampNeg = sn := nI_clamp (by omega)
  refine zastore_n (L1 := [_, _, _, _]) C dX7_execute_5 rfl (Nat.le_of_ble_eq_true rfl) ?_
  refine zaload_n C dX7_execute_6 rfl ?_
  refine zget C hf_X7_287 (hp.sui (s := sn) hsn) (by rfl) dX7_execute_7 ?_
  refine zconst (v := 2) C dX7_execute_10 (by decide) ?_
  refine zicmp_ne (tgt := 21) C dX7_execute_11 (by decide) (fun h11 => ?_) (fun h11 => ?_)
  · replace h11 : ¬ (ksu K sn).2.2.2.2.1 = 2 := h11
    exact zthrowW C hE ht_X7_353_66 rfl (by decide) (by exact Nat.le_of_ble_eq_true rfl) (by omega) (by omega) dX7_execute_21 dX7_execute_24 dX7_execute_25 dX7_execute_28 dX7_execute_31 ⟨thr3 (by rw [x_execute, zsn, esn]; simp [h11]), rfl⟩
  · replace h11 : (ksu K sn).2.2.2.2.1 = 2 := h11
    refine zaload_n C dX7_execute_14 rfl ?_
    refine zget C hf_X7_337 (hp.sui (s := sn) hsn) (by rfl) dX7_execute_15 ?_
    refine zif_ne (tgt := 32) C dX7_execute_18 (by decide) (fun h18 => ?_) (fun h18 => ?_)
    · replace h18 : ¬ (ksu K sn).2.2.2.2.2.2.1 = 0 := h18
      refine zaload_n C dX7_execute_32 rfl ?_
      refine zcallV C (k_doBothLive hp hsn hsu) hy_X5_doBothLive hv_X5_doBothLive hl_X7_355 (hp.sui (s := sn) hsn) rfl rfl rfl rfl (by decide) (by decide) (by omega) (by omega) rfl (by exact Nat.le_of_ble_eq_true rfl) dX7_execute_33 (fun v33 M hp33 => ?_)
      obtain ⟨rfl, rfl⟩ := hp33
      refine zif_ne (tgt := 50) C dX7_execute_36 (by decide) (fun h36 => ?_) (fun h36 => ?_)
      · replace h36 := b2i_n0.mp h36
        refine zaload_n C dX7_execute_50 rfl ?_
        refine zget C hf_X7_299 (hp.sui (s := sn) hsn) (by rfl) dX7_execute_51 ?_
        refine zaload_n C dX7_execute_54 rfl ?_
        refine zget C hf_X7_337 (hp.sui (s := sn) hsn) (by rfl) dX7_execute_55 ?_
        refine zaload_n C dX7_execute_58 rfl ?_
        refine zget C hf_X7_360 (hp.sui (s := sn) hsn) (by rfl) dX7_execute_59 ?_
        refine zcallV C (k_payUpTo hp (hsu sn hsn).2.1 (hsu sn hsn).1 (hsu sn hsn).2.2.symm _) hy_X4_payUpTo hv_X4_payUpTo hl_X7_363 (hp.per (p := _) (hsu _ hsn).2.1) rfl rfl rfl rfl (by decide) (by decide) (by omega) (by omega) rfl (by exact Nat.le_of_ble_eq_true rfl) dX7_execute_62 (fun v62 M hp62 => ?_)
        obtain ⟨hv62, hp⟩ := hp62
        replace hv62 : v62 = exeA K sn := hv62
        subst hv62
        refine zistore_n (L1 := [_, _, _, _]) C dX7_execute_65 rfl (Nat.le_of_ble_eq_true rfl) ?_
        refine zaload_n C dX7_execute_66 rfl ?_
        refine zdup C dX7_execute_67 rfl ?_
        refine zget C hf_X7_337 (hp.sui (s := sn) hsn) (by rfl) dX7_execute_68 ?_
        refine ziload_n C dX7_execute_71 rfl ?_
        refine zisub C dX7_execute_72 ?_
        refine zput (fs1 := [_, _, _, _, _, _, _, _, _, _]) C hf_X7_337 hp_X5 rfl (hp.sui (s := sn) hsn) rfl rfl (by exact Nat.le_of_ble_eq_true rfl) (by rfl) dX7_execute_73 ?_
        refine kstep (hp.suiV (p := sn) hsn suOw ((ksu K sn).2.2.2.2.2.2.1 - exeA K sn)) rfl (fun M hp => ?_)
        refine ziload_n C dX7_execute_76 rfl ?_
        refine zi2l C dX7_execute_77 ?_
        exact zend_l C hE dX7_execute_78 (by omega) (by omega) ⟨by rw [x_execute, zsn, esn]; simp [h11, h18, h36], by rw [esn], by rw [esn]; exact hp⟩
      · replace h36 := b2i_0.mp h36
        exact zthrowW C hE ht_X7_358_66 rfl (by decide) (by exact Nat.le_of_ble_eq_true rfl) (by omega) (by omega) dX7_execute_39 dX7_execute_42 dX7_execute_43 dX7_execute_46 dX7_execute_49 ⟨thr3 (by rw [x_execute, zsn, esn]; simp [h11, h18, h36]), rfl⟩
    · replace h18 : (ksu K sn).2.2.2.2.2.2.1 = 0 := h18
      exact zthrowW C hE ht_X7_353_66 rfl (by decide) (by exact Nat.le_of_ble_eq_true rfl) (by omega) (by omega) dX7_execute_21 dX7_execute_24 dX7_execute_25 dX7_execute_28 dX7_execute_31 ⟨thr3 (by rw [x_execute, zsn, esn]; simp [h11, h18]), rfl⟩
