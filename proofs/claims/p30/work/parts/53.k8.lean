theorem iMa_up {K : zK} {m : Nat} {x : zMa} (h : iMa K) (e1 : x.1 = (kma K m).1) (e2 : x.2.1 = (kma K m).2.1) : iMa (sma K m x) := fun i hi => by
  by_cases e : i = m
  · subst e
    rw [kma_s, e1, e2]
    exact h i hi
  · rw [show kma (sma K m x) i = kma K i from up_ne e]
    exact h i hi
theorem iSu_up {K : zK} {m : Nat} {x : zSu} (h : iSui K) (e1 : x.1 = (ksu K m).1) (e2 : x.2.1 = (ksu K m).2.1) : iSui (ssu K m x) := fun i hi => by
  by_cases e : i = m
  · subst e
    rw [ksu_s, e1, e2]
    exact h i hi
  · rw [show ksu (ssu K m x) i = ksu K i from up_ne e]
    exact h i hi
theorem okK_x {K : zK} {c : Int32} (h : ∃ l, l ≤ K.1 2 ∧ c = lcode l) (h6 : K.1 2 ≤ 6) : ¬ (decide (c = -1) || zix c (K.1 2)) = false := by
  obtain ⟨l, hl, rfl⟩ := h
  intro hz
  have := okK_l hl h6
  unfold okK at this
  rw [hz] at this
  cases this
set_option maxRecDepth 100000 in
set_option maxHeartbeats 1000000 in
theorem K_divorce {g : zGh} {K : zK} {X : zg → Option va_E} {ad : zg → Nat} {M : zM} (m : Int32) (b : Bool) (hp : zP g K X ad M) (hi : iK K) : zCt g yX7_divorce cX7_divorce 5 (some .boolean) 8 136 mkI [.ref (ad (0, 0)), .int m, .int (b2i b)] M 8 48 (fun v M1 => x_divorce K m = 0 ∧ v = b2i (dvE K m.toNatClampNeg b) ∧ zP g (k_divorce K m b) X ad M1) (fun E M1 => thr E (x_divorce K m) ∧ M1 = M) := by
  refine zof [some (.ref (ad (0, 0))), some (.int m), some (.int (b2i b)), none, none] (by decide +kernel) rfl rfl (Nat.le_of_ble_eq_true rfl) ?_
  intro Z C hE hnm
  have C : zC g Z RX7 cX7_divorce 5 8 136 8 48 := C
  obtain ⟨⟨hb1, h2, h4, h9, h13, h25, h33⟩, ⟨hch, hf⟩, ⟨hma, hsu, hpa⟩, hwp, hwi, hsc⟩ := hi
  have hw64 : ∀ s, (kws K s).1 ≤ 64 := fun s => Nat.le_trans (hwi s) (by decide)
  have hma0 := hma
  refine zaload_n C dX7_divorce_0 rfl ?_
  refine ziload_n C dX7_divorce_1 rfl ?_
  refine zcallVX C (k_marriageAt _ hp h25) hy_X7_marriageAt hv_X7_marriageAt hl_X7_222 hp.main rfl rfl rfl rfl (by decide) (by decide) (by omega) (by omega) rfl (by exact Nat.le_of_ble_eq_true rfl) dX7_divorce_2 (fun E M1 hx => zout C hE (by omega) (by omega) (by obtain ⟨e, hz, hm⟩ := hx; subst e; subst hm; exact ⟨thr1 (by simp [x_divorce, okK, hz]), rfl⟩)) (fun v2 M hp2 => ?_)
  obtain ⟨⟨mn, hmn, rfl, rfl⟩, rfl⟩ := hp2
  have zmn : zix (nI mn) (K.1 25) = true := zix_t hmn (by omega)
  have emn : (nI mn).toNatClampNeg = mn := nI_clamp (by omega)
  refine zastore_n (L1 := [_, _, _, _, _]) C dX7_divorce_5 rfl (Nat.le_of_ble_eq_true rfl) ?_
  refine zaload_n C dX7_divorce_6 rfl ?_
  refine zget C hf_X7_226 (hp.mar (m := mn) hmn) (by rfl) dX7_divorce_7 ?_
  refine zif_eq (tgt := 23) C dX7_divorce_10 (by decide) (fun h10 => ?_) (fun h10 => ?_)
  · replace h10 : (kma K mn).2.2.2.1 = 0 := h10
    refine ziload_n C dX7_divorce_23 rfl ?_
    refine zif_eq (tgt := 35) C dX7_divorce_24 (by decide) (fun h24 => ?_) (fun h24 => ?_)
    · replace h24 := b2i_0.mp h24
      refine zaload_n C dX7_divorce_35 rfl ?_
      refine zconst (v := 1) C dX7_divorce_36 (by decide) ?_
      refine zput (fs1 := [_, _, _, _, _, _, _]) C hf_X7_234 hp_X3 rfl (hp.mar (m := mn) hmn) (nar_b true) (fit_b true) (by exact Nat.le_of_ble_eq_true rfl) (by rfl) dX7_divorce_37 ?_
      refine kstep (hp.marV (p := mn) hmn maSh true) rfl (fun M hp => ?_)
      have hma := iMa_up (m := mn) (x := maSh (kma K mn) true) hma rfl rfl
      refine zaload_n C dX7_divorce_40 rfl ?_
      refine zaload_n C dX7_divorce_41 rfl ?_
      refine zconst (v := 1) C dX7_divorce_42 (by decide) ?_
      refine zaload_n C dX7_divorce_43 rfl ?_
      refine zget C hf_X7_237 (hp.mar (m := mn) hmn) (by rfl) dX7_divorce_44 ?_
      refine zaload_n C dX7_divorce_47 rfl ?_
      refine zget C hf_X7_241 (hp.mar (m := mn) hmn) (by rfl) dX7_divorce_48 ?_
      refine zaload_n C dX7_divorce_51 rfl ?_
      refine zget C hf_X7_51 hp.main (by rfl) dX7_divorce_52 ?_
      refine zcallVX C (k_courtOf 1 1 _ rfl (by decide) (hma _ hmn).1 (hma _ hmn).2.1 hp h2 hch hf) hy_X7_courtOf hv_X7_courtOf hl_X7_137 hp.main rfl rfl rfl rfl (by decide) (by decide) (by omega) (by omega) rfl (by exact Nat.le_of_ble_eq_true rfl) dX7_divorce_55 (fun E M1 hx => hx.elim) (fun v55 M hp55 => ?_)
      obtain ⟨hv55, rfl⟩ := hp55
      replace hv55 : v55 = crtK K 1 (kma K mn).1 (kma K mn).2.1 (nI (K.1 1)) := by rw [hv55, kma_s]; rfl
      have hlc := crtK_c hf (hma0 _ hmn).1 (hma0 _ hmn).2.1 1 (nI (K.1 1))
      rw [← hv55] at hlc
      refine zcallVX C (k_lawAt _ hp h2) hy_X7_lawAt hv_X7_lawAt hl_X7_95 hp.main rfl rfl rfl rfl (by decide) (by decide) (by omega) (by omega) rfl (by exact Nat.le_of_ble_eq_true rfl) dX7_divorce_58 (fun E M1 hx => absurd hx.2.1 (okK_x hlc h2)) (fun v58 M hp58 => ?_)
      obtain ⟨⟨l, hl, e58, rfl⟩, rfl⟩ := hp58
      have exl : lixN v55 = l := by rw [e58]; exact lixN_l (show l ≤ 6 from Nat.le_trans hl h2)
      refine zastore (L1 := [_, _, _, _, _]) C dX7_divorce_61 rfl (Nat.le_of_ble_eq_true rfl) ?_
      refine zaload_n C dX7_divorce_63 rfl ?_
      refine ziload_n C dX7_divorce_64 rfl ?_
      refine zaload C dX7_divorce_65 rfl ?_
      refine zconst (v := 1) C dX7_divorce_67 (by decide) ?_
      refine zaload_n C dX7_divorce_68 rfl ?_
      refine zget C hf_X7_51 hp.main (by rfl) dX7_divorce_69 ?_
      refine zcallV C (k_lawN 1 _ _ rfl (by decide) hp hl hch) hy_X2_numberOn hv_X2_numberOn hl_X7_114 (hp.lawo (l := l) hl) rfl rfl rfl rfl (by decide) (by decide) (by omega) (by omega) rfl (by exact Nat.le_of_ble_eq_true rfl) dX7_divorce_72 (fun v72 M hp72 => ?_)
      obtain ⟨hv72, rfl⟩ := hp72
      replace hv72 : v72 = dvH K mn := by rw [hv72, dvH, ← hv55, exl]; rfl
      refine zcallS C (k_endsByAsking _ _ _ _ (hp.mar hmn)) hy_X7_endsByAsking hst_X7_endsByAsking hl_X7_244 rfl rfl (by decide) (by decide) (by omega) (by omega) rfl (by exact Nat.le_of_ble_eq_true rfl) dX7_divorce_75 (fun v75 M hp75 => ?_)
      obtain ⟨hv75, rfl⟩ := hp75
      replace hv75 : v75 = b2i (dvE K mn b) := by rw [hv75, kma_s, hv72, dvE, h24]; rfl
      subst hv75
      refine zif_ne (tgt := 83) C dX7_divorce_78 (by decide) (fun h78 => ?_) (fun h78 => ?_)
      · replace h78 := b2i_n0.mp h78
        refine zaload_n C dX7_divorce_83 rfl ?_
        refine zconst (v := 1) C dX7_divorce_84 (by decide) ?_
        refine zput (fs1 := [_, _, _, _, _, _, _]) C hf_X7_226 hp_X3 rfl (hp.mar (m := mn) hmn) rfl rfl (by exact Nat.le_of_ble_eq_true rfl) (by rfl) dX7_divorce_85 ?_
        refine kstep (hp.marV (p := mn) hmn maSt 1) rfl (fun M hp => ?_)
        have hma := iMa_up (m := mn) (x := maSt (kma _ mn) 1) hma rfl rfl
        refine zaload_n C dX7_divorce_88 rfl ?_
        refine zcallV C (k_payDower hp hmn hma) hy_X3_payDower hv_X3_payDower hl_X7_248 (hp.mar (m := mn) hmn) rfl rfl rfl rfl (by decide) (by decide) (by omega) (by omega) rfl (by exact Nat.le_of_ble_eq_true rfl) dX7_divorce_89 (fun v89 M hp => ?_)
        refine zconst (v := 1) C dX7_divorce_92 (by decide) ?_
        exact zend_z C hE dX7_divorce_93 (by omega) (by omega) (by first | exact Or.inl rfl | exact Or.inr rfl | exact b2i_b _) ⟨by rw [x_divorce, zmn, emn]; simp [h10], by rw [emn, h78]; rfl, by rw [k_divorce, emn, if_pos h78, dv1, h24]; exact hp⟩
      · replace h78 := b2i_0.mp h78
        refine zconst (v := 0) C dX7_divorce_81 (by decide) ?_
        exact zend_z C hE dX7_divorce_82 (by omega) (by omega) (by first | exact Or.inl rfl | exact Or.inr rfl | exact b2i_b _) ⟨by rw [x_divorce, zmn, emn]; simp [h10], by rw [emn, h78]; rfl, by rw [k_divorce, emn, if_neg (by rw [h78]; decide), dv1, h24]; exact hp⟩
    · replace h24 := b2i_n0.mp h24
      refine zaload_n C dX7_divorce_27 rfl ?_
      refine zconst (v := 1) C dX7_divorce_28 (by decide) ?_
      refine zput (fs1 := [_, _, _, _, _, _, _]) C hf_X7_231 hp_X3 rfl (hp.mar (m := mn) hmn) (nar_b true) (fit_b true) (by exact Nat.le_of_ble_eq_true rfl) (by rfl) dX7_divorce_29 ?_
      refine kstep (hp.marV (p := mn) hmn maHe true) rfl (fun M hp => ?_)
      have hma := iMa_up (m := mn) (x := maHe (kma K mn) true) hma rfl rfl
      refine zgoto (tgt := 40) C dX7_divorce_32 (by decide) ?_
      refine zaload_n C dX7_divorce_40 rfl ?_
      refine zaload_n C dX7_divorce_41 rfl ?_
      refine zconst (v := 1) C dX7_divorce_42 (by decide) ?_
      refine zaload_n C dX7_divorce_43 rfl ?_
      refine zget C hf_X7_237 (hp.mar (m := mn) hmn) (by rfl) dX7_divorce_44 ?_
      refine zaload_n C dX7_divorce_47 rfl ?_
      refine zget C hf_X7_241 (hp.mar (m := mn) hmn) (by rfl) dX7_divorce_48 ?_
      refine zaload_n C dX7_divorce_51 rfl ?_
      refine zget C hf_X7_51 hp.main (by rfl) dX7_divorce_52 ?_
      refine zcallVX C (k_courtOf 1 1 _ rfl (by decide) (hma _ hmn).1 (hma _ hmn).2.1 hp h2 hch hf) hy_X7_courtOf hv_X7_courtOf hl_X7_137 hp.main rfl rfl rfl rfl (by decide) (by decide) (by omega) (by omega) rfl (by exact Nat.le_of_ble_eq_true rfl) dX7_divorce_55 (fun E M1 hx => hx.elim) (fun v55 M hp55 => ?_)
      obtain ⟨hv55, rfl⟩ := hp55
      replace hv55 : v55 = crtK K 1 (kma K mn).1 (kma K mn).2.1 (nI (K.1 1)) := by rw [hv55, kma_s]; rfl
      have hlc := crtK_c hf (hma0 _ hmn).1 (hma0 _ hmn).2.1 1 (nI (K.1 1))
      rw [← hv55] at hlc
      refine zcallVX C (k_lawAt _ hp h2) hy_X7_lawAt hv_X7_lawAt hl_X7_95 hp.main rfl rfl rfl rfl (by decide) (by decide) (by omega) (by omega) rfl (by exact Nat.le_of_ble_eq_true rfl) dX7_divorce_58 (fun E M1 hx => absurd hx.2.1 (okK_x hlc h2)) (fun v58 M hp58 => ?_)
      obtain ⟨⟨l, hl, e58, rfl⟩, rfl⟩ := hp58
      have exl : lixN v55 = l := by rw [e58]; exact lixN_l (show l ≤ 6 from Nat.le_trans hl h2)
      refine zastore (L1 := [_, _, _, _, _]) C dX7_divorce_61 rfl (Nat.le_of_ble_eq_true rfl) ?_
      refine zaload_n C dX7_divorce_63 rfl ?_
      refine ziload_n C dX7_divorce_64 rfl ?_
      refine zaload C dX7_divorce_65 rfl ?_
      refine zconst (v := 1) C dX7_divorce_67 (by decide) ?_
      refine zaload_n C dX7_divorce_68 rfl ?_
      refine zget C hf_X7_51 hp.main (by rfl) dX7_divorce_69 ?_
      refine zcallV C (k_lawN 1 _ _ rfl (by decide) hp hl hch) hy_X2_numberOn hv_X2_numberOn hl_X7_114 (hp.lawo (l := l) hl) rfl rfl rfl rfl (by decide) (by decide) (by omega) (by omega) rfl (by exact Nat.le_of_ble_eq_true rfl) dX7_divorce_72 (fun v72 M hp72 => ?_)
      obtain ⟨hv72, rfl⟩ := hp72
      replace hv72 : v72 = dvH K mn := by rw [hv72, dvH, ← hv55, exl]; rfl
      refine zcallS C (k_endsByAsking _ _ _ _ (hp.mar hmn)) hy_X7_endsByAsking hst_X7_endsByAsking hl_X7_244 rfl rfl (by decide) (by decide) (by omega) (by omega) rfl (by exact Nat.le_of_ble_eq_true rfl) dX7_divorce_75 (fun v75 M hp75 => ?_)
      obtain ⟨hv75, rfl⟩ := hp75
      replace hv75 : v75 = b2i (dvE K mn b) := by rw [hv75, kma_s, hv72, dvE, h24]; rfl
      subst hv75
      refine zif_ne (tgt := 83) C dX7_divorce_78 (by decide) (fun h78 => ?_) (fun h78 => ?_)
      · replace h78 := b2i_n0.mp h78
        refine zaload_n C dX7_divorce_83 rfl ?_
        refine zconst (v := 1) C dX7_divorce_84 (by decide) ?_
        refine zput (fs1 := [_, _, _, _, _, _, _]) C hf_X7_226 hp_X3 rfl (hp.mar (m := mn) hmn) rfl rfl (by exact Nat.le_of_ble_eq_true rfl) (by rfl) dX7_divorce_85 ?_
        refine kstep (hp.marV (p := mn) hmn maSt 1) rfl (fun M hp => ?_)
        have hma := iMa_up (m := mn) (x := maSt (kma _ mn) 1) hma rfl rfl
        refine zaload_n C dX7_divorce_88 rfl ?_
        refine zcallV C (k_payDower hp hmn hma) hy_X3_payDower hv_X3_payDower hl_X7_248 (hp.mar (m := mn) hmn) rfl rfl rfl rfl (by decide) (by decide) (by omega) (by omega) rfl (by exact Nat.le_of_ble_eq_true rfl) dX7_divorce_89 (fun v89 M hp => ?_)
        refine zconst (v := 1) C dX7_divorce_92 (by decide) ?_
        exact zend_z C hE dX7_divorce_93 (by omega) (by omega) (by first | exact Or.inl rfl | exact Or.inr rfl | exact b2i_b _) ⟨by rw [x_divorce, zmn, emn]; simp [h10], by rw [emn, h78]; rfl, by rw [k_divorce, emn, if_pos h78, dv1, h24]; exact hp⟩
      · replace h78 := b2i_0.mp h78
        refine zconst (v := 0) C dX7_divorce_81 (by decide) ?_
        exact zend_z C hE dX7_divorce_82 (by omega) (by omega) (by first | exact Or.inl rfl | exact Or.inr rfl | exact b2i_b _) ⟨by rw [x_divorce, zmn, emn]; simp [h10], by rw [emn, h78]; rfl, by rw [k_divorce, emn, if_neg (by rw [h78]; decide), dv1, h24]; exact hp⟩
  · replace h10 : ¬ (kma K mn).2.2.2.1 = 0 := h10
    exact zthrow C hE ht_X7_229_66 rfl (by decide) (by exact Nat.le_of_ble_eq_true rfl) (by omega) (by omega) dX7_divorce_13 dX7_divorce_16 dX7_divorce_17 dX7_divorce_19 dX7_divorce_22 ⟨thr3 (by rw [x_divorce, zmn, emn]; simp [h10]), rfl⟩
set_option maxRecDepth 100000 in
set_option maxHeartbeats 1000000 in
theorem K_judge {g : zGh} {K : zK} {X : zg → Option va_E} {ad : zg → Nat} {M : zM} (s : Int32) (hp : zP g K X ad M) (hi : iK K) : zCt g yX7_judge cX7_judge 4 (some .boolean) 8 132 mkI [.ref (ad (0, 0)), .int s] M 8 48 (fun v M1 => x_judge K s = 0 ∧ v = b2i (a_judge K s) ∧ zP g (k_judge K s) X ad M1) (fun E M1 => thr E (x_judge K s) ∧ M1 = M) := by
  refine zof [some (.ref (ad (0, 0))), some (.int s), none, none] (by decide +kernel) rfl rfl (Nat.le_of_ble_eq_true rfl) ?_
  intro Z C hE hnm
  have C : zC g Z RX7 cX7_judge 4 8 132 8 48 := C
  obtain ⟨⟨hb1, h2, h4, h9, h13, h25, h33⟩, ⟨hch, hf⟩, ⟨hma, hsu, hpa⟩, hwp, hwi, hsc⟩ := hi
  have hw64 : ∀ s, (kws K s).1 ≤ 64 := fun s => Nat.le_trans (hwi s) (by decide)
  refine zaload_n C dX7_judge_0 rfl ?_
  refine ziload_n C dX7_judge_1 rfl ?_
  refine zcallVX C (k_suitAt _ hp h33) hy_X7_suitAt hv_X7_suitAt hl_X7_291 hp.main rfl rfl rfl rfl (by decide) (by decide) (by omega) (by omega) rfl (by exact Nat.le_of_ble_eq_true rfl) dX7_judge_2 (fun E M1 hx => zout C hE (by omega) (by omega) (by obtain ⟨e, hz, hm⟩ := hx; subst e; subst hm; exact ⟨thr1 (by simp [x_judge, okK, hz]), rfl⟩)) (fun v2 M hp2 => ?_)
  obtain ⟨⟨sn, hsn, rfl, rfl⟩, rfl⟩ := hp2
  have zsn : zix (nI sn) (K.1 33) = true := zix_t hsn (by omega)
  have esn : (nI sn).toNatClampNeg = sn := nI_clamp (by omega)
  refine zastore_n (L1 := [_, _, _, _]) C dX7_judge_5 rfl (Nat.le_of_ble_eq_true rfl) ?_
  refine zaload_n C dX7_judge_6 rfl ?_
  refine zcallSX C (k_needSeised (hp.sui (s := sn) hsn)) hy_X7_needSeised hst_X7_needSeised hl_X7_295 rfl rfl (by decide) (by decide) (by omega) (by omega) rfl (by exact Nat.le_of_ble_eq_true rfl) dX7_judge_7 (fun E M1 hx => zout C hE (by omega) (by omega) (by obtain ⟨e, hz, hm⟩ := hx; subst e; subst hm; exact ⟨thr3 (by simp [x_judge, zsn, esn, hz]), rfl⟩)) (fun v7 M hp7 => ?_)
  obtain ⟨s0, rfl⟩ := hp7
  refine zaload_n C dX7_judge_10 rfl ?_
  refine zget C hf_X7_288 (hp.sui (s := sn) hsn) (by rfl) dX7_judge_11 ?_
  refine zif_ne (tgt := 28) C dX7_judge_14 (by decide) (fun h14 => ?_) (fun h14 => ?_)
  · replace h14 := b2i_n0.mp h14
    refine zaload_n C dX7_judge_28 rfl ?_
    refine zaload_n C dX7_judge_29 rfl ?_
    refine zaload_n C dX7_judge_30 rfl ?_
    refine zaload_n C dX7_judge_31 rfl ?_
    refine zget C hf_X7_323 (hp.sui (s := sn) hsn) (by rfl) dX7_judge_32 ?_
    refine zcallVX C (k_lawAt _ hp h2) hy_X7_lawAt hv_X7_lawAt hl_X7_95 hp.main rfl rfl rfl rfl (by decide) (by decide) (by omega) (by omega) rfl (by exact Nat.le_of_ble_eq_true rfl) dX7_judge_35 (fun E M1 hx => absurd hx.2.1 (okK_x (hsc sn hsn) h2)) (fun v35 M hp35 => ?_)
    obtain ⟨⟨l, hl, e35, rfl⟩, rfl⟩ := hp35
    have exl : lixN (ksu K sn).2.2.1 = l := by rw [e35]; exact lixN_l (show l ≤ 6 from Nat.le_trans hl h2)
    refine zcallV C (k_isWon hsn hl hp h33 h2 hch hf hwp hwi) hy_X7_isWonBefore hv_X7_isWonBefore hl_X7_326 hp.main rfl rfl rfl rfl (by decide) (by decide) (by omega) (by omega) rfl (by exact Nat.le_of_ble_eq_true rfl) dX7_judge_38 (fun v38 M hp38 => ?_)
    obtain ⟨hv38, rfl⟩ := hp38
    replace hv38 : v38 = b2i (a_judge K (nI sn)) := by rw [hv38, a_judge, esn, exl]
    subst hv38
    refine zistore_n (L1 := [_, _, _, _]) C dX7_judge_41 rfl (Nat.le_of_ble_eq_true rfl) ?_
    refine zaload_n C dX7_judge_42 rfl ?_
    refine ziload_n C dX7_judge_43 rfl ?_
    refine zaload_n C dX7_judge_44 rfl ?_
    refine zget C hf_X7_51 hp.main (by rfl) dX7_judge_45 ?_
    refine zcallV C (k_settle hp hsn (a_judge K (nI sn)) _) hy_X5_settle hv_X5_settle hl_X7_330 (hp.sui (s := sn) hsn) rfl rfl rfl rfl (by decide) (by decide) (by omega) (by omega) rfl (by exact Nat.le_of_ble_eq_true rfl) dX7_judge_48 (fun v48 M hp => ?_)
    refine ziload_n C dX7_judge_51 rfl ?_
    refine zif_eq (tgt := 63) C dX7_judge_52 (by decide) (fun h52 => ?_) (fun h52 => ?_)
    · replace h52 := b2i_0.mp h52
      refine ziload_n C dX7_judge_63 rfl ?_
      exact zend_z C hE dX7_judge_64 (by omega) (by omega) (by first | exact Or.inl rfl | exact Or.inr rfl | exact b2i_b _) ⟨by rw [x_judge, zsn, esn]; simp [s0, h14], rfl, by rw [k_judge, esn, if_neg (by rw [h52]; decide), jdgK]; rw [h52] at hp; exact hp⟩
    · replace h52 := b2i_n0.mp h52
      refine zaload_n C dX7_judge_55 rfl ?_
      refine zaload_n C dX7_judge_56 rfl ?_
      refine zget C hf_X7_334 (hp.sui (s := sn) hsn) (by rfl) dX7_judge_57 ?_
      refine zput (fs1 := [_, _, _, _, _, _, _, _, _, _]) C hf_X7_337 hp_X5 rfl (hp.sui (s := sn) hsn) rfl rfl (by exact Nat.le_of_ble_eq_true rfl) (by rfl) dX7_judge_60 ?_
      refine kstep (hp.suiV (p := sn) hsn suOw (ksu K sn).2.2.2.1) (by rw [ksu_s]; rfl) (fun M hp => ?_)
      refine ziload_n C dX7_judge_63 rfl ?_
      exact zend_z C hE dX7_judge_64 (by omega) (by omega) (by first | exact Or.inl rfl | exact Or.inr rfl | exact b2i_b _) ⟨by rw [x_judge, zsn, esn]; simp [s0, h14], rfl, by rw [k_judge, esn, if_pos h52, jdgK]; rw [h52] at hp; rw [ksu_s, ssu_ssu] at hp; exact hp⟩
  · replace h14 := b2i_0.mp h14
    exact zthrowW C hE ht_X7_321_66 rfl (by decide) (by exact Nat.le_of_ble_eq_true rfl) (by omega) (by omega) dX7_judge_17 dX7_judge_20 dX7_judge_21 dX7_judge_24 dX7_judge_27 ⟨thr3 (by rw [x_judge, zsn, esn]; simp [s0, h14]), rfl⟩
