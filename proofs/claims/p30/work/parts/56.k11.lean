theorem tgC_le (c : zCh) (d : Int32) : tgC c d ≤ 2 := by unfold tgC; split <;> omega
theorem tgS_le {c : zCh} (h : c.2.1 ≤ 1000) (d : Int32) : tgS c d ≤ 4004 := by unfold tgS; split <;> omega
/-- chronicles are not too long yet -/
def iCk (K : zK) : Prop := ∀ i, (kch K i).2.1 ≤ 1000
def x_recognise (K : zK) (c : Int32) : Nat := if zix c (K.1 2) = false then 1 else 0
def a_recognise (K : zK) (c : Int32) : Bool := decide (chN (kch K (rch c.toNatClampNeg)) = 1)
def k_recognise (K : zK) (c : Int32) (on : Bool) : zK := sch K (rch c.toNatClampNeg) (tellS (kch K (rch c.toNatClampNeg)) (nI (K.1 1)) (b2i on))
def x_decree (K : zK) (c w x : Int32) : Nat := if okK K c = false then 1 else if (wthn w 0 6 && wthn x (zLL w.toNatClampNeg) (zLH w.toNatClampNeg)) = false then 2 else if decide (K.1 4 < 100) = false then 3 else 0
def k_decree (K : zK) (c w x : Int32) : zK := sN (sch K (lch (lixN c) w.toNatClampNeg) (tellS (kch K (lch (lixN c) w.toNatClampNeg)) (nI (K.1 1)) x)) 4 (K.1 4 + 1)
def x_rule (K : zK) (m r : Int32) : Nat := if (wthn m 0 3 && wthn r 0 3) = false then 2 else if decide (K.1 9 < 40) = false then 3 else 0
def k_rule (K : zK) (m r : Int32) : zK := sN (sch K m.toNatClampNeg (tellS (kch K m.toNatClampNeg) (nI (K.1 1)) r)) 9 (K.1 9 + 1)
set_option maxRecDepth 100000 in
set_option maxHeartbeats 1000000 in
theorem K_recognise {g : zGh} {K : zK} {X : zg → Option va_E} {ad : zg → Nat} {M : zM} (c : Int32) (on : Bool) (hp : zP g K X ad M) (hi : iK K) (hck : iCk K) : zCt g yX7_recognise cX7_recognise 5 (some .boolean) 7 111 mkI [.ref (ad (0, 0)), .int c, .int (b2i on)] M 10 4200 (fun v M1 => x_recognise K c = 0 ∧ v = b2i (a_recognise K c) ∧ ∃ ad1, zP g (k_recognise K c on) X ad1 M1 ∧ ∀ t : zg, t.1 ≠ 4 → t.1 ≠ 5 → ad1 t = ad t) (fun E M1 => thr E (x_recognise K c) ∧ M1 = M) := by
  refine zof [some (.ref (ad (0, 0))), some (.int c), some (.int (b2i on)), none, none] (by decide +kernel) rfl rfl (Nat.le_of_ble_eq_true rfl) ?_
  intro Z C hE hnm
  have C : zC g Z RX7 cX7_recognise 5 7 111 10 4200 := C
  obtain ⟨⟨hb1, h2, h4, h9, h13, h25, h33⟩, ⟨hch, hf⟩, ⟨hma, hsu, hpa⟩, hwp, hwi, hsc⟩ := hi
  have hw64 : ∀ s, (kws K s).1 ≤ 64 := fun s => Nat.le_trans (hwi s) (by decide)
  refine zaload_n C dX7_recognise_0 rfl ?_
  refine ziload_n C dX7_recognise_1 rfl ?_
  refine zcallVX C (k_communityAt _ hp h2) hy_X7_communityAt hv_X7_communityAt hl_X7_78 hp.main rfl rfl rfl rfl (by decide) (by decide) (by omega) (by omega) rfl (by exact Nat.le_of_ble_eq_true rfl) dX7_recognise_2 (fun E M1 hx => zout C hE (by omega) (by omega) (by obtain ⟨e, hz, hm⟩ := hx; subst e; subst hm; exact ⟨thr1 (by simp [x_recognise, okK, hz]), rfl⟩)) (fun v2 M hp2 => ?_)
  obtain ⟨⟨cn, hcn, rfl, rfl⟩, rfl⟩ := hp2
  have zcn : zix (nI cn) (K.1 2) = true := zix_t hcn (by omega)
  have ecn : (nI cn).toNatClampNeg = cn := nI_clamp (by omega)
  refine zastore_n (L1 := [_, _, _, _, _]) C dX7_recognise_5 rfl (Nat.le_of_ble_eq_true rfl) ?_
  refine zaload_n C dX7_recognise_6 rfl ?_
  refine zget C hf_X7_82 (hp.com (c := cn) hcn) (by rfl) dX7_recognise_7 ?_
  refine zcallV C (c_newest (hp.chr (i := rch cn) (chA_rec hcn) (hch _))) hy_X0_newest hv_X0_newest hl_X7_86 (hp.chr (i := rch cn) (chA_rec hcn) (hch _)).1 rfl rfl rfl rfl (by decide) (by decide) (by omega) (by omega) rfl (by exact Nat.le_of_ble_eq_true rfl) dX7_recognise_10 (fun v10 M hp10 => ?_)
  obtain ⟨rfl, rfl⟩ := hp10
  refine zconst (v := 1) C dX7_recognise_13 (by decide) ?_
  refine zicmp_ne (tgt := 21) C dX7_recognise_14 (by decide) (fun h14 => ?_) (fun h14 => ?_)
  · replace h14 : ¬ chN (kch K (rch cn)) = 1 := h14
    refine zconst (v := 0) C dX7_recognise_21 (by decide) ?_
    refine zistore (L1 := [_, _, _, _, _]) C dX7_recognise_22 rfl (Nat.le_of_ble_eq_true rfl) ?_
    refine zaload_n C dX7_recognise_24 rfl ?_
    refine zget C hf_X7_82 (hp.com (c := cn) hcn) (by rfl) dX7_recognise_25 ?_
    refine zaload_n C dX7_recognise_28 rfl ?_
    refine zget C hf_X7_51 hp.main (by rfl) dX7_recognise_29 ?_
    refine ziload_n C dX7_recognise_32 rfl ?_
    refine zif_eq (tgt := 40) C dX7_recognise_33 (by decide) (fun h33 => ?_) (fun h33 => ?_)
    · replace h33 := b2i_0.mp h33
      refine zconst (v := 0) C dX7_recognise_40 (by decide) ?_
      refine zcallV C (k_tell hp (chA_rec hcn) (hch _) (hck _) (nI (K.1 1)) _) hy_X0_tell hv_X0_tell hl_X7_91 (hp.chr (i := rch cn) (chA_rec hcn) (hch _)).1 rfl rfl rfl rfl (by decide) (by decide) (by first | omega | (have h1 := tgC_le (kch K (rch cn)) (nI (K.1 1)); omega) | (have h1 := tgS_le (hck (rch cn)) (nI (K.1 1)); omega)) (by first | omega | (have h1 := tgC_le (kch K (rch cn)) (nI (K.1 1)); omega) | (have h1 := tgS_le (hck (rch cn)) (nI (K.1 1)); omega)) rfl (by exact Nat.le_of_ble_eq_true rfl) dX7_recognise_41 (fun v41 M hpT => ?_)
      obtain ⟨ad1, hp, hst⟩ := hpT
      refine ziload C dX7_recognise_44 rfl ?_
      exact zend_z C hE dX7_recognise_46 (by first | omega | (have h1 := tgC_le (kch K (rch cn)) (nI (K.1 1)); omega) | (have h1 := tgS_le (hck (rch cn)) (nI (K.1 1)); omega)) (by first | omega | (have h1 := tgC_le (kch K (rch cn)) (nI (K.1 1)); omega) | (have h1 := tgS_le (hck (rch cn)) (nI (K.1 1)); omega)) (by first | exact Or.inl rfl | exact Or.inr rfl | exact b2i_b _) ⟨by rw [x_recognise, zcn]; rfl, by rw [a_recognise, ecn]; simp [h14, b2i], ad1, by rw [k_recognise, ecn, h33]; exact hp, hst⟩
    · replace h33 := b2i_n0.mp h33
      refine zconst (v := 1) C dX7_recognise_36 (by decide) ?_
      refine zgoto (tgt := 41) C dX7_recognise_37 (by decide) ?_
      refine zcallV C (k_tell hp (chA_rec hcn) (hch _) (hck _) (nI (K.1 1)) _) hy_X0_tell hv_X0_tell hl_X7_91 (hp.chr (i := rch cn) (chA_rec hcn) (hch _)).1 rfl rfl rfl rfl (by decide) (by decide) (by first | omega | (have h1 := tgC_le (kch K (rch cn)) (nI (K.1 1)); omega) | (have h1 := tgS_le (hck (rch cn)) (nI (K.1 1)); omega)) (by first | omega | (have h1 := tgC_le (kch K (rch cn)) (nI (K.1 1)); omega) | (have h1 := tgS_le (hck (rch cn)) (nI (K.1 1)); omega)) rfl (by exact Nat.le_of_ble_eq_true rfl) dX7_recognise_41 (fun v41 M hpT => ?_)
      obtain ⟨ad1, hp, hst⟩ := hpT
      refine ziload C dX7_recognise_44 rfl ?_
      exact zend_z C hE dX7_recognise_46 (by first | omega | (have h1 := tgC_le (kch K (rch cn)) (nI (K.1 1)); omega) | (have h1 := tgS_le (hck (rch cn)) (nI (K.1 1)); omega)) (by first | omega | (have h1 := tgC_le (kch K (rch cn)) (nI (K.1 1)); omega) | (have h1 := tgS_le (hck (rch cn)) (nI (K.1 1)); omega)) (by first | exact Or.inl rfl | exact Or.inr rfl | exact b2i_b _) ⟨by rw [x_recognise, zcn]; rfl, by rw [a_recognise, ecn]; simp [h14, b2i], ad1, by rw [k_recognise, ecn, h33]; exact hp, hst⟩
  · replace h14 : chN (kch K (rch cn)) = 1 := h14
    refine zconst (v := 1) C dX7_recognise_17 (by decide) ?_
    refine zgoto (tgt := 22) C dX7_recognise_18 (by decide) ?_
    refine zistore (L1 := [_, _, _, _, _]) C dX7_recognise_22 rfl (Nat.le_of_ble_eq_true rfl) ?_
    refine zaload_n C dX7_recognise_24 rfl ?_
    refine zget C hf_X7_82 (hp.com (c := cn) hcn) (by rfl) dX7_recognise_25 ?_
    refine zaload_n C dX7_recognise_28 rfl ?_
    refine zget C hf_X7_51 hp.main (by rfl) dX7_recognise_29 ?_
    refine ziload_n C dX7_recognise_32 rfl ?_
    refine zif_eq (tgt := 40) C dX7_recognise_33 (by decide) (fun h33 => ?_) (fun h33 => ?_)
    · replace h33 := b2i_0.mp h33
      refine zconst (v := 0) C dX7_recognise_40 (by decide) ?_
      refine zcallV C (k_tell hp (chA_rec hcn) (hch _) (hck _) (nI (K.1 1)) _) hy_X0_tell hv_X0_tell hl_X7_91 (hp.chr (i := rch cn) (chA_rec hcn) (hch _)).1 rfl rfl rfl rfl (by decide) (by decide) (by first | omega | (have h1 := tgC_le (kch K (rch cn)) (nI (K.1 1)); omega) | (have h1 := tgS_le (hck (rch cn)) (nI (K.1 1)); omega)) (by first | omega | (have h1 := tgC_le (kch K (rch cn)) (nI (K.1 1)); omega) | (have h1 := tgS_le (hck (rch cn)) (nI (K.1 1)); omega)) rfl (by exact Nat.le_of_ble_eq_true rfl) dX7_recognise_41 (fun v41 M hpT => ?_)
      obtain ⟨ad1, hp, hst⟩ := hpT
      refine ziload C dX7_recognise_44 rfl ?_
      exact zend_z C hE dX7_recognise_46 (by first | omega | (have h1 := tgC_le (kch K (rch cn)) (nI (K.1 1)); omega) | (have h1 := tgS_le (hck (rch cn)) (nI (K.1 1)); omega)) (by first | omega | (have h1 := tgC_le (kch K (rch cn)) (nI (K.1 1)); omega) | (have h1 := tgS_le (hck (rch cn)) (nI (K.1 1)); omega)) (by first | exact Or.inl rfl | exact Or.inr rfl | exact b2i_b _) ⟨by rw [x_recognise, zcn]; rfl, by rw [a_recognise, ecn]; simp [h14, b2i], ad1, by rw [k_recognise, ecn, h33]; exact hp, hst⟩
    · replace h33 := b2i_n0.mp h33
      refine zconst (v := 1) C dX7_recognise_36 (by decide) ?_
      refine zgoto (tgt := 41) C dX7_recognise_37 (by decide) ?_
      refine zcallV C (k_tell hp (chA_rec hcn) (hch _) (hck _) (nI (K.1 1)) _) hy_X0_tell hv_X0_tell hl_X7_91 (hp.chr (i := rch cn) (chA_rec hcn) (hch _)).1 rfl rfl rfl rfl (by decide) (by decide) (by first | omega | (have h1 := tgC_le (kch K (rch cn)) (nI (K.1 1)); omega) | (have h1 := tgS_le (hck (rch cn)) (nI (K.1 1)); omega)) (by first | omega | (have h1 := tgC_le (kch K (rch cn)) (nI (K.1 1)); omega) | (have h1 := tgS_le (hck (rch cn)) (nI (K.1 1)); omega)) rfl (by exact Nat.le_of_ble_eq_true rfl) dX7_recognise_41 (fun v41 M hpT => ?_)
      obtain ⟨ad1, hp, hst⟩ := hpT
      refine ziload C dX7_recognise_44 rfl ?_
      exact zend_z C hE dX7_recognise_46 (by first | omega | (have h1 := tgC_le (kch K (rch cn)) (nI (K.1 1)); omega) | (have h1 := tgS_le (hck (rch cn)) (nI (K.1 1)); omega)) (by first | omega | (have h1 := tgC_le (kch K (rch cn)) (nI (K.1 1)); omega) | (have h1 := tgS_le (hck (rch cn)) (nI (K.1 1)); omega)) (by first | exact Or.inl rfl | exact Or.inr rfl | exact b2i_b _) ⟨by rw [x_recognise, zcn]; rfl, by rw [a_recognise, ecn]; simp [h14, b2i], ad1, by rw [k_recognise, ecn, h33]; exact hp, hst⟩
set_option maxRecDepth 100000 in
set_option maxHeartbeats 1000000 in
theorem K_decree {g : zGh} {K : zK} {X : zg → Option va_E} {ad : zg → Nat} {M : zM} (c w x : Int32) (hp : zP g K X ad M) (hi : iK K) (hck : iCk K) : zCt g yX7_decree cX7_decree 6 (some .int) 8 132 mkI [.ref (ad (0, 0)), .int c, .int w, .int x] M 10 4200 (fun v M1 => x_decree K c w x = 0 ∧ v = lawK K (lixN c) w.toNatClampNeg (nI (K.1 1)) ∧ ∃ ad1, zP g (k_decree K c w x) X ad1 M1 ∧ ∀ t : zg, t.1 ≠ 4 → t.1 ≠ 5 → ad1 t = ad t) (fun E M1 => thr E (x_decree K c w x) ∧ M1 = M) := by
  refine zof [some (.ref (ad (0, 0))), some (.int c), some (.int w), some (.int x), none, none] (by decide +kernel) rfl rfl (Nat.le_of_ble_eq_true rfl) ?_
  intro Z C hE hnm
  have C : zC g Z RX7 cX7_decree 6 8 132 10 4200 := C
  obtain ⟨⟨hb1, h2, h4, h9, h13, h25, h33⟩, ⟨hch, hf⟩, ⟨hma, hsu, hpa⟩, hwp, hwi, hsc⟩ := hi
  have hw64 : ∀ s, (kws K s).1 ≤ 64 := fun s => Nat.le_trans (hwi s) (by decide)
  refine zaload_n C dX7_decree_0 rfl ?_
  refine ziload_n C dX7_decree_1 rfl ?_
  refine zcallVX C (k_lawAt _ hp h2) hy_X7_lawAt hv_X7_lawAt hl_X7_95 hp.main rfl rfl rfl rfl (by decide) (by decide) (by omega) (by omega) rfl (by exact Nat.le_of_ble_eq_true rfl) dX7_decree_2 (fun E M1 hx => zout C hE (by omega) (by omega) (by obtain ⟨e, hz, hm⟩ := hx; subst e; subst hm; exact ⟨thr1 (by simp [x_decree, okK, hz]), rfl⟩)) (fun v2 M hp2 => ?_)
  obtain ⟨⟨l, hl, rfl, rfl⟩, rfl⟩ := hp2
  have okl := okK_l hl h2
  have exl := lixN_l (show l ≤ 6 by omega)
  refine zastore (L1 := [_, _, _, _, _, _]) C dX7_decree_5 rfl (Nat.le_of_ble_eq_true rfl) ?_
  refine ziload_n C dX7_decree_7 rfl ?_
  refine zconst (v := 0) C dX7_decree_8 (by decide) ?_
  refine zgets C C.2.2.2.2.2.1.2.2.1.2.1.1.1 hs_X7_99 dX7_decree_9 ?_
  refine zsalen (v := nI 7) C C.2.2.2.2.2.1.2.2.1.2.1.1.2 rfl dX7_decree_12 ?_
  refine zconst (v := 1) C dX7_decree_13 (by decide) ?_
  refine zisub C dX7_decree_14 ?_
  refine zcallSX C (k_needWithin _ 0 6) hy_X7_needWithin hst_X7_needWithin hl_X7_102 rfl rfl (by decide) (by decide) (by omega) (by omega) rfl (by exact Nat.le_of_ble_eq_true rfl) dX7_decree_15 (fun E M1 hx => zout C hE (by omega) (by omega) (by obtain ⟨e, hz, hm⟩ := hx; subst e; subst hm; exact ⟨thr2 (by simp [x_decree, okl, hz]), rfl⟩)) (fun v15 M hp15 => ?_)
  obtain ⟨w15, rfl⟩ := hp15
  obtain ⟨wn, hwn, rfl⟩ := wthn_of (n := 6) w15 (by decide)
  have ewn : (nI wn).toNatClampNeg = wn := nI_clamp (by omega)
  refine ziload_n C dX7_decree_18 rfl ?_
  refine zgets C C.2.2.2.2.2.1.2.2.1.2.1.2.1.1 hs_X7_106 dX7_decree_19 ?_
  refine ziload_n C dX7_decree_22 rfl ?_
  refine zsald C C.2.2.2.2.2.1.2.2.1.2.1.2.1.2 (vp_in_nI (by omega) (by decide)) dX7_decree_23 ?_
  rw [nI_clamp (by omega)]
  refine zgets C C.2.2.2.2.2.1.2.2.1.2.1.2.2.1.1 hs_X7_109 dX7_decree_24 ?_
  refine ziload_n C dX7_decree_27 rfl ?_
  refine zsald C C.2.2.2.2.2.1.2.2.1.2.1.2.2.1.2 (vp_in_nI (by omega) (by decide)) dX7_decree_28 ?_
  rw [nI_clamp (by omega)]
  refine zcallSX C (k_needWithin _ _ _) hy_X7_needWithin hst_X7_needWithin hl_X7_102 rfl rfl (by decide) (by decide) (by omega) (by omega) rfl (by exact Nat.le_of_ble_eq_true rfl) dX7_decree_29 (fun E M1 hx => zout C hE (by omega) (by omega) (by obtain ⟨e, hz, hm⟩ := hx; subst e; subst hm; exact ⟨thr2 (by simp [x_decree, okl, w15, ewn, hz]), rfl⟩)) (fun v29 M hp29 => ?_)
  obtain ⟨w29, rfl⟩ := hp29
  refine zaload_n C dX7_decree_32 rfl ?_
  refine zget C hf_X7_44 hp.main (by rfl) dX7_decree_33 ?_
  refine zbipush (v := 100) C dX7_decree_36 (by decide) ?_
  refine zicmp_lt (tgt := 51) C dX7_decree_38 (by decide) (fun h38 => ?_) (fun h38 => ?_)
  · replace h38 := (nI_ltI (a := K.1 4) (b := 100) (by omega) (by decide)).mp h38
    refine zaload C dX7_decree_51 rfl ?_
    refine ziload_n C dX7_decree_53 rfl ?_
    refine zaload_n C dX7_decree_54 rfl ?_
    refine zget C hf_X7_51 hp.main (by rfl) dX7_decree_55 ?_
    refine zcallV C (k_lawN wn _ _ rfl (by omega) hp hl hch) hy_X2_numberOn hv_X2_numberOn hl_X7_114 (hp.lawo (l := l) hl) rfl rfl rfl rfl (by decide) (by decide) (by omega) (by omega) rfl (by exact Nat.le_of_ble_eq_true rfl) dX7_decree_58 (fun v58 M hp58 => ?_)
    obtain ⟨rfl, rfl⟩ := hp58
    refine zistore (L1 := [_, _, _, _, _, _]) C dX7_decree_61 rfl (Nat.le_of_ble_eq_true rfl) ?_
    refine zaload C dX7_decree_63 rfl ?_
    refine zget C hf_X7_118 (hp.lawo (l := l) hl) (by rfl) dX7_decree_65 ?_
    refine ziload_n C dX7_decree_68 rfl ?_
    refine zrcald (i0 := wn) C (hp.lawr (l := l) hl) rfl (by omega) (by decide) dX7_decree_69 ?_
    rw [if_pos (show wn < 7 from (by omega))]
    refine zaload_n C dX7_decree_70 rfl ?_
    refine zget C hf_X7_51 hp.main (by rfl) dX7_decree_71 ?_
    refine ziload_n C dX7_decree_74 rfl ?_
    refine zcallV C (k_tell hp (chA_law hl (by omega)) (hch _) (hck _) (nI (K.1 1)) x) hy_X0_tell hv_X0_tell hl_X7_91 (hp.chr (i := lch l wn) (chA_law hl (by omega)) (hch _)).1 rfl rfl rfl rfl (by decide) (by decide) (by first | omega | (have h1 := tgC_le (kch K (lch l wn)) (nI (K.1 1)); omega) | (have h1 := tgS_le (c := (kch K (lch l wn))) (hck _) (nI (K.1 1)); omega)) (by first | omega | (have h1 := tgC_le (kch K (lch l wn)) (nI (K.1 1)); omega) | (have h1 := tgS_le (c := (kch K (lch l wn))) (hck _) (nI (K.1 1)); omega)) rfl (by exact Nat.le_of_ble_eq_true rfl) dX7_decree_75 (fun v75 M hpT => ?_)
    obtain ⟨ad1, hp, hst⟩ := hpT
    rw [← hst (0, 0) (by decide) (by decide)]
    refine zaload_n C dX7_decree_78 rfl ?_
    refine zdup C dX7_decree_79 rfl ?_
    refine zget C hf_X7_44 hp.main (by rfl) dX7_decree_80 ?_
    refine zconst (v := 1) C dX7_decree_83 (by decide) ?_
    refine ziadd C dX7_decree_84 ?_
    refine zcg ?_ rfl (congrArg (fun z => (.int z :: _ : List Value)) (nI_1 (K.1 4)))
    refine zput (fs1 := [_, _, _, _, _, _, _, _, _, _]) C hf_X7_44 hp_X7 rfl hp.main rfl rfl (by exact Nat.le_of_ble_eq_true rfl) (by rfl) dX7_decree_85 ?_
    refine kstep (hp.mainN 4 (K.1 4 + 1) (by decide)) rfl (fun M hp => ?_)
    refine ziload C dX7_decree_88 rfl ?_
    exact zend_i C hE dX7_decree_90 (by first | omega | (have h1 := tgC_le (kch K (lch l wn)) (nI (K.1 1)); omega) | (have h1 := tgS_le (c := (kch K (lch l wn))) (hck _) (nI (K.1 1)); omega)) (by first | omega | (have h1 := tgC_le (kch K (lch l wn)) (nI (K.1 1)); omega) | (have h1 := tgS_le (c := (kch K (lch l wn))) (hck _) (nI (K.1 1)); omega)) ⟨by rw [x_decree, okl, w15, ewn, w29]; simp [h38], by rw [exl, ewn], ad1, by rw [k_decree, exl, ewn]; exact hp, hst⟩
  · replace h38 := Nat.not_lt.mp (fun e => h38 ((nI_ltI (a := K.1 4) (b := 100) (by omega) (by decide)).mpr e))
    exact zthrow C hE ht_X7_112_66 rfl (by decide) (by exact Nat.le_of_ble_eq_true rfl) (by omega) (by omega) dX7_decree_41 dX7_decree_44 dX7_decree_45 dX7_decree_47 dX7_decree_50 ⟨thr3 (by rw [x_decree, okl, w15, ewn, w29]; simp [h38]), rfl⟩
set_option maxRecDepth 100000 in
set_option maxHeartbeats 1000000 in
theorem K_rule {g : zGh} {K : zK} {X : zg → Option va_E} {ad : zg → Nat} {M : zM} (m r : Int32) (hp : zP g K X ad M) (hi : iK K) (hck : iCk K) : zCt g yX7_rule cX7_rule 4 (some .int) 7 112 mkI [.ref (ad (0, 0)), .int m, .int r] M 10 4200 (fun v M1 => x_rule K m r = 0 ∧ v = chN (kch K m.toNatClampNeg) ∧ ∃ ad1, zP g (k_rule K m r) X ad1 M1 ∧ ∀ t : zg, t.1 ≠ 4 → t.1 ≠ 5 → ad1 t = ad t) (fun E M1 => thr E (x_rule K m r) ∧ M1 = M) := by
  refine zof [some (.ref (ad (0, 0))), some (.int m), some (.int r), none] (by decide +kernel) rfl rfl (Nat.le_of_ble_eq_true rfl) ?_
  intro Z C hE hnm
  have C : zC g Z RX7 cX7_rule 4 7 112 10 4200 := C
  obtain ⟨⟨hb1, h2, h4, h9, h13, h25, h33⟩, ⟨hch, hf⟩, ⟨hma, hsu, hpa⟩, hwp, hwi, hsc⟩ := hi
  have hw64 : ∀ s, (kws K s).1 ≤ 64 := fun s => Nat.le_trans (hwi s) (by decide)
  refine ziload_n C dX7_rule_0 rfl ?_
  refine zconst (v := 0) C dX7_rule_1 (by decide) ?_
  refine zconst (v := 3) C dX7_rule_2 (by decide) ?_
  refine zcallSX C (k_needWithin _ _ _) hy_X7_needWithin hst_X7_needWithin hl_X7_102 rfl rfl (by decide) (by decide) (by omega) (by omega) rfl (by exact Nat.le_of_ble_eq_true rfl) dX7_rule_3 (fun E M1 hx => zout C hE (by omega) (by omega) (by obtain ⟨e, hz, hm⟩ := hx; subst e; subst hm; exact ⟨thr2 (by simp [x_rule, hz]), rfl⟩)) (fun v3 M hp3 => ?_)
  obtain ⟨w3, rfl⟩ := hp3
  obtain ⟨m0, hm0, rfl⟩ := wthn_of (n := 3) w3 (by decide)
  have em0 : (nI m0).toNatClampNeg = m0 := nI_clamp (by omega)
  refine ziload_n C dX7_rule_6 rfl ?_
  refine zconst (v := 0) C dX7_rule_7 (by decide) ?_
  refine zconst (v := 3) C dX7_rule_8 (by decide) ?_
  refine zcallSX C (k_needWithin _ _ _) hy_X7_needWithin hst_X7_needWithin hl_X7_102 rfl rfl (by decide) (by decide) (by omega) (by omega) rfl (by exact Nat.le_of_ble_eq_true rfl) dX7_rule_9 (fun E M1 hx => zout C hE (by omega) (by omega) (by obtain ⟨e, hz, hm⟩ := hx; subst e; subst hm; exact ⟨thr2 (by simp [x_rule, w3, hz]), rfl⟩)) (fun v9 M hp9 => ?_)
  obtain ⟨w9, rfl⟩ := hp9
  refine zaload_n C dX7_rule_12 rfl ?_
  refine zget C hf_X7_48 hp.main (by rfl) dX7_rule_13 ?_
  refine zbipush (v := 40) C dX7_rule_16 (by decide) ?_
  refine zicmp_lt (tgt := 31) C dX7_rule_18 (by decide) (fun h18 => ?_) (fun h18 => ?_)
  · replace h18 := (nI_ltI (a := K.1 9) (b := 40) (by omega) (by decide)).mp h18
    refine zaload_n C dX7_rule_31 rfl ?_
    refine zget C hf_X7_31 hp.main (by rfl) dX7_rule_32 ?_
    refine ziload_n C dX7_rule_35 rfl ?_
    refine zrcald (i0 := m0) C hp.rul rfl (by omega) (by decide) dX7_rule_36 ?_
    rw [if_pos (show m0 < 4 from (by omega))]
    refine zcallV C (c_newest (hp.chr (i := m0) (Or.inl (by omega)) (hch _))) hy_X0_newest hv_X0_newest hl_X7_86 (hp.chr (i := m0) (Or.inl (by omega)) (hch _)).1 rfl rfl rfl rfl (by decide) (by decide) (by omega) (by omega) rfl (by exact Nat.le_of_ble_eq_true rfl) dX7_rule_37 (fun v37 M hp37 => ?_)
    obtain ⟨rfl, rfl⟩ := hp37
    refine zistore_n (L1 := [_, _, _, _]) C dX7_rule_40 rfl (Nat.le_of_ble_eq_true rfl) ?_
    refine zaload_n C dX7_rule_41 rfl ?_
    refine zget C hf_X7_31 hp.main (by rfl) dX7_rule_42 ?_
    refine ziload_n C dX7_rule_45 rfl ?_
    refine zrcald (i0 := m0) C hp.rul rfl (by omega) (by decide) dX7_rule_46 ?_
    rw [if_pos (show m0 < 4 from (by omega))]
    refine zaload_n C dX7_rule_47 rfl ?_
    refine zget C hf_X7_51 hp.main (by rfl) dX7_rule_48 ?_
    refine ziload_n C dX7_rule_51 rfl ?_
    refine zcallV C (k_tell hp (Or.inl (by omega)) (hch _) (hck _) (nI (K.1 1)) r) hy_X0_tell hv_X0_tell hl_X7_91 (hp.chr (i := m0) (Or.inl (by omega)) (hch _)).1 rfl rfl rfl rfl (by decide) (by decide) (by first | omega | (have h1 := tgC_le (kch K m0) (nI (K.1 1)); omega) | (have h1 := tgS_le (c := (kch K m0)) (hck _) (nI (K.1 1)); omega)) (by first | omega | (have h1 := tgC_le (kch K m0) (nI (K.1 1)); omega) | (have h1 := tgS_le (c := (kch K m0)) (hck _) (nI (K.1 1)); omega)) rfl (by exact Nat.le_of_ble_eq_true rfl) dX7_rule_52 (fun v52 M hpT => ?_)
    obtain ⟨ad1, hp, hst⟩ := hpT
    rw [← hst (0, 0) (by decide) (by decide)]
    refine zaload_n C dX7_rule_55 rfl ?_
    refine zdup C dX7_rule_56 rfl ?_
    refine zget C hf_X7_48 hp.main (by rfl) dX7_rule_57 ?_
    refine zconst (v := 1) C dX7_rule_60 (by decide) ?_
    refine ziadd C dX7_rule_61 ?_
    refine zcg ?_ rfl (congrArg (fun z => (.int z :: _ : List Value)) (nI_1 (K.1 9)))
    refine zput (fs1 := [_, _, _, _, _, _, _, _, _, _]) C hf_X7_48 hp_X7 rfl hp.main rfl rfl (by exact Nat.le_of_ble_eq_true rfl) (by rfl) dX7_rule_62 ?_
    refine kstep (hp.mainN 9 (K.1 9 + 1) (by decide)) rfl (fun M hp => ?_)
    refine ziload_n C dX7_rule_65 rfl ?_
    exact zend_i C hE dX7_rule_66 (by first | omega | (have h1 := tgC_le (kch K m0) (nI (K.1 1)); omega) | (have h1 := tgS_le (c := (kch K m0)) (hck _) (nI (K.1 1)); omega)) (by first | omega | (have h1 := tgC_le (kch K m0) (nI (K.1 1)); omega) | (have h1 := tgS_le (c := (kch K m0)) (hck _) (nI (K.1 1)); omega)) ⟨by rw [x_rule, w3, w9]; simp [h18], by rw [em0]; rfl, ad1, by rw [k_rule, em0]; exact hp, hst⟩
  · replace h18 := Nat.not_lt.mp (fun e => h18 ((nI_ltI (a := K.1 9) (b := 40) (by omega) (by decide)).mpr e))
    exact zthrow C hE ht_X7_121_66 rfl (by decide) (by exact Nat.le_of_ble_eq_true rfl) (by omega) (by omega) dX7_rule_21 dX7_rule_24 dX7_rule_25 dX7_rule_27 dX7_rule_30 ⟨thr3 (by rw [x_rule, w3, w9]; simp [h18]), rfl⟩
