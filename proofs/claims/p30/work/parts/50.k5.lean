/-- which exception, by the numbers 1, 2, 3 -/
def thr (E : String) (n : Nat) : Prop := (n = 1 ∧ E = IOE) ∨ (n = 2 ∧ E = IAE) ∨ (n = 3 ∧ E = ISE)
theorem thr1 {n : Nat} (h : n = 1) : thr IOE n := Or.inl ⟨h, rfl⟩
theorem thr2 {n : Nat} (h : n = 2) : thr IAE n := Or.inr (Or.inl ⟨h, rfl⟩)
theorem thr3 {n : Nat} (h : n = 3) : thr ISE n := Or.inr (Or.inr ⟨h, rfl⟩)
def okK (K : zK) (c : Int32) : Bool := decide (c = -1) || zix c (K.1 2)
def lixN (c : Int32) : Nat := if c = -1 then 0 else c.toNatClampNeg + 1
theorem lixN_l {l : Nat} (h : l ≤ 6) : lixN (lcode l) = l := by
  unfold lixN lcode
  by_cases e : l = 0
  · rw [if_pos e, if_pos rfl, e]
  · rw [if_neg e, if_neg (nI_m1 (by omega)), nI_clamp (by omega)]
    omega
theorem okK_l {K : zK} {l : Nat} (h : l ≤ K.1 2) (h6 : K.1 2 ≤ 6) : okK K (lcode l) = true := by
  unfold okK lcode
  by_cases e : l = 0
  · rw [if_pos e]; rfl
  · rw [if_neg e, zix_t (by omega) (by omega), Bool.or_true]
theorem wthn_of {x : Int32} {n : Nat} (h : wthn x 0 (nI n) = true) (hn : n < 2 ^ 30) : ∃ j, j ≤ n ∧ x = nI j := by
  unfold wthn at h
  rw [Bool.and_eq_true, decide_eq_true_eq, decide_eq_true_eq, Int32.le_iff_toInt_le, Int32.le_iff_toInt_le, nI_toInt (by omega)] at h
  obtain ⟨j, hj, e⟩ := vp_in_of (x := x) (n := n + 1) (vp_in_iff.mpr ⟨by simpa using h.1, by omega⟩) (by omega)
  exact ⟨j, by omega, e⟩
theorem wthn_no {x : Int32} {n : Nat} (h : ¬ wthn x 0 (nI n) = true) (hn : n < 2 ^ 30) : x.toInt < 0 ∨ (n : Int) < x.toInt := by
  apply Classical.byContradiction
  intro hc
  apply h
  unfold wthn
  rw [Bool.and_eq_true, decide_eq_true_eq, decide_eq_true_eq, Int32.le_iff_toInt_le, Int32.le_iff_toInt_le, nI_toInt (by omega)]
  exact ⟨by simp; omega, by omega⟩
def x_law (K : zK) (c w d : Int32) : Nat := if okK K c = false then 1 else if (wthn w 0 6 && wthn d 0 (nI (K.1 1))) = false then 2 else 0
def a_law (K : zK) (c w d : Int32) : Int32 := lawK K (lixN c) w.toNatClampNeg d
def maxB (K : zK) (p q : Nat) : Int32 := if (kpe K p).2.2.2.1 < (kpe K q).2.2.2.1 then (kpe K q).2.2.2.1 else (kpe K p).2.2.2.1
def x_court (K : zK) (m p q d : Int32) : Nat := if (zix p (K.1 13) && zix q (K.1 13)) = false then 1 else if (wthn m 0 3 && wthn d (maxB K p.toNatClampNeg q.toNatClampNeg) (nI (K.1 1))) = false then 2 else 0
def a_court (K : zK) (m p q d : Int32) : Int32 := crtK K m.toNatClampNeg p.toNatClampNeg q.toNatClampNeg d
def x_faith (K : zK) (p d : Int32) : Nat := if zix p (K.1 13) = false then 1 else if wthn d (kpe K p.toNatClampNeg).2.2.2.1 (nI (K.1 1)) = false then 2 else 0
def a_faith (K : zK) (p d : Int32) : Int32 := faithK K p.toNatClampNeg d
def x_wins (K : zK) (s c : Int32) : Nat := if (zix s (K.1 33) && okK K c) = false then 1 else 0
def a_wins (K : zK) (s c : Int32) : Bool := wonK K s.toNatClampNeg (lixN c)
def x_of (n : Nat) (hi p w : Int32) : Nat := if zix p n = false then 1 else if wthn w 0 hi = false then 2 else 0
def a_ofPerson (K : zK) (p w : Int32) : Int64 := if w = 0 then (kpe K p.toNatClampNeg).2.2.2.2.2.1 else if w = 1 then (if (kpe K p.toNatClampNeg).2.2.2.2.1 = true then 1 else 0) else if w = 2 then (nI (hml K p.toNatClampNeg)).toInt64 else if w = 3 then (kpe K p.toNatClampNeg).2.2.2.2.2.2.2.1.toInt64 else if w = 4 then (lowK K p.toNatClampNeg (K.1 25) (K.1 25)).toInt64 else (nI (kid K p.toNatClampNeg)).toInt64
def a_ofMarriage (K : zK) (m w : Int32) : Int32 := if w = 0 then (kma K m.toNatClampNeg).2.2.2.1 else if w = 1 then nI (kma K m.toNatClampNeg).1 else if w = 2 then nI (kma K m.toNatClampNeg).2.1 else if w = 3 then (kma K m.toNatClampNeg).2.2.2.2.1 else (kma K m.toNatClampNeg).2.2.1
def a_ofSuit (K : zK) (s w : Int32) : Int32 := if w = 0 then (ksu K s.toNatClampNeg).2.2.2.2.1 else if w = 1 then (ksu K s.toNatClampNeg).2.2.1 else if w = 2 then nI (kws K s.toNatClampNeg).1 else if w = 3 then (ksu K s.toNatClampNeg).2.2.2.2.2.2.1 else (ksu K s.toNatClampNeg).2.2.2.2.2.2.2.1
/-- numbers within their bounds; what holds of the state at any call -/
def iBd (K : zK) : Prop := K.1 1 ≤ 30000 ∧ K.1 2 ≤ 6 ∧ K.1 4 ≤ 100 ∧ K.1 9 ≤ 40 ∧ K.1 13 ≤ 40 ∧ K.1 25 ≤ 30 ∧ K.1 33 ≤ 20
/-- a suit's court is one -/
def iSc (K : zK) : Prop := ∀ s, s < K.1 33 → ∃ l, l ≤ K.1 2 ∧ (ksu K s).2.2.1 = lcode l
def iK (K : zK) : Prop := iBd K ∧ (iCh K ∧ iFa K) ∧ (iMa K ∧ iSui K ∧ iPa K) ∧ iWi K ∧ iW4 K ∧ iSc K
set_option maxRecDepth 100000 in
set_option maxHeartbeats 1000000 in
theorem K_law {g : zGh} {K : zK} {X : zg → Option va_E} {ad : zg → Nat} {M : zM} (c w d : Int32) (hp : zP g K X ad M) (hi : iK K) : zCt g yX7_law cX7_law 5 (some .int) 8 132 mkI [.ref (ad (0, 0)), .int c, .int w, .int d] M 8 48 (fun v M1 => x_law K c w d = 0 ∧ v = a_law K c w d ∧ M1 = M) (fun E M1 => thr E (x_law K c w d) ∧ M1 = M) := by
  refine zof [some (.ref (ad (0, 0))), some (.int c), some (.int w), some (.int d), none] (by decide +kernel) rfl rfl (Nat.le_of_ble_eq_true rfl) ?_
  intro Z C hE hnm
  have C : zC g Z RX7 cX7_law 5 8 132 8 48 := C
  obtain ⟨⟨hb1, h2, h4, h9, h13, h25, h33⟩, ⟨hch, hf⟩, ⟨hma, hsu, hpa⟩, hwp, hwi, hsc⟩ := hi
  have hw64 : ∀ s, (kws K s).1 ≤ 64 := fun s => Nat.le_trans (hwi s) (by decide)
  refine zaload_n C dX7_law_0 rfl ?_
  refine ziload_n C dX7_law_1 rfl ?_
  refine zcallVX C (k_lawAt _ hp h2) hy_X7_lawAt hv_X7_lawAt hl_X7_95 hp.main rfl rfl rfl rfl (by decide) (by decide) (by omega) (by omega) rfl (by exact Nat.le_of_ble_eq_true rfl) dX7_law_2 (fun E M1 hx => zout C hE (by omega) (by omega) (by obtain ⟨e, hz, hm⟩ := hx; subst e; subst hm; exact ⟨thr1 (by simp [x_law, okK, hz]), rfl⟩)) (fun v2 M hp2 => ?_)
  obtain ⟨⟨l, hl, rfl, rfl⟩, rfl⟩ := hp2
  have okl := okK_l hl h2
  have exl := lixN_l (show l ≤ 6 by omega)
  refine zastore (L1 := [_, _, _, _, _]) C dX7_law_5 rfl (Nat.le_of_ble_eq_true rfl) ?_
  refine ziload_n C dX7_law_7 rfl ?_
  refine zconst (v := 0) C dX7_law_8 (by decide) ?_
  refine zgets C C.2.2.2.2.2.1.2.2.1.2.1.1.1 hs_X7_99 dX7_law_9 ?_
  refine zsalen (v := nI 7) C C.2.2.2.2.2.1.2.2.1.2.1.1.2 rfl dX7_law_12 ?_
  refine zconst (v := 1) C dX7_law_13 (by decide) ?_
  refine zisub C dX7_law_14 ?_
  refine zcallSX C (k_needWithin _ 0 6) hy_X7_needWithin hst_X7_needWithin hl_X7_102 rfl rfl (by decide) (by decide) (by omega) (by omega) rfl (by exact Nat.le_of_ble_eq_true rfl) dX7_law_15 (fun E M1 hx => zout C hE (by omega) (by omega) (by obtain ⟨e, hz, hm⟩ := hx; subst e; subst hm; exact ⟨thr2 (by simp [x_law, okl, hz]), rfl⟩)) (fun v15 M hp15 => ?_)
  obtain ⟨w15, rfl⟩ := hp15
  obtain ⟨wn, hwn, rfl⟩ := wthn_of (n := 6) w15 (by decide)
  have ewn : (nI wn).toNatClampNeg = wn := nI_clamp (by omega)
  refine ziload_n C dX7_law_18 rfl ?_
  refine zconst (v := 0) C dX7_law_19 (by decide) ?_
  refine zaload_n C dX7_law_20 rfl ?_
  refine zget C hf_X7_51 hp.main (by rfl) dX7_law_21 ?_
  refine zcallSX C (k_needWithin _ _ _) hy_X7_needWithin hst_X7_needWithin hl_X7_102 rfl rfl (by decide) (by decide) (by omega) (by omega) rfl (by exact Nat.le_of_ble_eq_true rfl) dX7_law_24 (fun E M1 hx => zout C hE (by omega) (by omega) (by obtain ⟨e, hz, hm⟩ := hx; subst e; subst hm; exact ⟨thr2 (by simp [x_law, okl, w15, hz]), rfl⟩)) (fun v24 M hp24 => ?_)
  obtain ⟨w24, rfl⟩ := hp24
  refine zaload C dX7_law_27 rfl ?_
  refine ziload_n C dX7_law_29 rfl ?_
  refine ziload_n C dX7_law_30 rfl ?_
  refine zcallV C (k_lawN wn _ _ rfl (by omega) hp hl hch) hy_X2_numberOn hv_X2_numberOn hl_X7_114 (hp.lawo (l := l) hl) rfl rfl rfl rfl (by decide) (by decide) (by omega) (by omega) rfl (by exact Nat.le_of_ble_eq_true rfl) dX7_law_31 (fun v31 M hp31 => ?_)
  obtain ⟨rfl, rfl⟩ := hp31
  exact zend_i C hE dX7_law_34 (by omega) (by omega) ⟨by simp [x_law, okl, w15, w24], by rw [a_law, exl, ewn], rfl⟩
set_option maxRecDepth 100000 in
set_option maxHeartbeats 1000000 in
theorem K_court {g : zGh} {K : zK} {X : zg → Option va_E} {ad : zg → Nat} {M : zM} (m p q d : Int32) (hp : zP g K X ad M) (hi : iK K) : zCt g yX7_court cX7_court 7 (some .int) 8 136 mkI [.ref (ad (0, 0)), .int m, .int p, .int q, .int d] M 8 48 (fun v M1 => x_court K m p q d = 0 ∧ v = a_court K m p q d ∧ M1 = M) (fun E M1 => thr E (x_court K m p q d) ∧ M1 = M) := by
  refine zof [some (.ref (ad (0, 0))), some (.int m), some (.int p), some (.int q), some (.int d), none, none] (by decide +kernel) rfl rfl (Nat.le_of_ble_eq_true rfl) ?_
  intro Z C hE hnm
  have C : zC g Z RX7 cX7_court 7 8 136 8 48 := C
  obtain ⟨⟨hb1, h2, h4, h9, h13, h25, h33⟩, ⟨hch, hf⟩, ⟨hma, hsu, hpa⟩, hwp, hwi, hsc⟩ := hi
  have hw64 : ∀ s, (kws K s).1 ≤ 64 := fun s => Nat.le_trans (hwi s) (by decide)
  refine zaload_n C dX7_court_0 rfl ?_
  refine ziload_n C dX7_court_1 rfl ?_
  refine zcallVX C (k_personAt _ hp h13) hy_X7_personAt hv_X7_personAt hl_X7_123 hp.main rfl rfl rfl rfl (by decide) (by decide) (by omega) (by omega) rfl (by exact Nat.le_of_ble_eq_true rfl) dX7_court_2 (fun E M1 hx => zout C hE (by omega) (by omega) (by obtain ⟨e, hz, hm⟩ := hx; subst e; subst hm; exact ⟨thr1 (by simp [x_court, okK, hz]), rfl⟩)) (fun v2 M hp2 => ?_)
  obtain ⟨⟨pn, hpn, rfl, rfl⟩, rfl⟩ := hp2
  have zpn : zix (nI pn) (K.1 13) = true := zix_t hpn (by omega)
  have epn : (nI pn).toNatClampNeg = pn := nI_clamp (by omega)
  refine zastore (L1 := [_, _, _, _, _, _, _]) C dX7_court_5 rfl (Nat.le_of_ble_eq_true rfl) ?_
  refine zaload_n C dX7_court_7 rfl ?_
  refine ziload_n C dX7_court_8 rfl ?_
  refine zcallVX C (k_personAt _ hp h13) hy_X7_personAt hv_X7_personAt hl_X7_123 hp.main rfl rfl rfl rfl (by decide) (by decide) (by omega) (by omega) rfl (by exact Nat.le_of_ble_eq_true rfl) dX7_court_9 (fun E M1 hx => zout C hE (by omega) (by omega) (by obtain ⟨e, hz, hm⟩ := hx; subst e; subst hm; exact ⟨thr1 (by simp [x_court, zpn, okK, hz]), rfl⟩)) (fun v9 M hp9 => ?_)
  obtain ⟨⟨qn, hqn, rfl, rfl⟩, rfl⟩ := hp9
  have zqn : zix (nI qn) (K.1 13) = true := zix_t hqn (by omega)
  have eqn : (nI qn).toNatClampNeg = qn := nI_clamp (by omega)
  refine zastore (L1 := [_, _, _, _, _, _, _]) C dX7_court_12 rfl (Nat.le_of_ble_eq_true rfl) ?_
  refine ziload_n C dX7_court_14 rfl ?_
  refine zconst (v := 0) C dX7_court_15 (by decide) ?_
  refine zconst (v := 3) C dX7_court_16 (by decide) ?_
  refine zcallSX C (k_needWithin _ _ _) hy_X7_needWithin hst_X7_needWithin hl_X7_102 rfl rfl (by decide) (by decide) (by omega) (by omega) rfl (by exact Nat.le_of_ble_eq_true rfl) dX7_court_17 (fun E M1 hx => zout C hE (by omega) (by omega) (by obtain ⟨e, hz, hm⟩ := hx; subst e; subst hm; exact ⟨thr2 (by simp [x_court, zpn, zqn, hz]), rfl⟩)) (fun v17 M hp17 => ?_)
  obtain ⟨w17, rfl⟩ := hp17
  obtain ⟨j, hj, rfl⟩ := wthn_of (n := 3) w17 (by decide)
  have ej : (nI j).toNatClampNeg = j := nI_clamp (by omega)
  refine ziload C dX7_court_20 rfl ?_
  refine zaload C dX7_court_22 rfl ?_
  refine zget C hf_X7_127 (hp.per (p := pn) hpn) (by rfl) dX7_court_24 ?_
  refine zaload C dX7_court_27 rfl ?_
  refine zget C hf_X7_127 (hp.per (p := qn) hqn) (by rfl) dX7_court_29 ?_
  refine zmmax C hl_X7_132 rfl (by decide) (by exact Nat.le_of_ble_eq_true rfl) (by omega) (by omega) dX7_court_32 ?_
  refine zaload_n C dX7_court_35 rfl ?_
  refine zget C hf_X7_51 hp.main (by rfl) dX7_court_36 ?_
  refine zcallSX C (k_needWithin _ _ _) hy_X7_needWithin hst_X7_needWithin hl_X7_102 rfl rfl (by decide) (by decide) (by omega) (by omega) rfl (by exact Nat.le_of_ble_eq_true rfl) dX7_court_39 (fun E M1 hx => zout C hE (by omega) (by omega) (by obtain ⟨e, hz, hm⟩ := hx; subst e; subst hm; exact ⟨thr2 (by simp [x_court, zpn, zqn, w17, epn, eqn, maxB, hz]), rfl⟩)) (fun v39 M hp39 => ?_)
  obtain ⟨w39, rfl⟩ := hp39
  refine zaload_n C dX7_court_42 rfl ?_
  refine ziload_n C dX7_court_43 rfl ?_
  refine zaload C dX7_court_44 rfl ?_
  refine zaload C dX7_court_46 rfl ?_
  refine ziload C dX7_court_48 rfl ?_
  refine zcallVX C (k_courtOf j (nI j) d rfl (by omega) hpn hqn hp h2 hch hf) hy_X7_courtOf hv_X7_courtOf hl_X7_137 hp.main rfl rfl rfl rfl (by decide) (by decide) (by omega) (by omega) rfl (by exact Nat.le_of_ble_eq_true rfl) dX7_court_50 (fun E M1 hx => hx.elim) (fun v50 M hp50 => ?_)
  obtain ⟨rfl, rfl⟩ := hp50
  exact zend_i C hE dX7_court_53 (by omega) (by omega) ⟨by simp [x_court, zpn, zqn, w17, epn, eqn]; exact w39, by rw [a_court, epn, eqn, ej], rfl⟩
set_option maxRecDepth 100000 in
set_option maxHeartbeats 1000000 in
theorem K_faith {g : zGh} {K : zK} {X : zg → Option va_E} {ad : zg → Nat} {M : zM} (p d : Int32) (hp : zP g K X ad M) (hi : iK K) : zCt g yX7_faith cX7_faith 4 (some .int) 7 112 mkI [.ref (ad (0, 0)), .int p, .int d] M 8 48 (fun v M1 => x_faith K p d = 0 ∧ v = a_faith K p d ∧ M1 = M) (fun E M1 => thr E (x_faith K p d) ∧ M1 = M) := by
  refine zof [some (.ref (ad (0, 0))), some (.int p), some (.int d), none] (by decide +kernel) rfl rfl (Nat.le_of_ble_eq_true rfl) ?_
  intro Z C hE hnm
  have C : zC g Z RX7 cX7_faith 4 7 112 8 48 := C
  obtain ⟨⟨hb1, h2, h4, h9, h13, h25, h33⟩, ⟨hch, hf⟩, ⟨hma, hsu, hpa⟩, hwp, hwi, hsc⟩ := hi
  have hw64 : ∀ s, (kws K s).1 ≤ 64 := fun s => Nat.le_trans (hwi s) (by decide)
  refine zaload_n C dX7_faith_0 rfl ?_
  refine ziload_n C dX7_faith_1 rfl ?_
  refine zcallVX C (k_personAt _ hp h13) hy_X7_personAt hv_X7_personAt hl_X7_123 hp.main rfl rfl rfl rfl (by decide) (by decide) (by omega) (by omega) rfl (by exact Nat.le_of_ble_eq_true rfl) dX7_faith_2 (fun E M1 hx => zout C hE (by omega) (by omega) (by obtain ⟨e, hz, hm⟩ := hx; subst e; subst hm; exact ⟨thr1 (by simp [x_faith, okK, hz]), rfl⟩)) (fun v2 M hp2 => ?_)
  obtain ⟨⟨pn, hpn, rfl, rfl⟩, rfl⟩ := hp2
  have zpn : zix (nI pn) (K.1 13) = true := zix_t hpn (by omega)
  have epn : (nI pn).toNatClampNeg = pn := nI_clamp (by omega)
  refine zastore_n (L1 := [_, _, _, _]) C dX7_faith_5 rfl (Nat.le_of_ble_eq_true rfl) ?_
  refine ziload_n C dX7_faith_6 rfl ?_
  refine zaload_n C dX7_faith_7 rfl ?_
  refine zget C hf_X7_127 (hp.per (p := pn) hpn) (by rfl) dX7_faith_8 ?_
  refine zaload_n C dX7_faith_11 rfl ?_
  refine zget C hf_X7_51 hp.main (by rfl) dX7_faith_12 ?_
  refine zcallSX C (k_needWithin _ _ _) hy_X7_needWithin hst_X7_needWithin hl_X7_102 rfl rfl (by decide) (by decide) (by omega) (by omega) rfl (by exact Nat.le_of_ble_eq_true rfl) dX7_faith_15 (fun E M1 hx => zout C hE (by omega) (by omega) (by obtain ⟨e, hz, hm⟩ := hx; subst e; subst hm; exact ⟨thr2 (by simp [x_faith, zpn, epn, hz]), rfl⟩)) (fun v15 M hp15 => ?_)
  obtain ⟨w15, rfl⟩ := hp15
  refine zaload_n C dX7_faith_18 rfl ?_
  refine zget C hf_X7_198 (hp.per (p := pn) hpn) (by rfl) dX7_faith_19 ?_
  refine ziload_n C dX7_faith_22 rfl ?_
  refine zcallV C (c_numberOn _ (hp.chr (i := 100 + pn) (chA_per hpn) (hch _))) hy_X0_numberOn hv_X0_numberOn hl_X7_201 (hp.chr (i := 100 + pn) (chA_per hpn) (hch _)).1 rfl rfl rfl rfl (by decide) (by decide) (by omega) (by omega) rfl (by exact Nat.le_of_ble_eq_true rfl) dX7_faith_23 (fun v23 M hp23 => ?_)
  obtain ⟨rfl, rfl⟩ := hp23
  exact zend_i C hE dX7_faith_26 (by omega) (by omega) ⟨by simp [x_faith, zpn, epn]; exact w15, by rw [a_faith, epn]; rfl, rfl⟩
set_option maxRecDepth 100000 in
set_option maxHeartbeats 1000000 in
theorem K_wins {g : zGh} {K : zK} {X : zg → Option va_E} {ad : zg → Nat} {M : zM} (s c : Int32) (hp : zP g K X ad M) (hi : iK K) : zCt g yX7_wins cX7_wins 4 (some .boolean) 8 132 mkI [.ref (ad (0, 0)), .int s, .int c] M 8 48 (fun v M1 => x_wins K s c = 0 ∧ v = b2i (a_wins K s c) ∧ M1 = M) (fun E M1 => thr E (x_wins K s c) ∧ M1 = M) := by
  refine zof [some (.ref (ad (0, 0))), some (.int s), some (.int c), none] (by decide +kernel) rfl rfl (Nat.le_of_ble_eq_true rfl) ?_
  intro Z C hE hnm
  have C : zC g Z RX7 cX7_wins 4 8 132 8 48 := C
  obtain ⟨⟨hb1, h2, h4, h9, h13, h25, h33⟩, ⟨hch, hf⟩, ⟨hma, hsu, hpa⟩, hwp, hwi, hsc⟩ := hi
  have hw64 : ∀ s, (kws K s).1 ≤ 64 := fun s => Nat.le_trans (hwi s) (by decide)
  refine zaload_n C dX7_wins_0 rfl ?_
  refine ziload_n C dX7_wins_1 rfl ?_
  refine zcallVX C (k_suitAt _ hp h33) hy_X7_suitAt hv_X7_suitAt hl_X7_291 hp.main rfl rfl rfl rfl (by decide) (by decide) (by omega) (by omega) rfl (by exact Nat.le_of_ble_eq_true rfl) dX7_wins_2 (fun E M1 hx => zout C hE (by omega) (by omega) (by obtain ⟨e, hz, hm⟩ := hx; subst e; subst hm; exact ⟨thr1 (by simp [x_wins, okK, hz]), rfl⟩)) (fun v2 M hp2 => ?_)
  obtain ⟨⟨sn, hsn, rfl, rfl⟩, rfl⟩ := hp2
  have zsn : zix (nI sn) (K.1 33) = true := zix_t hsn (by omega)
  have esn : (nI sn).toNatClampNeg = sn := nI_clamp (by omega)
  refine zastore_n (L1 := [_, _, _, _]) C dX7_wins_5 rfl (Nat.le_of_ble_eq_true rfl) ?_
  refine zaload_n C dX7_wins_6 rfl ?_
  refine zaload_n C dX7_wins_7 rfl ?_
  refine zaload_n C dX7_wins_8 rfl ?_
  refine ziload_n C dX7_wins_9 rfl ?_
  refine zcallVX C (k_lawAt _ hp h2) hy_X7_lawAt hv_X7_lawAt hl_X7_95 hp.main rfl rfl rfl rfl (by decide) (by decide) (by omega) (by omega) rfl (by exact Nat.le_of_ble_eq_true rfl) dX7_wins_10 (fun E M1 hx => zout C hE (by omega) (by omega) (by obtain ⟨e, hz, hm⟩ := hx; subst e; subst hm; exact ⟨thr1 (by simp [x_wins, zsn, okK, hz]), rfl⟩)) (fun v10 M hp10 => ?_)
  obtain ⟨⟨l, hl, rfl, rfl⟩, rfl⟩ := hp10
  have okl := okK_l hl h2
  have exl := lixN_l (show l ≤ 6 by omega)
  refine zcallV C (k_isWon hsn hl hp h33 h2 hch hf hwp hwi) hy_X7_isWonBefore hv_X7_isWonBefore hl_X7_326 hp.main rfl rfl rfl rfl (by decide) (by decide) (by omega) (by omega) rfl (by exact Nat.le_of_ble_eq_true rfl) dX7_wins_13 (fun v13 M hp13 => ?_)
  obtain ⟨rfl, rfl⟩ := hp13
  exact zend_z C hE dX7_wins_16 (by omega) (by omega) (by first | exact Or.inl rfl | exact Or.inr rfl | exact b2i_b _) ⟨by simp [x_wins, zsn, okl], by rw [a_wins, esn, exl], rfl⟩
set_option maxRecDepth 100000 in
set_option maxHeartbeats 1000000 in
theorem K_ofPerson {g : zGh} {K : zK} {X : zg → Option va_E} {ad : zg → Nat} {M : zM} (p w : Int32) (hp : zP g K X ad M) (hi : iK K) : zCt g yX7_ofPerson cX7_ofPerson 4 (some .long) 7 111 mkL [.ref (ad (0, 0)), .int p, .int w] M 8 48 (fun v M1 => x_of (K.1 13) 5 p w = 0 ∧ v = a_ofPerson K p w ∧ M1 = M) (fun E M1 => thr E (x_of (K.1 13) 5 p w) ∧ M1 = M) := by
  refine zof [some (.ref (ad (0, 0))), some (.int p), some (.int w), none] (by decide +kernel) rfl rfl (Nat.le_of_ble_eq_true rfl) ?_
  intro Z C hE hnm
  have C : zC g Z RX7 cX7_ofPerson 4 7 111 8 48 := C
  obtain ⟨⟨hb1, h2, h4, h9, h13, h25, h33⟩, ⟨hch, hf⟩, ⟨hma, hsu, hpa⟩, hwp, hwi, hsc⟩ := hi
  have hw64 : ∀ s, (kws K s).1 ≤ 64 := fun s => Nat.le_trans (hwi s) (by decide)
  refine zaload_n C dX7_ofPerson_0 rfl ?_
  refine ziload_n C dX7_ofPerson_1 rfl ?_
  refine zcallVX C (k_personAt _ hp h13) hy_X7_personAt hv_X7_personAt hl_X7_123 hp.main rfl rfl rfl rfl (by decide) (by decide) (by omega) (by omega) rfl (by exact Nat.le_of_ble_eq_true rfl) dX7_ofPerson_2 (fun E M1 hx => zout C hE (by omega) (by omega) (by obtain ⟨e, hz, hm⟩ := hx; subst e; subst hm; exact ⟨thr1 (by simp [x_of, okK, hz]), rfl⟩)) (fun v2 M hp2 => ?_)
  obtain ⟨⟨pn, hpn, rfl, rfl⟩, rfl⟩ := hp2
  have zpn : zix (nI pn) (K.1 13) = true := zix_t hpn (by omega)
  have epn : (nI pn).toNatClampNeg = pn := nI_clamp (by omega)
  refine zastore_n (L1 := [_, _, _, _]) C dX7_ofPerson_5 rfl (Nat.le_of_ble_eq_true rfl) ?_
  refine ziload_n C dX7_ofPerson_6 rfl ?_
  by_cases hw : wthn w 0 5 = true
  · obtain ⟨wn, hwn, rfl⟩ := wthn_of (n := 5) hw (by decide)
    have hc : wn = 0 ∨ wn = 1 ∨ wn = 2 ∨ wn = 3 ∨ wn = 4 ∨ wn = 5 := by omega
    rcases hc with rfl | rfl | rfl | rfl | rfl | rfl
    · refine zts_in (tgt := 44) C dX7_ofPerson_7 (by decide) (by decide) rfl (by decide) ?_
      refine zaload_n C dX7_ofPerson_44 rfl ?_
      refine zget C hf_X7_256 (hp.per (p := pn) hpn) (by rfl) dX7_ofPerson_45 ?_
      exact zend_l C hE dX7_ofPerson_48 (by omega) (by omega) ⟨by simp only [x_of, zpn]; rfl, by rw [a_ofPerson, epn]; rfl, rfl⟩
    · refine zts_in (tgt := 49) C dX7_ofPerson_7 (by decide) (by decide) rfl (by decide) ?_
      refine zaload_n C dX7_ofPerson_49 rfl ?_
      refine zget C hf_X7_251 (hp.per (p := pn) hpn) (by rfl) dX7_ofPerson_50 ?_
      refine zif_eq (tgt := 60) C dX7_ofPerson_53 (by decide) (fun h53 => ?_) (fun h53 => ?_)
      · replace h53 := b2i_0.mp h53
        refine zlconst (v := 0) C dX7_ofPerson_60 rfl ?_
        exact zend_l C hE dX7_ofPerson_61 (by omega) (by omega) ⟨by simp only [x_of, zpn]; rfl, by rw [a_ofPerson, epn]; simp [h53]; try rfl, rfl⟩
      · replace h53 := b2i_n0.mp h53
        refine zlconst (v := 1) C dX7_ofPerson_56 rfl ?_
        refine zgoto (tgt := 61) C dX7_ofPerson_57 (by decide) ?_
        exact zend_l C hE dX7_ofPerson_61 (by omega) (by omega) ⟨by simp only [x_of, zpn]; rfl, by rw [a_ofPerson, epn]; simp [h53]; try rfl, rfl⟩
    · refine zts_in (tgt := 62) C dX7_ofPerson_7 (by decide) (by decide) rfl (by decide) ?_
      refine zaload_n C dX7_ofPerson_62 rfl ?_
      refine zaload_n C dX7_ofPerson_63 rfl ?_
      refine zcallV C (k_howManyLast hpn hp h25 hma) hy_X7_howManyLast hv_X7_howManyLast hl_X7_367 hp.main rfl rfl rfl rfl (by decide) (by decide) (by omega) (by omega) rfl (by exact Nat.le_of_ble_eq_true rfl) dX7_ofPerson_64 (fun v64 M hp64 => ?_)
      obtain ⟨rfl, rfl⟩ := hp64
      refine zi2l C dX7_ofPerson_67 ?_
      exact zend_l C hE dX7_ofPerson_68 (by omega) (by omega) ⟨by simp only [x_of, zpn]; rfl, by rw [a_ofPerson, epn]; rfl, rfl⟩
    · refine zts_in (tgt := 69) C dX7_ofPerson_7 (by decide) (by decide) rfl (by decide) ?_
      refine zaload_n C dX7_ofPerson_69 rfl ?_
      refine zget C hf_X7_190 (hp.per (p := pn) hpn) (by rfl) dX7_ofPerson_70 ?_
      refine zi2l C dX7_ofPerson_73 ?_
      exact zend_l C hE dX7_ofPerson_74 (by omega) (by omega) ⟨by simp only [x_of, zpn]; rfl, by rw [a_ofPerson, epn]; rfl, rfl⟩
    · refine zts_in (tgt := 75) C dX7_ofPerson_7 (by decide) (by decide) rfl (by decide) ?_
      refine zaload_n C dX7_ofPerson_75 rfl ?_
      refine zaload_n C dX7_ofPerson_76 rfl ?_
      refine zcallV C (k_lowest hpn hp h25 hma) hy_X7_lowestThatLasts hv_X7_lowestThatLasts hl_X7_371 hp.main rfl rfl rfl rfl (by decide) (by decide) (by omega) (by omega) rfl (by exact Nat.le_of_ble_eq_true rfl) dX7_ofPerson_77 (fun v77 M hp77 => ?_)
      obtain ⟨rfl, rfl⟩ := hp77
      refine zi2l C dX7_ofPerson_80 ?_
      exact zend_l C hE dX7_ofPerson_81 (by omega) (by omega) ⟨by simp only [x_of, zpn]; rfl, by rw [a_ofPerson, epn]; rfl, rfl⟩
    · refine zts_in (tgt := 82) C dX7_ofPerson_7 (by decide) (by decide) rfl (by decide) ?_
      refine zaload_n C dX7_ofPerson_82 rfl ?_
      refine zaload_n C dX7_ofPerson_83 rfl ?_
      refine zcallV C (k_howManyChildren hpn hp h13 hpa) hy_X7_howManyChildrenLive hv_X7_howManyChildrenLive hl_X7_374 hp.main rfl rfl rfl rfl (by decide) (by decide) (by omega) (by omega) rfl (by exact Nat.le_of_ble_eq_true rfl) dX7_ofPerson_84 (fun v84 M hp84 => ?_)
      obtain ⟨rfl, rfl⟩ := hp84
      refine zi2l C dX7_ofPerson_87 ?_
      exact zend_l C hE dX7_ofPerson_88 (by omega) (by omega) ⟨by simp only [x_of, zpn]; rfl, by rw [a_ofPerson, epn]; rfl, rfl⟩
  · refine zts_out (tgt := 89) C dX7_ofPerson_7 (wthn_no (n := 5) hw (by decide)) (by decide) ?_
    exact zthrowW C hE ht_X7_377_152 rfl (by decide) (by exact Nat.le_of_ble_eq_true rfl) (by omega) (by omega) dX7_ofPerson_89 dX7_ofPerson_92 dX7_ofPerson_93 dX7_ofPerson_96 dX7_ofPerson_99 ⟨thr2 (by simp [x_of, zpn]; simpa using hw), rfl⟩
set_option maxRecDepth 100000 in
set_option maxHeartbeats 1000000 in
theorem K_ofMarriage {g : zGh} {K : zK} {X : zg → Option va_E} {ad : zg → Nat} {M : zM} (m w : Int32) (hp : zP g K X ad M) (hi : iK K) : zCt g yX7_ofMarriage cX7_ofMarriage 4 (some .int) 7 111 mkI [.ref (ad (0, 0)), .int m, .int w] M 8 48 (fun v M1 => x_of (K.1 25) 4 m w = 0 ∧ v = a_ofMarriage K m w ∧ M1 = M) (fun E M1 => thr E (x_of (K.1 25) 4 m w) ∧ M1 = M) := by
  refine zof [some (.ref (ad (0, 0))), some (.int m), some (.int w), none] (by decide +kernel) rfl rfl (Nat.le_of_ble_eq_true rfl) ?_
  intro Z C hE hnm
  have C : zC g Z RX7 cX7_ofMarriage 4 7 111 8 48 := C
  obtain ⟨⟨hb1, h2, h4, h9, h13, h25, h33⟩, ⟨hch, hf⟩, ⟨hma, hsu, hpa⟩, hwp, hwi, hsc⟩ := hi
  have hw64 : ∀ s, (kws K s).1 ≤ 64 := fun s => Nat.le_trans (hwi s) (by decide)
  refine zaload_n C dX7_ofMarriage_0 rfl ?_
  refine ziload_n C dX7_ofMarriage_1 rfl ?_
  refine zcallVX C (k_marriageAt _ hp h25) hy_X7_marriageAt hv_X7_marriageAt hl_X7_222 hp.main rfl rfl rfl rfl (by decide) (by decide) (by omega) (by omega) rfl (by exact Nat.le_of_ble_eq_true rfl) dX7_ofMarriage_2 (fun E M1 hx => zout C hE (by omega) (by omega) (by obtain ⟨e, hz, hm⟩ := hx; subst e; subst hm; exact ⟨thr1 (by simp [x_of, okK, hz]), rfl⟩)) (fun v2 M hp2 => ?_)
  obtain ⟨⟨mn, hmn, rfl, rfl⟩, rfl⟩ := hp2
  have zmn : zix (nI mn) (K.1 25) = true := zix_t hmn (by omega)
  have emn : (nI mn).toNatClampNeg = mn := nI_clamp (by omega)
  refine zastore_n (L1 := [_, _, _, _]) C dX7_ofMarriage_5 rfl (Nat.le_of_ble_eq_true rfl) ?_
  refine ziload_n C dX7_ofMarriage_6 rfl ?_
  by_cases hw : wthn w 0 4 = true
  · obtain ⟨wn, hwn, rfl⟩ := wthn_of (n := 4) hw (by decide)
    have hc : wn = 0 ∨ wn = 1 ∨ wn = 2 ∨ wn = 3 ∨ wn = 4 := by omega
    rcases hc with rfl | rfl | rfl | rfl | rfl
    · refine zts_in (tgt := 40) C dX7_ofMarriage_7 (by decide) (by decide) rfl (by decide) ?_
      refine zaload_n C dX7_ofMarriage_40 rfl ?_
      refine zget C hf_X7_226 (hp.mar (m := mn) hmn) (by rfl) dX7_ofMarriage_41 ?_
      exact zend_i C hE dX7_ofMarriage_44 (by omega) (by omega) ⟨by simp only [x_of, zmn]; rfl, by rw [a_ofMarriage, emn]; rfl, rfl⟩
    · refine zts_in (tgt := 45) C dX7_ofMarriage_7 (by decide) (by decide) rfl (by decide) ?_
      refine zaload_n C dX7_ofMarriage_45 rfl ?_
      refine zget C hf_X7_237 (hp.mar (m := mn) hmn) (by rfl) dX7_ofMarriage_46 ?_
      refine zget C hf_X7_379 (hp.per (p := _) (hma _ hmn).1) (by rfl) dX7_ofMarriage_49 ?_
      exact zend_i C hE dX7_ofMarriage_52 (by omega) (by omega) ⟨by simp only [x_of, zmn]; rfl, by rw [a_ofMarriage, emn]; rfl, rfl⟩
    · refine zts_in (tgt := 53) C dX7_ofMarriage_7 (by decide) (by decide) rfl (by decide) ?_
      refine zaload_n C dX7_ofMarriage_53 rfl ?_
      refine zget C hf_X7_241 (hp.mar (m := mn) hmn) (by rfl) dX7_ofMarriage_54 ?_
      refine zget C hf_X7_379 (hp.per (p := _) (hma _ hmn).2.1) (by rfl) dX7_ofMarriage_57 ?_
      exact zend_i C hE dX7_ofMarriage_60 (by omega) (by omega) ⟨by simp only [x_of, zmn]; rfl, by rw [a_ofMarriage, emn]; rfl, rfl⟩
    · refine zts_in (tgt := 61) C dX7_ofMarriage_7 (by decide) (by decide) rfl (by decide) ?_
      refine zaload_n C dX7_ofMarriage_61 rfl ?_
      refine zget C hf_X7_382 (hp.mar (m := mn) hmn) (by rfl) dX7_ofMarriage_62 ?_
      exact zend_i C hE dX7_ofMarriage_65 (by omega) (by omega) ⟨by simp only [x_of, zmn]; rfl, by rw [a_ofMarriage, emn]; rfl, rfl⟩
    · refine zts_in (tgt := 66) C dX7_ofMarriage_7 (by decide) (by decide) rfl (by decide) ?_
      refine zaload_n C dX7_ofMarriage_66 rfl ?_
      refine zget C hf_X7_383 (hp.mar (m := mn) hmn) (by rfl) dX7_ofMarriage_67 ?_
      exact zend_i C hE dX7_ofMarriage_70 (by omega) (by omega) ⟨by simp only [x_of, zmn]; rfl, by rw [a_ofMarriage, emn]; rfl, rfl⟩
  · refine zts_out (tgt := 71) C dX7_ofMarriage_7 (wthn_no (n := 4) hw (by decide)) (by decide) ?_
    exact zthrowW C hE ht_X7_377_152 rfl (by decide) (by exact Nat.le_of_ble_eq_true rfl) (by omega) (by omega) dX7_ofMarriage_71 dX7_ofMarriage_74 dX7_ofMarriage_75 dX7_ofMarriage_78 dX7_ofMarriage_81 ⟨thr2 (by simp [x_of, zmn]; simpa using hw), rfl⟩
set_option maxRecDepth 100000 in
set_option maxHeartbeats 1000000 in
theorem K_ofSuit {g : zGh} {K : zK} {X : zg → Option va_E} {ad : zg → Nat} {M : zM} (s w : Int32) (hp : zP g K X ad M) (hi : iK K) : zCt g yX7_ofSuit cX7_ofSuit 4 (some .int) 7 111 mkI [.ref (ad (0, 0)), .int s, .int w] M 8 48 (fun v M1 => x_of (K.1 33) 4 s w = 0 ∧ v = a_ofSuit K s w ∧ M1 = M) (fun E M1 => thr E (x_of (K.1 33) 4 s w) ∧ M1 = M) := by
  refine zof [some (.ref (ad (0, 0))), some (.int s), some (.int w), none] (by decide +kernel) rfl rfl (Nat.le_of_ble_eq_true rfl) ?_
  intro Z C hE hnm
  have C : zC g Z RX7 cX7_ofSuit 4 7 111 8 48 := C
  obtain ⟨⟨hb1, h2, h4, h9, h13, h25, h33⟩, ⟨hch, hf⟩, ⟨hma, hsu, hpa⟩, hwp, hwi, hsc⟩ := hi
  have hw64 : ∀ s, (kws K s).1 ≤ 64 := fun s => Nat.le_trans (hwi s) (by decide)
  refine zaload_n C dX7_ofSuit_0 rfl ?_
  refine ziload_n C dX7_ofSuit_1 rfl ?_
  refine zcallVX C (k_suitAt _ hp h33) hy_X7_suitAt hv_X7_suitAt hl_X7_291 hp.main rfl rfl rfl rfl (by decide) (by decide) (by omega) (by omega) rfl (by exact Nat.le_of_ble_eq_true rfl) dX7_ofSuit_2 (fun E M1 hx => zout C hE (by omega) (by omega) (by obtain ⟨e, hz, hm⟩ := hx; subst e; subst hm; exact ⟨thr1 (by simp [x_of, okK, hz]), rfl⟩)) (fun v2 M hp2 => ?_)
  obtain ⟨⟨sn, hsn, rfl, rfl⟩, rfl⟩ := hp2
  have zsn : zix (nI sn) (K.1 33) = true := zix_t hsn (by omega)
  have esn : (nI sn).toNatClampNeg = sn := nI_clamp (by omega)
  refine zastore_n (L1 := [_, _, _, _]) C dX7_ofSuit_5 rfl (Nat.le_of_ble_eq_true rfl) ?_
  refine ziload_n C dX7_ofSuit_6 rfl ?_
  by_cases hw : wthn w 0 4 = true
  · obtain ⟨wn, hwn, rfl⟩ := wthn_of (n := 4) hw (by decide)
    have hc : wn = 0 ∨ wn = 1 ∨ wn = 2 ∨ wn = 3 ∨ wn = 4 := by omega
    rcases hc with rfl | rfl | rfl | rfl | rfl
    · refine zts_in (tgt := 40) C dX7_ofSuit_7 (by decide) (by decide) rfl (by decide) ?_
      refine zaload_n C dX7_ofSuit_40 rfl ?_
      refine zget C hf_X7_287 (hp.sui (s := sn) hsn) (by rfl) dX7_ofSuit_41 ?_
      exact zend_i C hE dX7_ofSuit_44 (by omega) (by omega) ⟨by simp only [x_of, zsn]; rfl, by rw [a_ofSuit, esn]; rfl, rfl⟩
    · refine zts_in (tgt := 45) C dX7_ofSuit_7 (by decide) (by decide) rfl (by decide) ?_
      refine zaload_n C dX7_ofSuit_45 rfl ?_
      refine zget C hf_X7_323 (hp.sui (s := sn) hsn) (by rfl) dX7_ofSuit_46 ?_
      exact zend_i C hE dX7_ofSuit_49 (by omega) (by omega) ⟨by simp only [x_of, zsn]; rfl, by rw [a_ofSuit, esn]; rfl, rfl⟩
    · refine zts_in (tgt := 50) C dX7_ofSuit_7 (by decide) (by decide) rfl (by decide) ?_
      refine zaload_n C dX7_ofSuit_50 rfl ?_
      refine zget C hf_X7_313 (hp.sui (s := sn) hsn) (by rfl) dX7_ofSuit_51 ?_
      refine zcallV C (q_size (hp.lqW (s := sn) ⟨hsn, h33⟩ (hwi _))) hy_Jx4a65c_size_8abf5 hv_Jx4a65c_size_8abf5 hl_X7_58 (hp.loW (s := sn) ⟨hsn, h33⟩) rfl rfl rfl rfl (by decide) (by decide) (by omega) (by omega) rfl (by exact Nat.le_of_ble_eq_true rfl) dX7_ofSuit_54 (fun v54 M hp54 => ?_)
      obtain ⟨rfl, rfl⟩ := hp54
      exact zend_i C hE dX7_ofSuit_57 (by omega) (by omega) ⟨by simp only [x_of, zsn]; rfl, by rw [a_ofSuit, esn]; rfl, rfl⟩
    · refine zts_in (tgt := 58) C dX7_ofSuit_7 (by decide) (by decide) rfl (by decide) ?_
      refine zaload_n C dX7_ofSuit_58 rfl ?_
      refine zget C hf_X7_337 (hp.sui (s := sn) hsn) (by rfl) dX7_ofSuit_59 ?_
      exact zend_i C hE dX7_ofSuit_62 (by omega) (by omega) ⟨by simp only [x_of, zsn]; rfl, by rw [a_ofSuit, esn]; rfl, rfl⟩
    · refine zts_in (tgt := 63) C dX7_ofSuit_7 (by decide) (by decide) rfl (by decide) ?_
      refine zaload_n C dX7_ofSuit_63 rfl ?_
      refine zget C hf_X7_345 (hp.sui (s := sn) hsn) (by rfl) dX7_ofSuit_64 ?_
      exact zend_i C hE dX7_ofSuit_67 (by omega) (by omega) ⟨by simp only [x_of, zsn]; rfl, by rw [a_ofSuit, esn]; rfl, rfl⟩
  · refine zts_out (tgt := 68) C dX7_ofSuit_7 (wthn_no (n := 4) hw (by decide)) (by decide) ?_
    exact zthrowW C hE ht_X7_377_152 rfl (by decide) (by exact Nat.le_of_ble_eq_true rfl) (by omega) (by omega) dX7_ofSuit_68 dX7_ofSuit_71 dX7_ofSuit_72 dX7_ofSuit_75 dX7_ofSuit_78 ⟨thr2 (by simp [x_of, zsn]; simpa using hw), rfl⟩
