def canW (K : zK) (p : Nat) (c : Int32) : Bool := groK K p (nI (K.1 1)) && decide (newK K p = c)
def x_turn (K : zK) (p c a b : Int32) : Nat := if (zix p (K.1 13) && (zix c (K.1 2) && (zix a (K.1 13) && zix b (K.1 13)))) = false then 1 else if (decide (a ≠ b) && (decide (a ≠ p) && decide (b ≠ p))) = false then 2
  else if ((groK K p.toNatClampNeg (nI (K.1 1)) && (decide (newK K p.toNatClampNeg ≠ c) && decide ((kpe K p.toNatClampNeg).2.2.2.2.2.2.2.1 = -1))) && (canW K a.toNatClampNeg c && canW K b.toNatClampNeg c)) = false then 3 else 0
def k_turn (K : zK) (p c : Int32) : zK := spe K p.toNatClampNeg (peTurn (kpe K p.toNatClampNeg) c (nI (K.1 1) + 30))
def x_recant (K : zK) (p : Int32) : Nat := if zix p (K.1 13) = false then 1 else if (kpe K p.toNatClampNeg).2.2.2.2.2.2.2.1 = -1 then 3 else 0
def k_recant (K : zK) (p : Int32) : zK := spe K p.toNatClampNeg (peTurn (kpe K p.toNatClampNeg) (-1) (-1))
def x_goods (K : zK) (p x : Int32) : Nat := if zix p (K.1 13) = false then 1 else if wthn x 1 1000000 = false then 2 else if (kpe K p.toNatClampNeg).2.2.2.2.1 = false then 3 else 0
def k_goods (K : zK) (p x : Int32) : zK := spe K p.toNatClampNeg (peGoo (kpe K p.toNatClampNeg) ((kpe K p.toNatClampNeg).2.2.2.2.2.1 + x.toInt64))
def x_divorce (K : zK) (m : Int32) : Nat := if zix m (K.1 25) = false then 1 else if (kma K m.toNatClampNeg).2.2.2.1 ≠ 0 then 3 else 0
/-- asked is kept; how the law has it; what is behind it -/
def dv1 (K : zK) (m : Nat) (b : Bool) : zK := if b = true then sma K m (maHe (kma K m) true) else sma K m (maSh (kma K m) true)
def dvH (K : zK) (m : Nat) : Int32 := lawK K (lixN (crtK K 1 (kma K m).1 (kma K m).2.1 (nI (K.1 1)))) 1 (nI (K.1 1))
def dvE (K : zK) (m : Nat) (b : Bool) : Bool := endsB (dvH K m) b (if b = true then true else (kma K m).2.2.2.2.2.1) (if b = true then (kma K m).2.2.2.2.2.2 else true)
def k_divorce (K : zK) (m : Int32) (b : Bool) : zK := if dvE K m.toNatClampNeg b = true then dowK (sma (dv1 K m.toNatClampNeg b) m.toNatClampNeg (maSt (kma (dv1 K m.toNatClampNeg b) m.toNatClampNeg) 1)) m.toNatClampNeg else dv1 K m.toNatClampNeg b
def x_appear (K : zK) (s : Int32) : Nat := if zix s (K.1 33) = false then 1 else if (decide ((ksu K s.toNatClampNeg).2.2.2.2.1 = 0) && (kpe K (ksu K s.toNatClampNeg).2.1).2.2.2.2.1) = false then 3 else 0
def k_appear (K : zK) (s : Int32) : zK := ssu K s.toNatClampNeg (suCa (ksu K s.toNatClampNeg) true)
def x_judge (K : zK) (s : Int32) : Nat := if zix s (K.1 33) = false then 1 else if (decide ((ksu K s.toNatClampNeg).2.2.2.2.1 = 0) && (ksu K s.toNatClampNeg).2.2.2.2.2.1) = false then 3 else 0
def a_judge (K : zK) (s : Int32) : Bool := wonK K s.toNatClampNeg (lixN (ksu K s.toNatClampNeg).2.2.1)
def jdgK (K : zK) (s : Nat) (w : Bool) : zSu := suJu (suSt (ksu K s) (if w = true then 2 else 3)) (nI (K.1 1))
def k_judge (K : zK) (s : Int32) : zK := if a_judge K s = true then ssu K s.toNatClampNeg (suOw (jdgK K s.toNatClampNeg true) (ksu K s.toNatClampNeg).2.2.2.1) else ssu K s.toNatClampNeg (jdgK K s.toNatClampNeg false)
def canA (K : zK) (s : Nat) : Bool := (decide ((ksu K s).2.2.2.2.1 = 2) || decide ((ksu K s).2.2.2.2.1 = 3)) && (decide ((ksu K s).2.2.1 ≠ -1) && (!(ksu K s).2.2.2.2.2.2.2.2 && decide (nI (K.1 1) - (ksu K s).2.2.2.2.2.2.2.1 ≤ 60)))
def x_appeal (K : zK) (s : Int32) : Nat := if zix s (K.1 33) = false then 1 else if canA K s.toNatClampNeg = false then 3 else 0
def apK (K : zK) (s : Nat) (w : Bool) : zK := ssu K s (suJu (suSt (suAp (ksu K s) true) (if w = true then 2 else 3)) (nI (K.1 1)))
def k_appeal (K : zK) (s : Int32) : zK := if (ksu K s.toNatClampNeg).2.2.2.2.1 = 2 ∧ wonK K s.toNatClampNeg 0 = false then bckK (apK K s.toNatClampNeg (wonK K s.toNatClampNeg 0)) s.toNatClampNeg
  else if wonK K s.toNatClampNeg 0 = true ∧ (ksu K s.toNatClampNeg).2.2.2.2.1 ≠ 2 then ssu (apK K s.toNatClampNeg (wonK K s.toNatClampNeg 0)) s.toNatClampNeg (suOw (ksu (apK K s.toNatClampNeg (wonK K s.toNatClampNeg 0)) s.toNatClampNeg) (ksu K s.toNatClampNeg).2.2.2.1) else apK K s.toNatClampNeg (wonK K s.toNatClampNeg 0)
def x_execute (K : zK) (s : Int32) : Nat := if zix s (K.1 33) = false then 1 else if (decide ((ksu K s.toNatClampNeg).2.2.2.2.1 = 2) && (decide ((ksu K s.toNatClampNeg).2.2.2.2.2.2.1 ≠ 0) && livK K s.toNatClampNeg)) = false then 3 else 0
def exeA (K : zK) (s : Nat) : Int32 := paidI (kpe K (ksu K s).2.1).2.2.2.2.2.1 (ksu K s).2.2.2.2.2.2.1
def k_execute (K : zK) (s : Nat) : zK := ssu (payK K (ksu K s).2.1 (ksu K s).1 (exeA K s).toInt64) s (suOw (ksu K s) ((ksu K s).2.2.2.2.2.2.1 - exeA K s))
set_option maxRecDepth 100000 in
set_option maxHeartbeats 1000000 in
theorem K_recant {g : zGh} {K : zK} {X : zg → Option va_E} {ad : zg → Nat} {M : zM} (p : Int32) (hp : zP g K X ad M) (hi : iK K) : zCt g yX7_recant cX7_recant 4 (some .int) 7 111 mkI [.ref (ad (0, 0)), .int p] M 8 48 (fun v M1 => x_recant K p = 0 ∧ v = (kpe K p.toNatClampNeg).2.2.2.2.2.2.1 ∧ zP g (k_recant K p) X ad M1) (fun E M1 => thr E (x_recant K p) ∧ M1 = M) := by
  refine zof [some (.ref (ad (0, 0))), some (.int p), none, none] (by decide +kernel) rfl rfl (Nat.le_of_ble_eq_true rfl) ?_
  intro Z C hE hnm
  have C : zC g Z RX7 cX7_recant 4 7 111 8 48 := C
  obtain ⟨⟨hb1, h2, h4, h9, h13, h25, h33⟩, ⟨hch, hf⟩, ⟨hma, hsu, hpa⟩, hwp, hwi, hsc⟩ := hi
  have hw64 : ∀ s, (kws K s).1 ≤ 64 := fun s => Nat.le_trans (hwi s) (by decide)
  refine zaload_n C dX7_recant_0 rfl ?_
  refine ziload_n C dX7_recant_1 rfl ?_
  refine zcallVX C (k_personAt _ hp h13) hy_X7_personAt hv_X7_personAt hl_X7_123 hp.main rfl rfl rfl rfl (by decide) (by decide) (by omega) (by omega) rfl (by exact Nat.le_of_ble_eq_true rfl) dX7_recant_2 (fun E M1 hx => zout C hE (by omega) (by omega) (by obtain ⟨e, hz, hm⟩ := hx; subst e; subst hm; exact ⟨thr1 (by simp [x_recant, okK, hz]), rfl⟩)) (fun v2 M hp2 => ?_)
  obtain ⟨⟨pn, hpn, rfl, rfl⟩, rfl⟩ := hp2
  have zpn : zix (nI pn) (K.1 13) = true := zix_t hpn (by omega)
  have epn : (nI pn).toNatClampNeg = pn := nI_clamp (by omega)
  refine zastore_n (L1 := [_, _, _, _]) C dX7_recant_5 rfl (Nat.le_of_ble_eq_true rfl) ?_
  refine zaload_n C dX7_recant_6 rfl ?_
  refine zcallV C (p_isTurning (hp.per (p := pn) hpn)) hy_X4_isTurning hv_X4_isTurning hl_X7_175 (hp.per (p := pn) hpn) rfl rfl rfl rfl (by decide) (by decide) (by omega) (by omega) rfl (by exact Nat.le_of_ble_eq_true rfl) dX7_recant_7 (fun v7 M hp7 => ?_)
  obtain ⟨rfl, rfl⟩ := hp7
  refine zif_ne (tgt := 23) C dX7_recant_10 (by decide) (fun h10 => ?_) (fun h10 => ?_)
  · replace h10 := b2i_n0.mp h10
    replace h10 := of_decide_eq_true h10
    refine zaload_n C dX7_recant_23 rfl ?_
    refine zget C hf_X7_187 (hp.per (p := pn) hpn) (by rfl) dX7_recant_24 ?_
    refine zistore_n (L1 := [_, _, _, _]) C dX7_recant_27 rfl (Nat.le_of_ble_eq_true rfl) ?_
    refine zaload_n C dX7_recant_28 rfl ?_
    refine zcallV C (k_endTurning hp hpn) hy_X4_endTurning hv_X4_endTurning hl_X7_195 (hp.per (p := pn) hpn) rfl rfl rfl rfl (by decide) (by decide) (by omega) (by omega) rfl (by exact Nat.le_of_ble_eq_true rfl) dX7_recant_29 (fun v29 M hp => ?_)
    refine ziload_n C dX7_recant_32 rfl ?_
    exact zend_i C hE dX7_recant_33 (by omega) (by omega) ⟨by simp [x_recant, zpn, epn]; exact h10, by rw [epn], by rw [k_recant, epn]; exact hp⟩
  · replace h10 := b2i_0.mp h10
    replace h10 := Classical.not_not.mp (of_decide_eq_false h10)
    exact zthrow C hE ht_X7_193_66 rfl (by decide) (by exact Nat.le_of_ble_eq_true rfl) (by omega) (by omega) dX7_recant_13 dX7_recant_16 dX7_recant_17 dX7_recant_19 dX7_recant_22 ⟨thr3 (by simp [x_recant, zpn, epn]; exact h10), rfl⟩
set_option maxRecDepth 100000 in
set_option maxHeartbeats 1000000 in
theorem K_goods {g : zGh} {K : zK} {X : zg → Option va_E} {ad : zg → Nat} {M : zM} (p x : Int32) (hp : zP g K X ad M) (hi : iK K) : zCt g yX7_goods cX7_goods 4 (some .long) 7 112 mkL [.ref (ad (0, 0)), .int p, .int x] M 8 48 (fun v M1 => x_goods K p x = 0 ∧ v = (kpe K p.toNatClampNeg).2.2.2.2.2.1 + x.toInt64 ∧ zP g (k_goods K p x) X ad M1) (fun E M1 => thr E (x_goods K p x) ∧ M1 = M) := by
  refine zof [some (.ref (ad (0, 0))), some (.int p), some (.int x), none] (by decide +kernel) rfl rfl (Nat.le_of_ble_eq_true rfl) ?_
  intro Z C hE hnm
  have C : zC g Z RX7 cX7_goods 4 7 112 8 48 := C
  obtain ⟨⟨hb1, h2, h4, h9, h13, h25, h33⟩, ⟨hch, hf⟩, ⟨hma, hsu, hpa⟩, hwp, hwi, hsc⟩ := hi
  have hw64 : ∀ s, (kws K s).1 ≤ 64 := fun s => Nat.le_trans (hwi s) (by decide)
  refine zaload_n C dX7_goods_0 rfl ?_
  refine ziload_n C dX7_goods_1 rfl ?_
  refine zcallVX C (k_personAt _ hp h13) hy_X7_personAt hv_X7_personAt hl_X7_123 hp.main rfl rfl rfl rfl (by decide) (by decide) (by omega) (by omega) rfl (by exact Nat.le_of_ble_eq_true rfl) dX7_goods_2 (fun E M1 hx => zout C hE (by omega) (by omega) (by obtain ⟨e, hz, hm⟩ := hx; subst e; subst hm; exact ⟨thr1 (by simp [x_goods, okK, hz]), rfl⟩)) (fun v2 M hp2 => ?_)
  obtain ⟨⟨pn, hpn, rfl, rfl⟩, rfl⟩ := hp2
  have zpn : zix (nI pn) (K.1 13) = true := zix_t hpn (by omega)
  have epn : (nI pn).toNatClampNeg = pn := nI_clamp (by omega)
  refine zastore_n (L1 := [_, _, _, _]) C dX7_goods_5 rfl (Nat.le_of_ble_eq_true rfl) ?_
  refine ziload_n C dX7_goods_6 rfl ?_
  refine zconst (v := 1) C dX7_goods_7 (by decide) ?_
  refine zldc C hk_X7_206 dX7_goods_8 ?_
  refine zcallSX C (k_needWithin _ _ _) hy_X7_needWithin hst_X7_needWithin hl_X7_102 rfl rfl (by decide) (by decide) (by omega) (by omega) rfl (by exact Nat.le_of_ble_eq_true rfl) dX7_goods_10 (fun E M1 hx => zout C hE (by omega) (by omega) (by obtain ⟨e, hz, hm⟩ := hx; subst e; subst hm; exact ⟨thr2 (by simp [x_goods, zpn, hz]), rfl⟩)) (fun v10 M hp10 => ?_)
  obtain ⟨w10, rfl⟩ := hp10
  refine zaload_n C dX7_goods_13 rfl ?_
  refine zget C hf_X7_251 (hp.per (p := pn) hpn) (by rfl) dX7_goods_14 ?_
  refine zif_ne (tgt := 30) C dX7_goods_17 (by decide) (fun h17 => ?_) (fun h17 => ?_)
  · replace h17 := b2i_n0.mp h17
    refine zaload_n C dX7_goods_30 rfl ?_
    refine zdup C dX7_goods_31 rfl ?_
    refine zget C hf_X7_256 (hp.per (p := pn) hpn) (by rfl) dX7_goods_32 ?_
    refine ziload_n C dX7_goods_35 rfl ?_
    refine zi2l C dX7_goods_36 ?_
    refine zladd C dX7_goods_37 ?_
    refine zput (fs1 := [_, _, _, _, _, _, _, _, _, _, _]) C hf_X7_256 hp_X4 rfl (hp.per (p := pn) hpn) rfl rfl (by exact Nat.le_of_ble_eq_true rfl) (by rfl) dX7_goods_38 ?_
    refine kstep (hp.perV (p := pn) hpn peGoo ((kpe K pn).2.2.2.2.2.1 + x.toInt64)) rfl (fun M hp => ?_)
    refine zaload_n C dX7_goods_41 rfl ?_
    refine zget C hf_X7_256 (hp.per (p := pn) hpn) (by rfl) dX7_goods_42 ?_
    exact zend_l C hE dX7_goods_45 (by omega) (by omega) ⟨by simp [x_goods, zpn, epn, w10, h17], by rw [epn]; first | rfl | (rw [kpe_s]; rfl), by rw [k_goods, epn]; exact hp⟩
  · replace h17 := b2i_0.mp h17
    exact zthrow C hE ht_X7_254_66 rfl (by decide) (by exact Nat.le_of_ble_eq_true rfl) (by omega) (by omega) dX7_goods_20 dX7_goods_23 dX7_goods_24 dX7_goods_26 dX7_goods_29 ⟨thr3 (by simp [x_goods, zpn, epn, w10, h17]), rfl⟩
set_option maxRecDepth 100000 in
set_option maxHeartbeats 1000000 in
theorem K_turn {g : zGh} {K : zK} {X : zg → Option va_E} {ad : zg → Nat} {M : zM} (p c a b : Int32) (hp : zP g K X ad M) (hi : iK K) : zCt g yX7_turn cX7_turn 8 (some .int) 7 111 mkI [.ref (ad (0, 0)), .int p, .int c, .int a, .int b] M 8 48 (fun v M1 => x_turn K p c a b = 0 ∧ v = nI (K.1 1) + 30 ∧ zP g (k_turn K p c) X ad M1) (fun E M1 => thr E (x_turn K p c a b) ∧ M1 = M) := by
  refine zof [some (.ref (ad (0, 0))), some (.int p), some (.int c), some (.int a), some (.int b), none, none, none] (by decide +kernel) rfl rfl (Nat.le_of_ble_eq_true rfl) ?_
  intro Z C hE hnm
  have C : zC g Z RX7 cX7_turn 8 7 111 8 48 := C
  obtain ⟨⟨hb1, h2, h4, h9, h13, h25, h33⟩, ⟨hch, hf⟩, ⟨hma, hsu, hpa⟩, hwp, hwi, hsc⟩ := hi
  have hw64 : ∀ s, (kws K s).1 ≤ 64 := fun s => Nat.le_trans (hwi s) (by decide)
  refine zaload_n C dX7_turn_0 rfl ?_
  refine ziload_n C dX7_turn_1 rfl ?_
  refine zcallVX C (k_personAt _ hp h13) hy_X7_personAt hv_X7_personAt hl_X7_123 hp.main rfl rfl rfl rfl (by decide) (by decide) (by omega) (by omega) rfl (by exact Nat.le_of_ble_eq_true rfl) dX7_turn_2 (fun E M1 hx => zout C hE (by omega) (by omega) (by obtain ⟨e, hz, hm⟩ := hx; subst e; subst hm; exact ⟨thr1 (by simp [x_turn, okK, hz]), rfl⟩)) (fun v2 M hp2 => ?_)
  obtain ⟨⟨pn, hpn, rfl, rfl⟩, rfl⟩ := hp2
  have zpn : zix (nI pn) (K.1 13) = true := zix_t hpn (by omega)
  have epn : (nI pn).toNatClampNeg = pn := nI_clamp (by omega)
  refine zastore (L1 := [_, _, _, _, _, _, _, _]) C dX7_turn_5 rfl (Nat.le_of_ble_eq_true rfl) ?_
  refine zaload_n C dX7_turn_7 rfl ?_
  refine ziload_n C dX7_turn_8 rfl ?_
  refine zcallVX C (k_communityAt _ hp h2) hy_X7_communityAt hv_X7_communityAt hl_X7_78 hp.main rfl rfl rfl rfl (by decide) (by decide) (by omega) (by omega) rfl (by exact Nat.le_of_ble_eq_true rfl) dX7_turn_9 (fun E M1 hx => zout C hE (by omega) (by omega) (by obtain ⟨e, hz, hm⟩ := hx; subst e; subst hm; exact ⟨thr1 (by simp [x_turn, zpn, okK, hz]), rfl⟩)) (fun v9 M hp9 => ?_)
  obtain ⟨⟨cn, hcn, rfl, rfl⟩, rfl⟩ := hp9
  have zcn : zix (nI cn) (K.1 2) = true := zix_t hcn (by omega)
  have ecn : (nI cn).toNatClampNeg = cn := nI_clamp (by omega)
  refine zpop C dX7_turn_12 rfl ?_
  refine zaload_n C dX7_turn_13 rfl ?_
  refine ziload_n C dX7_turn_14 rfl ?_
  refine zcallVX C (k_personAt _ hp h13) hy_X7_personAt hv_X7_personAt hl_X7_123 hp.main rfl rfl rfl rfl (by decide) (by decide) (by omega) (by omega) rfl (by exact Nat.le_of_ble_eq_true rfl) dX7_turn_15 (fun E M1 hx => zout C hE (by omega) (by omega) (by obtain ⟨e, hz, hm⟩ := hx; subst e; subst hm; exact ⟨thr1 (by simp [x_turn, zpn, zcn, okK, hz]), rfl⟩)) (fun v15 M hp15 => ?_)
  obtain ⟨⟨an, han, rfl, rfl⟩, rfl⟩ := hp15
  have zan : zix (nI an) (K.1 13) = true := zix_t han (by omega)
  have ean : (nI an).toNatClampNeg = an := nI_clamp (by omega)
  refine zastore (L1 := [_, _, _, _, _, _, _, _]) C dX7_turn_18 rfl (Nat.le_of_ble_eq_true rfl) ?_
  refine zaload_n C dX7_turn_20 rfl ?_
  refine ziload C dX7_turn_21 rfl ?_
  refine zcallVX C (k_personAt _ hp h13) hy_X7_personAt hv_X7_personAt hl_X7_123 hp.main rfl rfl rfl rfl (by decide) (by decide) (by omega) (by omega) rfl (by exact Nat.le_of_ble_eq_true rfl) dX7_turn_23 (fun E M1 hx => zout C hE (by omega) (by omega) (by obtain ⟨e, hz, hm⟩ := hx; subst e; subst hm; exact ⟨thr1 (by simp [x_turn, zpn, zcn, zan, okK, hz]), rfl⟩)) (fun v23 M hp23 => ?_)
  obtain ⟨⟨bn, hbn, rfl, rfl⟩, rfl⟩ := hp23
  have zbn : zix (nI bn) (K.1 13) = true := zix_t hbn (by omega)
  have ebn : (nI bn).toNatClampNeg = bn := nI_clamp (by omega)
  refine zastore (L1 := [_, _, _, _, _, _, _, _]) C dX7_turn_26 rfl (Nat.le_of_ble_eq_true rfl) ?_
  refine ziload_n C dX7_turn_28 rfl ?_
  refine ziload C dX7_turn_29 rfl ?_
  refine zicmp_eq (tgt := 45) C dX7_turn_31 (by decide) (fun h31 => ?_) (fun h31 => ?_)
  · replace h31 : nI an = nI bn := h31
    exact zthrow C hE ht_X7_166_152 rfl (by decide) (by exact Nat.le_of_ble_eq_true rfl) (by omega) (by omega) dX7_turn_45 dX7_turn_48 dX7_turn_49 dX7_turn_51 dX7_turn_54 ⟨thr2 (by simp [x_turn, zpn, zcn, zan, zbn, epn, ean, ebn, h31]), rfl⟩
  · replace h31 : ¬ nI an = nI bn := h31
    refine ziload_n C dX7_turn_34 rfl ?_
    refine ziload_n C dX7_turn_35 rfl ?_
    refine zicmp_eq (tgt := 45) C dX7_turn_36 (by decide) (fun h36 => ?_) (fun h36 => ?_)
    · exact zthrow C hE ht_X7_166_152 rfl (by decide) (by exact Nat.le_of_ble_eq_true rfl) (by omega) (by omega) dX7_turn_45 dX7_turn_48 dX7_turn_49 dX7_turn_51 dX7_turn_54 ⟨thr2 (by simp [x_turn, zpn, zcn, zan, zbn, epn, ean, ebn, h31, h36]), rfl⟩
    · refine ziload C dX7_turn_39 rfl ?_
      refine ziload_n C dX7_turn_41 rfl ?_
      refine zicmp_ne (tgt := 55) C dX7_turn_42 (by decide) (fun h42 => ?_) (fun h42 => ?_)
      · refine zaload C dX7_turn_55 rfl ?_
        refine zaload_n C dX7_turn_57 rfl ?_
        refine zget C hf_X7_51 hp.main (by rfl) dX7_turn_58 ?_
        refine zcallV C (k_isGrown hp hpn _) hy_X4_isGrownOn hv_X4_isGrownOn hl_X7_168 (hp.per (p := pn) hpn) rfl rfl rfl rfl (by decide) (by decide) (by omega) (by omega) rfl (by exact Nat.le_of_ble_eq_true rfl) dX7_turn_61 (fun v61 M hp61 => ?_)
        obtain ⟨rfl, rfl⟩ := hp61
        refine zif_eq (tgt := 84) C dX7_turn_64 (by decide) (fun h64 => ?_) (fun h64 => ?_)
        · replace h64 := b2i_0.mp h64
          exact zthrow C hE ht_X7_179_66 rfl (by decide) (by exact Nat.le_of_ble_eq_true rfl) (by omega) (by omega) dX7_turn_84 dX7_turn_87 dX7_turn_88 dX7_turn_90 dX7_turn_93 ⟨thr3 (by simp [x_turn, zpn, zcn, zan, zbn, epn, ean, ebn, h31, h36, h42, h64]), rfl⟩
        · replace h64 := b2i_n0.mp h64
          refine zaload C dX7_turn_67 rfl ?_
          refine zcallV C (k_faithNow hp hpn hch) hy_X4_faithNow hv_X4_faithNow hl_X7_172 (hp.per (p := pn) hpn) rfl rfl rfl rfl (by decide) (by decide) (by omega) (by omega) rfl (by exact Nat.le_of_ble_eq_true rfl) dX7_turn_69 (fun v69 M hp69 => ?_)
          obtain ⟨rfl, rfl⟩ := hp69
          refine ziload_n C dX7_turn_72 rfl ?_
          refine zicmp_eq (tgt := 84) C dX7_turn_73 (by decide) (fun h73 => ?_) (fun h73 => ?_)
          · exact zthrow C hE ht_X7_179_66 rfl (by decide) (by exact Nat.le_of_ble_eq_true rfl) (by omega) (by omega) dX7_turn_84 dX7_turn_87 dX7_turn_88 dX7_turn_90 dX7_turn_93 ⟨thr3 (by simp [x_turn, zpn, zcn, zan, zbn, epn, ean, ebn, h31, h36, h42, h64, h73]), rfl⟩
          · refine zaload C dX7_turn_76 rfl ?_
            refine zcallV C (p_isTurning (hp.per (p := pn) hpn)) hy_X4_isTurning hv_X4_isTurning hl_X7_175 (hp.per (p := pn) hpn) rfl rfl rfl rfl (by decide) (by decide) (by omega) (by omega) rfl (by exact Nat.le_of_ble_eq_true rfl) dX7_turn_78 (fun v78 M hp78 => ?_)
            obtain ⟨rfl, rfl⟩ := hp78
            refine zif_eq (tgt := 94) C dX7_turn_81 (by decide) (fun h81 => ?_) (fun h81 => ?_)
            · replace h81 := b2i_0.mp h81
              replace h81 : (kpe K pn).2.2.2.2.2.2.2.1 = -1 := Classical.not_not.mp (of_decide_eq_false h81)
              refine zaload_n C dX7_turn_94 rfl ?_
              refine zaload C dX7_turn_95 rfl ?_
              refine ziload_n C dX7_turn_97 rfl ?_
              refine zcallV C (k_canWitness han _ hp hch) hy_X7_canWitnessTurn hv_X7_canWitnessTurn hl_X7_181 hp.main rfl rfl rfl rfl (by decide) (by decide) (by omega) (by omega) rfl (by exact Nat.le_of_ble_eq_true rfl) dX7_turn_98 (fun v98 M hp98 => ?_)
              obtain ⟨hv98, rfl⟩ := hp98
              replace hv98 : v98 = b2i (canW K an (nI cn)) := hv98
              subst hv98
              refine zif_eq (tgt := 114) C dX7_turn_101 (by decide) (fun h101 => ?_) (fun h101 => ?_)
              · replace h101 := b2i_0.mp h101
                exact zthrow C hE ht_X7_185_66 rfl (by decide) (by exact Nat.le_of_ble_eq_true rfl) (by omega) (by omega) dX7_turn_114 dX7_turn_117 dX7_turn_118 dX7_turn_120 dX7_turn_123 ⟨thr3 (by simp [x_turn, zpn, zcn, zan, zbn, epn, ean, ebn, h31, h36, h42, h64, h73, h81, h101]), rfl⟩
              · replace h101 := b2i_n0.mp h101
                refine zaload_n C dX7_turn_104 rfl ?_
                refine zaload C dX7_turn_105 rfl ?_
                refine ziload_n C dX7_turn_107 rfl ?_
                refine zcallV C (k_canWitness hbn _ hp hch) hy_X7_canWitnessTurn hv_X7_canWitnessTurn hl_X7_181 hp.main rfl rfl rfl rfl (by decide) (by decide) (by omega) (by omega) rfl (by exact Nat.le_of_ble_eq_true rfl) dX7_turn_108 (fun v108 M hp108 => ?_)
                obtain ⟨hv108, rfl⟩ := hp108
                replace hv108 : v108 = b2i (canW K bn (nI cn)) := hv108
                subst hv108
                refine zif_ne (tgt := 124) C dX7_turn_111 (by decide) (fun h111 => ?_) (fun h111 => ?_)
                · replace h111 := b2i_n0.mp h111
                  refine zaload C dX7_turn_124 rfl ?_
                  refine ziload_n C dX7_turn_126 rfl ?_
                  refine zput (fs1 := [_, _, _, _, _, _, _, _, _, _, _]) C hf_X7_187 hp_X4 rfl (hp.per (p := pn) hpn) rfl rfl (by exact Nat.le_of_ble_eq_true rfl) (by rfl) dX7_turn_127 ?_
                  refine kstep (hp.perV (p := pn) hpn peTo (nI cn)) rfl (fun M hp => ?_)
                  refine zaload C dX7_turn_130 rfl ?_
                  refine zaload_n C dX7_turn_132 rfl ?_
                  refine zget C hf_X7_51 hp.main (by rfl) dX7_turn_133 ?_
                  refine zbipush (v := 30) C dX7_turn_136 (by decide) ?_
                  refine ziadd C dX7_turn_138 ?_
                  refine zput (fs1 := [_, _, _, _, _, _, _, _, _, _, _]) C hf_X7_190 hp_X4 rfl (hp.per (p := pn) hpn) rfl rfl (by exact Nat.le_of_ble_eq_true rfl) (by rfl) dX7_turn_139 ?_
                  refine kstep (hp.perV (p := pn) hpn peOn (nI (K.1 1) + 30)) rfl (fun M hp => ?_)
                  refine zaload C dX7_turn_142 rfl ?_
                  refine zget C hf_X7_190 (hp.per (p := pn) hpn) (by rfl) dX7_turn_144 ?_
                  exact zend_i C hE dX7_turn_147 (by omega) (by omega) ⟨by simp [x_turn, zpn, zcn, zan, zbn, epn, ean, ebn, h31, h36, h42, h64, h73, h81, h101, h111], by first | rfl | (rw [kpe_s]; rfl), by rw [k_turn, epn]; rw [kpe_s, spe_spe] at hp; exact hp⟩
                · replace h111 := b2i_0.mp h111
                  exact zthrow C hE ht_X7_185_66 rfl (by decide) (by exact Nat.le_of_ble_eq_true rfl) (by omega) (by omega) dX7_turn_114 dX7_turn_117 dX7_turn_118 dX7_turn_120 dX7_turn_123 ⟨thr3 (by simp [x_turn, zpn, zcn, zan, zbn, epn, ean, ebn, h31, h36, h42, h64, h73, h81, h101, h111]), rfl⟩
            · replace h81 := b2i_n0.mp h81
              replace h81 : ¬ (kpe K pn).2.2.2.2.2.2.2.1 = -1 := of_decide_eq_true h81
              exact zthrow C hE ht_X7_179_66 rfl (by decide) (by exact Nat.le_of_ble_eq_true rfl) (by omega) (by omega) dX7_turn_84 dX7_turn_87 dX7_turn_88 dX7_turn_90 dX7_turn_93 ⟨thr3 (by simp [x_turn, zpn, zcn, zan, zbn, epn, ean, ebn, h31, h36, h42, h64, h73, h81]), rfl⟩
      · exact zthrow C hE ht_X7_166_152 rfl (by decide) (by exact Nat.le_of_ble_eq_true rfl) (by omega) (by omega) dX7_turn_45 dX7_turn_48 dX7_turn_49 dX7_turn_51 dX7_turn_54 ⟨thr2 (by simp [x_turn, zpn, zcn, zan, zbn, epn, ean, ebn, h31, h36, h42]), rfl⟩
set_option maxRecDepth 100000 in
set_option maxHeartbeats 1000000 in
theorem K_appear {g : zGh} {K : zK} {X : zg → Option va_E} {ad : zg → Nat} {M : zM} (s : Int32) (hp : zP g K X ad M) (hi : iK K) : zCt g yX7_appear cX7_appear 4 (some .boolean) 7 111 mkI [.ref (ad (0, 0)), .int s] M 8 48 (fun v M1 => x_appear K s = 0 ∧ v = b2i (!(ksu K s.toNatClampNeg).2.2.2.2.2.1) ∧ zP g (k_appear K s) X ad M1) (fun E M1 => thr E (x_appear K s) ∧ M1 = M) := by
  refine zof [some (.ref (ad (0, 0))), some (.int s), none, none] (by decide +kernel) rfl rfl (Nat.le_of_ble_eq_true rfl) ?_
  intro Z C hE hnm
  have C : zC g Z RX7 cX7_appear 4 7 111 8 48 := C
  obtain ⟨⟨hb1, h2, h4, h9, h13, h25, h33⟩, ⟨hch, hf⟩, ⟨hma, hsu, hpa⟩, hwp, hwi, hsc⟩ := hi
  have hw64 : ∀ s, (kws K s).1 ≤ 64 := fun s => Nat.le_trans (hwi s) (by decide)
  refine zaload_n C dX7_appear_0 rfl ?_
  refine ziload_n C dX7_appear_1 rfl ?_
  refine zcallVX C (k_suitAt _ hp h33) hy_X7_suitAt hv_X7_suitAt hl_X7_291 hp.main rfl rfl rfl rfl (by decide) (by decide) (by omega) (by omega) rfl (by exact Nat.le_of_ble_eq_true rfl) dX7_appear_2 (fun E M1 hx => zout C hE (by omega) (by omega) (by obtain ⟨e, hz, hm⟩ := hx; subst e; subst hm; exact ⟨thr1 (by simp [x_appear, okK, hz]), rfl⟩)) (fun v2 M hp2 => ?_)
  obtain ⟨⟨sn, hsn, rfl, rfl⟩, rfl⟩ := hp2
  have zsn : zix (nI sn) (K.1 33) = true := zix_t hsn (by omega)
  have esn : (nI sn).toNatClampNeg = sn := nI_clamp (by omega)
  refine zastore_n (L1 := [_, _, _, _]) C dX7_appear_5 rfl (Nat.le_of_ble_eq_true rfl) ?_
  refine zaload_n C dX7_appear_6 rfl ?_
  refine zcallSX C (k_needSeised (hp.sui (s := sn) hsn)) hy_X7_needSeised hst_X7_needSeised hl_X7_295 rfl rfl (by decide) (by decide) (by omega) (by omega) rfl (by exact Nat.le_of_ble_eq_true rfl) dX7_appear_7 (fun E M1 hx => zout C hE (by omega) (by omega) (by obtain ⟨e, hz, hm⟩ := hx; subst e; subst hm; exact ⟨thr3 (by simp [x_appear, zsn, esn, hz]), rfl⟩)) (fun v7 M hp7 => ?_)
  obtain ⟨s0, rfl⟩ := hp7
  refine zaload_n C dX7_appear_10 rfl ?_
  refine zget C hf_X7_299 (hp.sui (s := sn) hsn) (by rfl) dX7_appear_11 ?_
  refine zget C hf_X7_251 (hp.per (p := _) (hsu _ hsn).2.1) (by rfl) dX7_appear_14 ?_
  refine zif_ne (tgt := 31) C dX7_appear_17 (by decide) (fun h17 => ?_) (fun h17 => ?_)
  · replace h17 := b2i_n0.mp h17
    refine zaload_n C dX7_appear_31 rfl ?_
    refine zget C hf_X7_288 (hp.sui (s := sn) hsn) (by rfl) dX7_appear_32 ?_
    refine zif_ne (tgt := 42) C dX7_appear_35 (by decide) (fun h35 => ?_) (fun h35 => ?_)
    · replace h35 := b2i_n0.mp h35
      refine zconst (v := 0) C dX7_appear_42 (by decide) ?_
      refine zistore_n (L1 := [_, _, _, _]) C dX7_appear_43 rfl (Nat.le_of_ble_eq_true rfl) ?_
      refine zaload_n C dX7_appear_44 rfl ?_
      refine zconst (v := 1) C dX7_appear_45 (by decide) ?_
      refine zput (fs1 := [_, _, _, _, _, _, _, _, _, _]) C hf_X7_288 hp_X5 rfl (hp.sui (s := sn) hsn) (nar_b true) (fit_b true) (by exact Nat.le_of_ble_eq_true rfl) (by rfl) dX7_appear_46 ?_
      refine kstep (hp.suiV (p := sn) hsn suCa true) rfl (fun M hp => ?_)
      refine ziload_n C dX7_appear_49 rfl ?_
      exact zend_z C hE dX7_appear_50 (by omega) (by omega) (by first | exact Or.inl rfl | exact Or.inr rfl | exact b2i_b _) ⟨by simp [x_appear, zsn, esn, s0, h17], by rw [esn, h35]; rfl, by rw [k_appear, esn]; exact hp⟩
    · replace h35 := b2i_0.mp h35
      refine zconst (v := 1) C dX7_appear_38 (by decide) ?_
      refine zgoto (tgt := 43) C dX7_appear_39 (by decide) ?_
      refine zistore_n (L1 := [_, _, _, _]) C dX7_appear_43 rfl (Nat.le_of_ble_eq_true rfl) ?_
      refine zaload_n C dX7_appear_44 rfl ?_
      refine zconst (v := 1) C dX7_appear_45 (by decide) ?_
      refine zput (fs1 := [_, _, _, _, _, _, _, _, _, _]) C hf_X7_288 hp_X5 rfl (hp.sui (s := sn) hsn) (nar_b true) (fit_b true) (by exact Nat.le_of_ble_eq_true rfl) (by rfl) dX7_appear_46 ?_
      refine kstep (hp.suiV (p := sn) hsn suCa true) rfl (fun M hp => ?_)
      refine ziload_n C dX7_appear_49 rfl ?_
      exact zend_z C hE dX7_appear_50 (by omega) (by omega) (by first | exact Or.inl rfl | exact Or.inr rfl | exact b2i_b _) ⟨by simp [x_appear, zsn, esn, s0, h17], by rw [esn, h35]; rfl, by rw [k_appear, esn]; exact hp⟩
  · replace h17 := b2i_0.mp h17
    exact zthrowW C hE ht_X7_302_66 rfl (by decide) (by exact Nat.le_of_ble_eq_true rfl) (by omega) (by omega) dX7_appear_20 dX7_appear_23 dX7_appear_24 dX7_appear_27 dX7_appear_30 ⟨thr3 (by simp [x_appear, zsn, esn, s0, h17]), rfl⟩
