/-- a suit while it is made: what lay there lies there still; the suit; its list -/
def bS (g : zGh) (M0 M : zM) (q ql : Nat) (e : va_E) : Prop := (∀ z f, M0 z = some f → M z = some f) ∧ M q = some e ∧ M ql = some (zob 0 [.int 0, .ref (g.2.2.2.1 4), .int 0]) ∧ q ≠ ql
theorem bS.up {g : zGh} {M0 M : zM} {q ql : Nat} {e e1 : va_E} (h : bS g M0 M q ql e) (hq : M0 q = none) : bS g M0 (zup M q e1) q ql e1 := ⟨fun z f hz => by rw [zup_ne (znone hz hq)]; exact h.1 z f hz, zup_same, by rw [zup_ne h.2.2.2.symm]; exact h.2.2.1, h.2.2.2⟩
theorem bS.nn {g : zGh} {M0 M : zM} {q ql x : Nat} {e : va_E} (h : bS g M0 M q ql e) (hx : M x = none) : M0 x = none := by
  cases hz : M0 x with
  | none => rfl
  | some w => rw [h.1 _ _ hz] at hx; cases hx
theorem ostep {g : zGh} {Z : zX} {M0 M1 M2 : zM} {q ql : Nat} {f : va_E} {k n pc : Nat} {L : List (Option Value)} {st : List Value} (h : bS g M0 M1 q ql f) (e : M2 = M1) (kk : ∀ M, bS g M0 M q ql f → zG g Z M k n pc L st) : zG g Z M2 k n pc L st := e ▸ kk _ h
def x_sue (K : zK) (p q c x : Int32) : Nat := if (zix p (K.1 13) && (zix q (K.1 13) && okK K c)) = false then 1 else if (decide (p ≠ q) && wthn x 1 1000000) = false then 2
  else if (((kpe K p.toNatClampNeg).2.2.2.2.1 && (kpe K q.toNatClampNeg).2.2.2.2.1) && decide (K.1 33 < 20)) = false then 3 else 0
def suX (K : zK) (p q : Nat) (c x : Int32) : zSu := (p, q, c, x, b2i (seiL K p q (K.1 33)), decide (crtK K 3 p q (nI (K.1 1)) = c), 0, -1, false)
def k_sue (K : zK) (p q c x : Int32) : zK := newS K (suX K p.toNatClampNeg q.toNatClampNeg c x)
def x_testify (K : zK) (s p : Int32) : Nat := if (zix s (K.1 33) && zix p (K.1 13)) = false then 1
  else if (decide ((ksu K s.toNatClampNeg).2.2.2.2.1 = 0) && (groK K p.toNatClampNeg (nI (K.1 1)) && (!btwK K s.toNatClampNeg p.toNatClampNeg && !hrd (kws K s.toNatClampNeg).2.1 p.toNatClampNeg (kws K s.toNatClampNeg).1))) = false then 3 else 0
def k_testify (K : zK) (s p : Int32) (b : Bool) : zK := newW K s.toNatClampNeg p.toNatClampNeg b
set_option maxRecDepth 100000 in
set_option maxHeartbeats 1000000 in
theorem K_sue {g : zGh} {K : zK} {X : zg → Option va_E} {ad : zg → Nat} {M : zM} (p q c x : Int32) (hp : zP g K X ad M) (hi : iK K) (htl : ∀ j, ktl K j = none) : zCt g yX7_sue cX7_sue 8 (some .int) 8 171 mkI [.ref (ad (0, 0)), .int p, .int q, .int c, .int x] M 12 160 (fun v M1 => x_sue K p q c x = 0 ∧ v = nI (K.1 33) ∧ ∃ ad1, zP g (k_sue K p q c x) X ad1 M1 ∧ ∀ t : zg, (t.1 = 0 ∨ 14 ≤ t.1) → ad1 t = ad t) (fun E M1 => thr E (x_sue K p q c x) ∧ M1 = M) := by
  refine zof [some (.ref (ad (0, 0))), some (.int p), some (.int q), some (.int c), some (.int x), none, none, none] (by decide +kernel) rfl rfl (Nat.le_of_ble_eq_true rfl) ?_
  intro Z C hE hnm
  have C : zC g Z RX7 cX7_sue 8 8 171 12 160 := C
  obtain ⟨⟨hb1, h2, h4, h9, h13, h25, h33⟩, ⟨hch, hf⟩, ⟨hma, hsu, hpa⟩, hwp, hwi, hsc⟩ := hi
  have hw64 : ∀ s, (kws K s).1 ≤ 64 := fun s => Nat.le_trans (hwi s) (by decide)
  have hWf := iWf_of hma hsu hpa hwp hwi htl
  refine zaload_n C dX7_sue_0 rfl ?_
  refine ziload_n C dX7_sue_1 rfl ?_
  refine zcallVX C (k_personAt _ hp h13) hy_X7_personAt hv_X7_personAt hl_X7_123 hp.main rfl rfl rfl rfl (by decide) (by decide) (by omega) (by omega) rfl (by exact Nat.le_of_ble_eq_true rfl) dX7_sue_2 (fun E M1 hx => zout C hE (by omega) (by omega) (by obtain ⟨e, hz, hm⟩ := hx; subst e; subst hm; exact ⟨thr1 (by simp [x_sue, okK, hz]), rfl⟩)) (fun v2 M hp2 => ?_)
  obtain ⟨⟨pn, hpn, rfl, rfl⟩, rfl⟩ := hp2
  have zpn : zix (nI pn) (K.1 13) = true := zix_t hpn (by omega)
  have epn : (nI pn).toNatClampNeg = pn := nI_clamp (by omega)
  refine zastore (L1 := [_, _, _, _, _, _, _, _]) C dX7_sue_5 rfl (Nat.le_of_ble_eq_true rfl) ?_
  refine zaload_n C dX7_sue_7 rfl ?_
  refine ziload_n C dX7_sue_8 rfl ?_
  refine zcallVX C (k_personAt _ hp h13) hy_X7_personAt hv_X7_personAt hl_X7_123 hp.main rfl rfl rfl rfl (by decide) (by decide) (by omega) (by omega) rfl (by exact Nat.le_of_ble_eq_true rfl) dX7_sue_9 (fun E M1 hx => zout C hE (by omega) (by omega) (by obtain ⟨e, hz, hm⟩ := hx; subst e; subst hm; exact ⟨thr1 (by simp [x_sue, zpn, okK, hz]), rfl⟩)) (fun v9 M hp9 => ?_)
  obtain ⟨⟨qn, hqn, rfl, rfl⟩, rfl⟩ := hp9
  have zqn : zix (nI qn) (K.1 13) = true := zix_t hqn (by omega)
  have eqn : (nI qn).toNatClampNeg = qn := nI_clamp (by omega)
  refine zastore (L1 := [_, _, _, _, _, _, _, _]) C dX7_sue_12 rfl (Nat.le_of_ble_eq_true rfl) ?_
  refine zaload_n C dX7_sue_14 rfl ?_
  refine ziload_n C dX7_sue_15 rfl ?_
  refine zcallVX C (k_lawAt _ hp h2) hy_X7_lawAt hv_X7_lawAt hl_X7_95 hp.main rfl rfl rfl rfl (by decide) (by decide) (by omega) (by omega) rfl (by exact Nat.le_of_ble_eq_true rfl) dX7_sue_16 (fun E M1 hx => zout C hE (by omega) (by omega) (by obtain ⟨e, hz, hm⟩ := hx; subst e; subst hm; exact ⟨thr1 (by simp [x_sue, zpn, zqn, okK, hz]), rfl⟩)) (fun v16 M hp16 => ?_)
  obtain ⟨⟨l, hl, rfl, rfl⟩, rfl⟩ := hp16
  have okl := okK_l hl h2
  have exl := lixN_l (show l ≤ 6 by omega)
  refine zpop C dX7_sue_19 rfl ?_
  refine ziload_n C dX7_sue_20 rfl ?_
  refine ziload_n C dX7_sue_21 rfl ?_
  refine zicmp_ne (tgt := 36) C dX7_sue_22 (by decide) (fun h22 => ?_) (fun h22 => ?_)
  · replace h22 : ¬ nI pn = nI qn := h22
    refine ziload C dX7_sue_36 rfl ?_
    refine zconst (v := 1) C dX7_sue_38 (by decide) ?_
    refine zldc C hk_X7_206 dX7_sue_39 ?_
    refine zcallSX C (k_needWithin _ _ _) hy_X7_needWithin hst_X7_needWithin hl_X7_102 rfl rfl (by decide) (by decide) (by omega) (by omega) rfl (by exact Nat.le_of_ble_eq_true rfl) dX7_sue_41 (fun E M1 hx => zout C hE (by omega) (by omega) (by obtain ⟨e, hz, hm⟩ := hx; subst e; subst hm; exact ⟨thr2 (by simp [x_sue, zpn, zqn, okl, h22, hz]), rfl⟩)) (fun v41 M hp41 => ?_)
    obtain ⟨w41, rfl⟩ := hp41
    refine zaload C dX7_sue_44 rfl ?_
    refine zget C hf_X7_251 (hp.per (p := pn) hpn) (by rfl) dX7_sue_46 ?_
    refine zif_eq (tgt := 60) C dX7_sue_49 (by decide) (fun h49 => ?_) (fun h49 => ?_)
    · replace h49 := b2i_0.mp h49
      exact zthrowW C hE ht_X7_276_66 rfl (by decide) (by exact Nat.le_of_ble_eq_true rfl) (by omega) (by omega) dX7_sue_60 dX7_sue_63 dX7_sue_64 dX7_sue_67 dX7_sue_70 ⟨thr3 (by simp [x_sue, zpn, zqn, epn, eqn, okl, h22, h49, w41]), rfl⟩
    · replace h49 := b2i_n0.mp h49
      refine zaload C dX7_sue_52 rfl ?_
      refine zget C hf_X7_251 (hp.per (p := qn) hqn) (by rfl) dX7_sue_54 ?_
      refine zif_ne (tgt := 71) C dX7_sue_57 (by decide) (fun h57 => ?_) (fun h57 => ?_)
      · replace h57 := b2i_n0.mp h57
        refine zaload_n C dX7_sue_71 rfl ?_
        refine zget C hf_X7_41 hp.main (by rfl) dX7_sue_72 ?_
        refine zcallV C (q_size (hp.lq3 (by omega))) hy_Jx4a65c_size_8abf5 hv_Jx4a65c_size_8abf5 hl_X7_58 (hp.lo3) rfl rfl rfl rfl (by decide) (by decide) (by omega) (by omega) rfl (by exact Nat.le_of_ble_eq_true rfl) dX7_sue_75 (fun v75 M hp75 => ?_)
        obtain ⟨rfl, rfl⟩ := hp75
        refine zbipush (v := 20) C dX7_sue_78 (by decide) ?_
        refine zicmp_lt (tgt := 94) C dX7_sue_80 (by decide) (fun h80 => ?_) (fun h80 => ?_)
        · have h80b : K.1 33 < 20 := (nI_ltI (a := K.1 33) (b := 20) (by omega) (by decide)).mp h80
          refine znew C hw_X7_280 rfl (by omega) (by omega) dX7_sue_94 (fun q0 hq => ?_)
          refine zdup C dX7_sue_97 rfl ?_
          refine zaload C dX7_sue_98 rfl ?_
          refine zaload C dX7_sue_100 rfl ?_
          refine ziload_n C dX7_sue_102 rfl ?_
          refine ziload C dX7_sue_103 rfl ?_
          refine zcallI C (s_init (ad (10, pn)) (ad (10, qn)) (lcode l) x zup_same) hy_X5_init hi_X5_init hl_X7_282 rfl rfl (by decide) (by decide) (by omega) (by omega) rfl (by exact Nat.le_of_ble_eq_true rfl) dX7_sue_105 (fun M2 hp2 => ?_)
          obtain ⟨ql, y1, y2, y3, y4⟩ := hp2
          have hql := znoneU y1
          have hb : bS g M M2 q0 ql _ := ⟨fun z f hz => y4 z f (by rw [zup_ne (znone hz hq)]; exact hz) (znone hz hq), y3, y2, fun e => by rw [← e, zup_same] at y1; cases y1⟩
          clear y1 y2 y3 y4
          have hp0 := hp
          have hp := hp0.keepM hb.1
          refine zastore (L1 := [_, _, _, _, _, _, _, _]) C dX7_sue_108 rfl (Nat.le_of_ble_eq_true rfl) ?_
          refine zaload C dX7_sue_110 rfl ?_
          refine zjn 128 (fun z => z = b2i (seiL K pn qn (K.1 33))) (fun J112_4 => ?_) (fun x112 hx112 => ?_)
          · refine zaload_n C dX7_sue_112 rfl ?_
            refine zaload C dX7_sue_113 rfl ?_
            refine zaload C dX7_sue_115 rfl ?_
            refine zcallV C (k_isSeised hpn hqn hp h33 hsu) hy_X7_isSeisedBetween hv_X7_isSeisedBetween hl_X7_283 hp.main rfl rfl rfl rfl (by decide) (by decide) (by omega) (by omega) rfl (by exact Nat.le_of_ble_eq_true rfl) dX7_sue_117 (fun v117 M hp117 => ?_)
            obtain ⟨rfl, rfl⟩ := hp117
            refine zif_eq (tgt := 127) C dX7_sue_120 (by decide) (fun h120 => ?_) (fun h120 => ?_)
            · replace h120 := b2i_0.mp h120
              refine zconst (v := 0) C dX7_sue_127 (by decide) ?_
              exact J112_4 _ (by simp [b2i, h120])
            · replace h120 := b2i_n0.mp h120
              refine zconst (v := 1) C dX7_sue_123 (by decide) ?_
              refine zgoto (tgt := 128) C dX7_sue_124 (by decide) ?_
              exact J112_4 _ (by simp [b2i, h120])
          · subst hx112
            refine zput (fs1 := [_, _, _, _, _, _, _, _, _, _]) C hf_X7_287 hp_X5 rfl hb.2.1 (by rfl) (by rfl) (by exact Nat.le_of_ble_eq_true rfl) (by rfl) dX7_sue_128 ?_
            refine ostep (hb.up hq) rfl (fun M hb => ?_)
            have hp := hp0.keepM hb.1
            refine zaload C dX7_sue_131 rfl ?_
            refine zaload_n C dX7_sue_133 rfl ?_
            refine zconst (v := 3) C dX7_sue_134 (by decide) ?_
            refine zaload C dX7_sue_135 rfl ?_
            refine zaload C dX7_sue_137 rfl ?_
            refine zaload_n C dX7_sue_139 rfl ?_
            refine zget C hf_X7_51 hp.main (by rfl) dX7_sue_140 ?_
            refine zcallVX C (k_courtOf 3 3 _ rfl (by decide) hpn hqn hp h2 hch hf) hy_X7_courtOf hv_X7_courtOf hl_X7_137 hp.main rfl rfl rfl rfl (by decide) (by decide) (by omega) (by omega) rfl (by exact Nat.le_of_ble_eq_true rfl) dX7_sue_143 (fun E M1 hx => hx.elim) (fun v143 M hp143 => ?_)
            obtain ⟨hv143, rfl⟩ := hp143
            refine ziload_n C dX7_sue_146 rfl ?_
            refine zicmp_ne (tgt := 154) C dX7_sue_147 (by decide) (fun h147 => ?_) (fun h147 => ?_)
            · have hsx : suX K pn qn (lcode l) x = (pn, qn, lcode l, x, b2i (seiL K pn qn (K.1 33)), false, 0, -1, false) := by rw [suX, ← hv143, decide_eq_false h147]
              refine zconst (v := 0) C dX7_sue_154 (by decide) ?_
              refine zput (fs1 := [_, _, _, _, _, _, _, _, _, _]) C hf_X7_288 hp_X5 rfl hb.2.1 rfl rfl (by exact Nat.le_of_ble_eq_true rfl) (by rfl) dX7_sue_155 ?_
              refine ostep (hb.up hq) rfl (fun M hb => ?_)
              have hp := hp0.keepM hb.1
              refine zaload_n C dX7_sue_158 rfl ?_
              refine zget C hf_X7_41 hp.main (by rfl) dX7_sue_159 ?_
              refine zaload C dX7_sue_162 rfl ?_
              refine zaddl C (len := K.1 33) (ci := 6) (ea := ad (8, 3)) (f := fun i => if i < K.1 33 then some (ad (12, i)) else none) hp.lo3 (fun h0 => zPic.at hp (t := (8, 3)) (if_neg h0)) (by omega) (fun i hi => if_neg (by omega)) (fun i hi => ⟨_, _, if_pos hi, hp.sui hi⟩) rfl hca_Suit (by decide) hb.2.1 hl_X7_74 rfl (by decide) (by decide) (by omega) (by omega) (by exact Nat.le_of_ble_eq_true rfl) dX7_sue_164 (fun M3 e1 g1 g2 g3 g4 => ?_)
              have kM : ∀ z f, (z = q0 ∨ z = ql) → M z = some f → M3 z = some f := fun z f hz hx => by
                rcases hz with rfl | rfl
                · exact g4 _ f hx (znone hp0.lo3 hq).symm (fun h0 => (znone (zPic.at hp0 (t := (8, 3)) (if_neg h0)) hq).symm)
                · exact g4 _ f hx (znone hp0.lo3 hql).symm (fun h0 => (znone (zPic.at hp0 (t := (8, 3)) (if_neg h0)) hql).symm)
              obtain ⟨ad1, hp1, hst⟩ := growS hp0 hWf h80b (x := suX K pn qn (lcode l) x) ⟨hpn, hqn⟩ hq hql (kM _ _ (Or.inr rfl) hb.2.2.1) (by rw [hsx]; exact kM _ _ (Or.inl rfl) hb.2.1) g1 g2 (g3.imp id fun h0 => hb.nn h0) (fun z e hz a b => g4 z e (hb.1 z e hz) a b)
              clear hp
              have hp := hp1
              rw [← hst (0, 0) (by simp) (by simp) (by simp)]
              refine zpop C dX7_sue_167 rfl ?_
              refine zaload_n C dX7_sue_168 rfl ?_
              refine zget C hf_X7_41 hp.main (by rfl) dX7_sue_169 ?_
              refine zcallV C (q_size (hp.lq3 (by show K.1 33 + 1 ≤ 49; omega))) hy_Jx4a65c_size_8abf5 hv_Jx4a65c_size_8abf5 hl_X7_58 (hp.lo3) rfl rfl rfl rfl (by decide) (by decide) (by omega) (by omega) rfl (by exact Nat.le_of_ble_eq_true rfl) dX7_sue_172 (fun v172 M hp172 => ?_)
              obtain ⟨rfl, rfl⟩ := hp172
              refine zconst (v := 1) C dX7_sue_175 (by decide) ?_
              refine zisub C dX7_sue_176 ?_
              exact zend_i C hE dX7_sue_177 (by omega) (by omega) ⟨by simp [x_sue, zpn, zqn, epn, eqn, okl, h22, w41, h49, h57, h80b], (show nI (K.1 33 + 1) - 1 = nI (K.1 33) from nI_pred _), ad1, by rw [k_sue, epn, eqn]; exact hp, fun t ht => hst t (fun e => by rw [e] at ht; rcases ht with h | h <;> simp at h) (fun e => by rw [e] at ht; rcases ht with h | h <;> simp at h) (fun e => by rw [e] at ht; rcases ht with h | h <;> simp at h)⟩
            · have hsx : suX K pn qn (lcode l) x = (pn, qn, lcode l, x, b2i (seiL K pn qn (K.1 33)), true, 0, -1, false) := by rw [suX, ← hv143, decide_eq_true h147]
              refine zconst (v := 1) C dX7_sue_150 (by decide) ?_
              refine zgoto (tgt := 155) C dX7_sue_151 (by decide) ?_
              refine zput (fs1 := [_, _, _, _, _, _, _, _, _, _]) C hf_X7_288 hp_X5 rfl hb.2.1 rfl rfl (by exact Nat.le_of_ble_eq_true rfl) (by rfl) dX7_sue_155 ?_
              refine ostep (hb.up hq) rfl (fun M hb => ?_)
              have hp := hp0.keepM hb.1
              refine zaload_n C dX7_sue_158 rfl ?_
              refine zget C hf_X7_41 hp.main (by rfl) dX7_sue_159 ?_
              refine zaload C dX7_sue_162 rfl ?_
              refine zaddl C (len := K.1 33) (ci := 6) (ea := ad (8, 3)) (f := fun i => if i < K.1 33 then some (ad (12, i)) else none) hp.lo3 (fun h0 => zPic.at hp (t := (8, 3)) (if_neg h0)) (by omega) (fun i hi => if_neg (by omega)) (fun i hi => ⟨_, _, if_pos hi, hp.sui hi⟩) rfl hca_Suit (by decide) hb.2.1 hl_X7_74 rfl (by decide) (by decide) (by omega) (by omega) (by exact Nat.le_of_ble_eq_true rfl) dX7_sue_164 (fun M3 e1 g1 g2 g3 g4 => ?_)
              have kM : ∀ z f, (z = q0 ∨ z = ql) → M z = some f → M3 z = some f := fun z f hz hx => by
                rcases hz with rfl | rfl
                · exact g4 _ f hx (znone hp0.lo3 hq).symm (fun h0 => (znone (zPic.at hp0 (t := (8, 3)) (if_neg h0)) hq).symm)
                · exact g4 _ f hx (znone hp0.lo3 hql).symm (fun h0 => (znone (zPic.at hp0 (t := (8, 3)) (if_neg h0)) hql).symm)
              obtain ⟨ad1, hp1, hst⟩ := growS hp0 hWf h80b (x := suX K pn qn (lcode l) x) ⟨hpn, hqn⟩ hq hql (kM _ _ (Or.inr rfl) hb.2.2.1) (by rw [hsx]; exact kM _ _ (Or.inl rfl) hb.2.1) g1 g2 (g3.imp id fun h0 => hb.nn h0) (fun z e hz a b => g4 z e (hb.1 z e hz) a b)
              clear hp
              have hp := hp1
              rw [← hst (0, 0) (by simp) (by simp) (by simp)]
              refine zpop C dX7_sue_167 rfl ?_
              refine zaload_n C dX7_sue_168 rfl ?_
              refine zget C hf_X7_41 hp.main (by rfl) dX7_sue_169 ?_
              refine zcallV C (q_size (hp.lq3 (by show K.1 33 + 1 ≤ 49; omega))) hy_Jx4a65c_size_8abf5 hv_Jx4a65c_size_8abf5 hl_X7_58 (hp.lo3) rfl rfl rfl rfl (by decide) (by decide) (by omega) (by omega) rfl (by exact Nat.le_of_ble_eq_true rfl) dX7_sue_172 (fun v172 M hp172 => ?_)
              obtain ⟨rfl, rfl⟩ := hp172
              refine zconst (v := 1) C dX7_sue_175 (by decide) ?_
              refine zisub C dX7_sue_176 ?_
              exact zend_i C hE dX7_sue_177 (by omega) (by omega) ⟨by simp [x_sue, zpn, zqn, epn, eqn, okl, h22, w41, h49, h57, h80b], (show nI (K.1 33 + 1) - 1 = nI (K.1 33) from nI_pred _), ad1, by rw [k_sue, epn, eqn]; exact hp, fun t ht => hst t (fun e => by rw [e] at ht; rcases ht with h | h <;> simp at h) (fun e => by rw [e] at ht; rcases ht with h | h <;> simp at h) (fun e => by rw [e] at ht; rcases ht with h | h <;> simp at h)⟩
        · have h80b : 20 ≤ K.1 33 := Nat.not_lt.mp (fun e => h80 ((nI_ltI (a := K.1 33) (b := 20) (by omega) (by decide)).mpr e))
          exact zthrowW C hE ht_X7_278_66 rfl (by decide) (by exact Nat.le_of_ble_eq_true rfl) (by omega) (by omega) dX7_sue_83 dX7_sue_86 dX7_sue_87 dX7_sue_90 dX7_sue_93 ⟨thr3 (by simp [x_sue, zpn, zqn, epn, eqn, okl, h22, h49, h57, h80b, w41]), rfl⟩
      · replace h57 := b2i_0.mp h57
        exact zthrowW C hE ht_X7_276_66 rfl (by decide) (by exact Nat.le_of_ble_eq_true rfl) (by omega) (by omega) dX7_sue_60 dX7_sue_63 dX7_sue_64 dX7_sue_67 dX7_sue_70 ⟨thr3 (by simp [x_sue, zpn, zqn, epn, eqn, okl, h22, h49, h57, w41]), rfl⟩
  · replace h22 : nI pn = nI qn := h22
    exact zthrowW C hE ht_X7_274_152 rfl (by decide) (by exact Nat.le_of_ble_eq_true rfl) (by omega) (by omega) dX7_sue_25 dX7_sue_28 dX7_sue_29 dX7_sue_32 dX7_sue_35 ⟨thr2 (by simp [x_sue, zpn, zqn, epn, eqn, okl, h22]), rfl⟩
set_option maxRecDepth 100000 in
set_option maxHeartbeats 1000000 in
theorem K_testify {g : zGh} {K : zK} {X : zg → Option va_E} {ad : zg → Nat} {M : zM} (s p : Int32) (b : Bool) (hp : zP g K X ad M) (hi : iK K) (htl : ∀ j, ktl K j = none) (hlt0 : x_testify K s p = 0 → (kws K s.toNatClampNeg).1 < 40) : zCt g yX7_testify cX7_testify 6 (some .int) 7 171 mkI [.ref (ad (0, 0)), .int s, .int p, .int (b2i b)] M 12 160 (fun v M1 => x_testify K s p = 0 ∧ v = nI ((kws K s.toNatClampNeg).1 + 1) ∧ ∃ ad1, zP g (k_testify K s p b) X ad1 M1 ∧ ∀ t : zg, (t.1 = 0 ∨ 14 ≤ t.1) → ad1 t = ad t) (fun E M1 => thr E (x_testify K s p) ∧ M1 = M) := by
  refine zof [some (.ref (ad (0, 0))), some (.int s), some (.int p), some (.int (b2i b)), none, none] (by decide +kernel) rfl rfl (Nat.le_of_ble_eq_true rfl) ?_
  intro Z C hE hnm
  have C : zC g Z RX7 cX7_testify 6 7 171 12 160 := C
  obtain ⟨⟨hb1, h2, h4, h9, h13, h25, h33⟩, ⟨hch, hf⟩, ⟨hma, hsu, hpa⟩, hwp, hwi, hsc⟩ := hi
  have hw64 : ∀ s, (kws K s).1 ≤ 64 := fun s => Nat.le_trans (hwi s) (by decide)
  have hWf := iWf_of hma hsu hpa hwp hwi htl
  refine zaload_n C dX7_testify_0 rfl ?_
  refine ziload_n C dX7_testify_1 rfl ?_
  refine zcallVX C (k_suitAt _ hp h33) hy_X7_suitAt hv_X7_suitAt hl_X7_291 hp.main rfl rfl rfl rfl (by decide) (by decide) (by omega) (by omega) rfl (by exact Nat.le_of_ble_eq_true rfl) dX7_testify_2 (fun E M1 hx => zout C hE (by omega) (by omega) (by obtain ⟨e, hz, hm⟩ := hx; subst e; subst hm; exact ⟨thr1 (by simp [x_testify, okK, hz]), rfl⟩)) (fun v2 M hp2 => ?_)
  obtain ⟨⟨sn, hsn, rfl, rfl⟩, rfl⟩ := hp2
  have zsn : zix (nI sn) (K.1 33) = true := zix_t hsn (by omega)
  have esn : (nI sn).toNatClampNeg = sn := nI_clamp (by omega)
  refine zastore (L1 := [_, _, _, _, _, _]) C dX7_testify_5 rfl (Nat.le_of_ble_eq_true rfl) ?_
  refine zaload_n C dX7_testify_7 rfl ?_
  refine ziload_n C dX7_testify_8 rfl ?_
  refine zcallVX C (k_personAt _ hp h13) hy_X7_personAt hv_X7_personAt hl_X7_123 hp.main rfl rfl rfl rfl (by decide) (by decide) (by omega) (by omega) rfl (by exact Nat.le_of_ble_eq_true rfl) dX7_testify_9 (fun E M1 hx => zout C hE (by omega) (by omega) (by obtain ⟨e, hz, hm⟩ := hx; subst e; subst hm; exact ⟨thr1 (by simp [x_testify, zsn, okK, hz]), rfl⟩)) (fun v9 M hp9 => ?_)
  obtain ⟨⟨pn, hpn, rfl, rfl⟩, rfl⟩ := hp9
  have zpn : zix (nI pn) (K.1 13) = true := zix_t hpn (by omega)
  have epn : (nI pn).toNatClampNeg = pn := nI_clamp (by omega)
  refine zastore (L1 := [_, _, _, _, _, _]) C dX7_testify_12 rfl (Nat.le_of_ble_eq_true rfl) ?_
  refine zaload C dX7_testify_14 rfl ?_
  refine zcallSX C (k_needSeised (hp.sui (s := sn) hsn)) hy_X7_needSeised hst_X7_needSeised hl_X7_295 rfl rfl (by decide) (by decide) (by omega) (by omega) rfl (by exact Nat.le_of_ble_eq_true rfl) dX7_testify_16 (fun E M1 hx => zout C hE (by omega) (by omega) (by obtain ⟨e, hz, hm⟩ := hx; subst e; subst hm; exact ⟨thr3 (by simp [x_testify, zsn, zpn, esn, hz]), rfl⟩)) (fun v16 M hp16 => ?_)
  obtain ⟨s0, rfl⟩ := hp16
  refine zaload C dX7_testify_19 rfl ?_
  refine zaload_n C dX7_testify_21 rfl ?_
  refine zget C hf_X7_51 hp.main (by rfl) dX7_testify_22 ?_
  refine zcallV C (k_isGrown hp hpn _) hy_X4_isGrownOn hv_X4_isGrownOn hl_X7_168 (hp.per (p := pn) hpn) rfl rfl rfl rfl (by decide) (by decide) (by omega) (by omega) rfl (by exact Nat.le_of_ble_eq_true rfl) dX7_testify_25 (fun v25 M hp25 => ?_)
  obtain ⟨rfl, rfl⟩ := hp25
  refine zif_eq (tgt := 51) C dX7_testify_28 (by decide) (fun h28 => ?_) (fun h28 => ?_)
  · replace h28 := b2i_0.mp h28
    exact zthrowW C hE ht_X7_311_66 rfl (by decide) (by exact Nat.le_of_ble_eq_true rfl) (by omega) (by omega) dX7_testify_51 dX7_testify_54 dX7_testify_55 dX7_testify_58 dX7_testify_61 ⟨thr3 (by simp [x_testify, zsn, zpn, esn, epn, s0, h28]), rfl⟩
  · replace h28 := b2i_n0.mp h28
    refine zaload C dX7_testify_31 rfl ?_
    refine zaload C dX7_testify_33 rfl ?_
    refine zcallV C (k_isBetween hp hsn hpn hsu) hy_X5_isBetween hv_X5_isBetween hl_X7_304 (hp.sui (s := sn) hsn) rfl rfl rfl rfl (by decide) (by decide) (by omega) (by omega) rfl (by exact Nat.le_of_ble_eq_true rfl) dX7_testify_35 (fun v35 M hp35 => ?_)
    obtain ⟨rfl, rfl⟩ := hp35
    refine zif_ne (tgt := 51) C dX7_testify_38 (by decide) (fun h38 => ?_) (fun h38 => ?_)
    · replace h38 := b2i_n0.mp h38
      exact zthrowW C hE ht_X7_311_66 rfl (by decide) (by exact Nat.le_of_ble_eq_true rfl) (by omega) (by omega) dX7_testify_51 dX7_testify_54 dX7_testify_55 dX7_testify_58 dX7_testify_61 ⟨thr3 (by simp [x_testify, zsn, zpn, esn, epn, s0, h28, h38]), rfl⟩
    · replace h38 := b2i_0.mp h38
      refine zaload C dX7_testify_41 rfl ?_
      refine zaload C dX7_testify_43 rfl ?_
      refine zcallV C (k_hasHeard hp ⟨hsn, h33⟩ hpn hwp hwi) hy_X5_hasHeard hv_X5_hasHeard hl_X7_308 (hp.sui (s := sn) hsn) rfl rfl rfl rfl (by decide) (by decide) (by omega) (by omega) rfl (by exact Nat.le_of_ble_eq_true rfl) dX7_testify_45 (fun v45 M hp45 => ?_)
      obtain ⟨rfl, rfl⟩ := hp45
      refine zif_eq (tgt := 62) C dX7_testify_48 (by decide) (fun h48 => ?_) (fun h48 => ?_)
      · replace h48 := b2i_0.mp h48
        have hlt : (kws K sn).1 + 1 ≤ 40 := by have := hlt0 (by simp [x_testify, zsn, zpn, esn, epn, s0, h28, h38, h48]); rw [esn] at this; exact this
        refine zaload C dX7_testify_62 rfl ?_
        refine zget C hf_X7_313 (hp.sui (s := sn) hsn) (by rfl) dX7_testify_64 ?_
        refine znew C hw_X7_316 rfl (by omega) (by omega) dX7_testify_67 (fun q hq => ?_)
        refine zdup C dX7_testify_70 rfl ?_
        refine zaload C dX7_testify_71 rfl ?_
        refine ziload_n C dX7_testify_73 rfl ?_
        refine zcallI C (w_initX (ad (10, pn)) b zup_same) hy_X6_init hi_X6_init hl_X7_318 rfl rfl (by decide) (by decide) (by omega) (by omega) rfl (by exact Nat.le_of_ble_eq_true rfl) dX7_testify_74 (fun M2 hp2 => ?_)
        rw [zup_up2] at hp2
        subst hp2
        have hpo := hp.fresh (e := zob 7 [.ref (ad (10, pn)), .int (b2i b)]) hq
        have hn40 := hwi sn
        refine zaddl C (len := (kws K sn).1) (ci := 7) (ea := ad (8, 4 + sn)) (f := fun i => if i < (kws K sn).1 then some (ad (13, 64 * sn + i)) else none) (hpo.loW ⟨hsn, h33⟩) (fun h0 => zPic.at hpo (t := (8, 4 + sn)) (show (linfo K (4 + sn)).bind _ = _ by rw [linfo_w hsn h33]; exact if_neg h0)) (by omega) (fun i hi => if_neg (by omega)) (fun i hi => ⟨_, _, if_pos hi, hpo.wit hsn hi (hw64 _)⟩) rfl hca_Witness (by decide) zup_same hl_X7_74 rfl (by decide) (by decide) (by omega) (by omega) (by exact Nat.le_of_ble_eq_true rfl) dX7_testify_77 (fun M3 e1 g1 g2 g3 g4 => ?_)
        have a7q : ad (7, 4 + sn) ≠ q := znone (hp.loW ⟨hsn, h33⟩) hq
        have a8q : lcap (kws K sn).1 ≠ 0 → ad (8, 4 + sn) ≠ q := fun h0 => znone (zPic.at hp (t := (8, 4 + sn)) (show (linfo K (4 + sn)).bind _ = _ by rw [linfo_w hsn h33]; exact if_neg h0)) hq
        have hq3 := g4 q _ zup_same a7q.symm (fun h0 => (a8q h0).symm)
        obtain ⟨ad1, hp1, hst⟩ := growW hp hWf (bb := b) hsn h33 (by omega) hpn hq hq3 g1 g2 (g3.imp id znoneU) (fun z e hz a b => g4 z e (by rw [zup_ne (znone hz hq)]; exact hz) a b)
        clear hp hpo
        have hp := hp1
        rw [← hst (12, sn) (by simp) (by simp)]
        refine zpop C dX7_testify_80 rfl ?_
        refine zaload C dX7_testify_81 rfl ?_
        refine zget C hf_X7_313 (hp.sui (s := sn) hsn) (by rfl) dX7_testify_83 ?_
        refine zcallV C (q_size (show zLq g M3 (ad1 (7, 4 + sn)) ((kws K sn).1 + 1) _ from (by have h := hp.lqW (K := newW K sn pn b) ⟨hsn, h33⟩ (by show (va_up (kws K) sn _ sn).1 ≤ 40; rw [up_eq]; exact hlt); rw [show kws (newW K sn pn b) sn = ((kws K sn).1 + 1, va_up (kws K sn).2.1 (kws K sn).1 pn, va_up (kws K sn).2.2 (kws K sn).1 b) from up_eq] at h; exact h))) hy_Jx4a65c_size_8abf5 hv_Jx4a65c_size_8abf5 hl_X7_58 (hp.loW (s := sn) ⟨hsn, h33⟩) rfl rfl rfl rfl (by decide) (by decide) (by omega) (by omega) rfl (by exact Nat.le_of_ble_eq_true rfl) dX7_testify_86 (fun v86 M hp86 => ?_)
        obtain ⟨rfl, rfl⟩ := hp86
        exact zend_i C hE dX7_testify_89 (by omega) (by omega) ⟨by simp [x_testify, zsn, zpn, esn, epn, s0, h28, h38, h48], by rw [esn], ad1, by rw [k_testify, esn, epn]; exact hp, fun t ht => hst t (fun e => by rw [e] at ht; rcases ht with h | h <;> simp at h) (fun e => by rw [e] at ht; rcases ht with h | h <;> simp at h)⟩
      · replace h48 := b2i_n0.mp h48
        exact zthrowW C hE ht_X7_311_66 rfl (by decide) (by exact Nat.le_of_ble_eq_true rfl) (by omega) (by omega) dX7_testify_51 dX7_testify_54 dX7_testify_55 dX7_testify_58 dX7_testify_61 ⟨thr3 (by simp [x_testify, zsn, zpn, esn, epn, s0, h28, h38, h48]), rfl⟩
