def omo (c : Int32) : Option Nat := if c = -1 then none else some c.toNatClampNeg
theorem omo_s {j : Nat} (h : j < 2 ^ 31) : omo (nI j) = some j := by unfold omo; rw [if_neg (nI_m1 h), nI_clamp h]
theorem omo_o {r : Option Nat} (h : ∀ j, r = some j → j < 2 ^ 31) : omo (ocode r) = r := by
  cases r with
  | none => rfl
  | some j => exact omo_s (h j rfl)
theorem omo_n : omo (-1) = none := rfl
def x_person (K : zK) (mo fa f : Int32) : Nat := if ((decide (mo = -1) || zix mo (K.1 13)) && ((decide (fa = -1) || zix fa (K.1 13)) && okK K f)) = false then 1
  else if ((decide (mo = -1) || !(kpe K mo.toNatClampNeg).1) && ((decide (fa = -1) || (kpe K fa.toNatClampNeg).1) && (decide (mo = -1 ∧ fa = -1) == decide (f ≠ -1)))) = false then 2 else if decide (K.1 13 < 40) = false then 3 else 0
def k_person (K : zK) (man : Bool) (mo fa f : Int32) : zK := newP K (2, 0, upd (fun _ => 0) 0 (nI (K.1 1)), upd (fun _ => 0) 0 (brnK K (omo mo) (omo fa) f)) (man, omo mo, omo fa, nI (K.1 1), true, 0, -1, -1, 0)
set_option maxRecDepth 100000 in
set_option maxHeartbeats 1000000 in
theorem K_person {g : zGh} {K : zK} {X : zg → Option va_E} {ad : zg → Nat} {M : zM} (man : Bool) (mo fa f : Int32) (hp : zP g K X ad M) (hi : iK K) (htl : ∀ j, ktl K j = none) : zCt g yX7_person cX7_person 10 (some .int) 8 171 mkI [.ref (ad (0, 0)), .int (b2i man), .int mo, .int fa, .int f] M 12 160 (fun v M1 => x_person K mo fa f = 0 ∧ v = nI (K.1 13) ∧ ∃ ad1, zP g (k_person K man mo fa f) X ad1 M1 ∧ ∀ t : zg, (t.1 = 0 ∨ 14 ≤ t.1) → ad1 t = ad t) (fun E M1 => thr E (x_person K mo fa f) ∧ M1 = M) := by
  refine zof [some (.ref (ad (0, 0))), some (.int (b2i man)), some (.int mo), some (.int fa), some (.int f), none, none, none, none, none] (by decide +kernel) rfl rfl (Nat.le_of_ble_eq_true rfl) ?_
  intro Z C hE hnm
  have C : zC g Z RX7 cX7_person 10 8 171 12 160 := C
  obtain ⟨⟨hb1, h2, h4, h9, h13, h25, h33⟩, ⟨hch, hf⟩, ⟨hma, hsu, hpa⟩, hwp, hwi, hsc⟩ := hi
  have hw64 : ∀ s, (kws K s).1 ≤ 64 := fun s => Nat.le_trans (hwi s) (by decide)
  have hWf := iWf_of hma hsu hpa hwp hwi htl
  refine zaload_n C dX7_person_0 rfl ?_
  refine ziload_n C dX7_person_1 rfl ?_
  refine zcallVX C (k_personOrNullAt _ hp h13) hy_X7_personOrNullAt hv_X7_personOrNullAt hl_X7_141 hp.main rfl rfl rfl rfl (by decide) (by decide) (by omega) (by omega) rfl (by exact Nat.le_of_ble_eq_true rfl) dX7_person_2 (fun E M1 hx => zout C hE (by omega) (by omega) (by obtain ⟨e, hz, hm⟩ := hx; subst e; subst hm; exact ⟨thr1 (by simp [x_person, hz]), rfl⟩)) (fun v2 M hp2 => ?_)
  obtain ⟨⟨r1, hr1, rfl, rfl⟩, rfl⟩ := hp2
  cases r1 with
  | none =>
    refine zastoreN (L1 := [_, _, _, _, _, _, _, _, _, _]) C dX7_person_5 rfl (Nat.le_of_ble_eq_true rfl) ?_
    refine zaload_n C dX7_person_7 rfl ?_
    refine ziload_n C dX7_person_8 rfl ?_
    refine zcallVX C (k_personOrNullAt _ hp h13) hy_X7_personOrNullAt hv_X7_personOrNullAt hl_X7_141 hp.main rfl rfl rfl rfl (by decide) (by decide) (by omega) (by omega) rfl (by exact Nat.le_of_ble_eq_true rfl) dX7_person_9 (fun E M1 hx => zout C hE (by omega) (by omega) (by obtain ⟨e, hz, hm⟩ := hx; subst e; subst hm; exact ⟨thr1 (by simp [x_person, ocode, hz]), rfl⟩)) (fun v9 M hp9 => ?_)
    obtain ⟨⟨r2, hr2, rfl, rfl⟩, rfl⟩ := hp9
    cases r2 with
    | none =>
      refine zastoreN (L1 := [_, _, _, _, _, _, _, _, _, _]) C dX7_person_12 rfl (Nat.le_of_ble_eq_true rfl) ?_
      refine ziload C dX7_person_14 rfl ?_
      refine zconst (v := -1) C dX7_person_16 (by decide) ?_
      refine zicmp_eq (tgt := 27) C dX7_person_17 (by decide) (fun h17 => ?_) (fun h17 => ?_)
      · replace h17 : f = -1 := h17
        refine zaloadQ (r := none) C dX7_person_27 rfl ?_
        refine zifnullN (tgt := 50) C dX7_person_29 (by decide) ?_
        refine zaloadQ (r := none) C dX7_person_50 rfl ?_
        refine zifnullN (tgt := 73) C dX7_person_52 (by decide) ?_
        refine zaloadQ (r := none) C dX7_person_73 rfl ?_
        refine zifnonnullN C dX7_person_75 ?_
        refine zaloadQ (r := none) C dX7_person_78 rfl ?_
        refine zifnonnullN C dX7_person_80 ?_
        refine zconst (v := 1) C dX7_person_83 (by decide) ?_
        refine zgoto (tgt := 88) C dX7_person_84 (by decide) ?_
        refine zistore (L1 := [_, _, _, _, _, _, _, _, _, _]) C dX7_person_88 rfl (Nat.le_of_ble_eq_true rfl) ?_
        refine ziload C dX7_person_90 rfl ?_
        refine ziload C dX7_person_92 rfl ?_
        refine zconst (v := -1) C dX7_person_94 (by decide) ?_
        refine zicmp_ne (tgt := 102) C dX7_person_95 (by decide) (fun h95 => by first | exact absurd h95 h17 | exact absurd h17 h95) (fun h95 => ?_)
        refine zconst (v := 1) C dX7_person_98 (by decide) ?_
        refine zgoto (tgt := 103) C dX7_person_99 (by decide) ?_
        refine zicmp_ne (tgt := 116) C dX7_person_103 (by decide) (fun h103 => by first | exact absurd h103 (by decide) | exact absurd (by decide) h103) (fun h103 => ?_)
        exact zthrow C hE ht_X7_155_152 rfl (by decide) (by exact Nat.le_of_ble_eq_true rfl) (by omega) (by omega) dX7_person_106 dX7_person_109 dX7_person_110 dX7_person_112 dX7_person_115 ⟨thr2 (by simp [x_person, okK, ocode, h17]), rfl⟩
      · replace h17 : ¬ f = -1 := h17
        refine zaload_n C dX7_person_20 rfl ?_
        refine ziload C dX7_person_21 rfl ?_
        refine zcallVX C (k_communityAt _ hp h2) hy_X7_communityAt hv_X7_communityAt hl_X7_78 hp.main rfl rfl rfl rfl (by decide) (by decide) (by omega) (by omega) rfl (by exact Nat.le_of_ble_eq_true rfl) dX7_person_23 (fun E M1 hx => zout C hE (by omega) (by omega) (by obtain ⟨e, hz, hm⟩ := hx; subst e; subst hm; exact ⟨thr1 (by simp [x_person, okK, ocode, h17, hz]), rfl⟩)) (fun v23 M hp23 => ?_)
        obtain ⟨⟨cn, hcn, ecn, rfl⟩, rfl⟩ := hp23
        have zcn : zix f (K.1 2) = true := by rw [ecn]; exact zix_t hcn (by omega)
        refine zpop C dX7_person_26 rfl ?_
        refine zaloadQ (r := none) C dX7_person_27 rfl ?_
        refine zifnullN (tgt := 50) C dX7_person_29 (by decide) ?_
        refine zaloadQ (r := none) C dX7_person_50 rfl ?_
        refine zifnullN (tgt := 73) C dX7_person_52 (by decide) ?_
        refine zaloadQ (r := none) C dX7_person_73 rfl ?_
        refine zifnonnullN C dX7_person_75 ?_
        refine zaloadQ (r := none) C dX7_person_78 rfl ?_
        refine zifnonnullN C dX7_person_80 ?_
        refine zconst (v := 1) C dX7_person_83 (by decide) ?_
        refine zgoto (tgt := 88) C dX7_person_84 (by decide) ?_
        refine zistore (L1 := [_, _, _, _, _, _, _, _, _, _]) C dX7_person_88 rfl (Nat.le_of_ble_eq_true rfl) ?_
        refine ziload C dX7_person_90 rfl ?_
        refine ziload C dX7_person_92 rfl ?_
        refine zconst (v := -1) C dX7_person_94 (by decide) ?_
        refine zicmp_ne (tgt := 102) C dX7_person_95 (by decide) (fun h95 => ?_) (fun h95 => by first | exact absurd h17 h95 | exact absurd h95 h17)
        refine zconst (v := 0) C dX7_person_102 (by decide) ?_
        refine zicmp_ne (tgt := 116) C dX7_person_103 (by decide) (fun h103 => ?_) (fun h103 => by first | exact absurd (by decide) h103 | exact absurd h103 (by decide))
        refine zaload_n C dX7_person_116 rfl ?_
        refine zget C hf_X7_35 hp.main (by rfl) dX7_person_117 ?_
        refine zcallV C (q_size (hp.lq1 (by omega))) hy_Jx4a65c_size_8abf5 hv_Jx4a65c_size_8abf5 hl_X7_58 (hp.lo1) rfl rfl rfl rfl (by decide) (by decide) (by omega) (by omega) rfl (by exact Nat.le_of_ble_eq_true rfl) dX7_person_120 (fun v120 M hp120 => ?_)
        obtain ⟨rfl, rfl⟩ := hp120
        refine zbipush (v := 40) C dX7_person_123 (by decide) ?_
        refine zicmp_lt (tgt := 138) C dX7_person_125 (by decide) (fun h125 => ?_) (fun h125 => ?_)
        · have h125b : K.1 13 < 40 := (nI_ltI (a := K.1 13) (b := 40) (by omega) (by decide)).mp h125
          refine zaload_n C dX7_person_138 rfl ?_
          refine zget C hf_X7_35 hp.main (by rfl) dX7_person_139 ?_
          refine zcallV C (q_size (hp.lq1 (by omega))) hy_Jx4a65c_size_8abf5 hv_Jx4a65c_size_8abf5 hl_X7_58 (hp.lo1) rfl rfl rfl rfl (by decide) (by decide) (by omega) (by omega) rfl (by exact Nat.le_of_ble_eq_true rfl) dX7_person_142 (fun v142 M hp142 => ?_)
          obtain ⟨rfl, rfl⟩ := hp142
          refine zistore (L1 := [_, _, _, _, _, _, _, _, _, _]) C dX7_person_145 rfl (Nat.le_of_ble_eq_true rfl) ?_
          refine zaloadQ (r := none) C dX7_person_147 rfl ?_
          refine zaloadQ (r := none) C dX7_person_149 rfl ?_
          refine ziload C dX7_person_151 rfl ?_
          refine zcallS C (k_brnD f hp hch) hy_X7_faithAtBirth hst_X7_faithAtBirth hl_X7_159 rfl rfl (by decide) (by decide) (by omega) (by omega) rfl (by exact Nat.le_of_ble_eq_true rfl) dX7_person_153 (fun v153 M hp153 => ?_)
          obtain ⟨hv153, rfl⟩ := hp153
          have hbr : v153 = brnK K none none f := hv153
          refine zistore (L1 := [_, _, _, _, _, _, _, _, _, _]) C dX7_person_156 rfl (Nat.le_of_ble_eq_true rfl) ?_
          refine zaload_n C dX7_person_158 rfl ?_
          refine zget C hf_X7_35 hp.main (by rfl) dX7_person_159 ?_
          refine znew C hw_X7_128 rfl (by omega) (by omega) dX7_person_162 (fun q hq => ?_)
          refine zdup C dX7_person_165 rfl ?_
          refine ziload C dX7_person_166 rfl ?_
          refine ziload_n C dX7_person_168 rfl ?_
          refine zaloadQ (r := none) C dX7_person_169 rfl ?_
          refine zaloadQ (r := none) C dX7_person_171 rfl ?_
          refine zaload_n C dX7_person_173 rfl ?_
          refine zget C hf_X7_51 (hp.fresh hq).main (by rfl) dX7_person_174 ?_
          refine ziload C dX7_person_177 rfl ?_
          refine zcallI C (p_init (nI (K.1 13)) (nI (K.1 1)) v153 man none none zup_same) hy_X4_init hi_X4_init hl_X7_163 rfl rfl (by decide) (by decide) (by omega) (by omega) rfl (by exact Nat.le_of_ble_eq_true rfl) dX7_person_179 (fun M2 hp2 => ?_)
          obtain ⟨qc, d1, n1, y1, y2, y3, y4, y5, y6⟩ := hp2
          have hk0 : ∀ z e, M z = some e → M2 z = some e := fun z e hz => y6 z e (by rw [zup_ne (znone hz hq)]; exact hz) (znone hz hq)
          have hpo := hp.keepM hk0
          refine zaddl C (len := K.1 13) (ci := 5) (ea := ad (8, 1)) (f := fun i => if i < K.1 13 then some (ad (10, i)) else none) hpo.lo1 (fun h0 => zPic.at hpo (t := (8, 1)) (if_neg h0)) (by omega) (fun i hi => if_neg (by omega)) (fun i hi => ⟨_, _, if_pos hi, hpo.per hi⟩) rfl hca_Person (by decide) y5 hl_X7_74 rfl (by decide) (by decide) (by omega) (by omega) (by exact Nat.le_of_ble_eq_true rfl) dX7_person_182 (fun M3 e1 g1 g2 g3 g4 => ?_)
          have a7q := hpo.lo1
          have na : ∀ x e, M2 x = some e → M x = none → x ≠ ad (7, 1) ∧ (lcap (K.1 13) ≠ 0 → x ≠ ad (8, 1)) := fun x e _ hm => ⟨(znone hp.lo1 hm).symm, fun h0 => (znone (zPic.at hp (t := (8, 1)) (if_neg h0)) hm).symm⟩
          have kM : ∀ x e, M2 x = some e → M x = none → M3 x = some e := fun x e hx hm => g4 x e hx (na x e hx hm).1 (na x e hx hm).2
          obtain ⟨ad1, hp1, hst⟩ := growP hp (c := (2, 0, upd (fun _ => 0) 0 (nI (K.1 1)), upd (fun _ => 0) 0 v153)) (x := (man, none, none, nI (K.1 1), true, 0, -1, -1, 0)) h33 h2 hWf (by omega) ⟨fun p hh => (by cases hh), fun p hh => (by cases hh)⟩ hq (znoneU y1) (znoneU y2) (znoneU y3) (kM _ _ y4.1 (znoneU y1)) (kM _ _ y4.2.1 (znoneU y2)) (kM _ _ y4.2.2.1 (znoneU y3)) y4.2.2.2.2.2 (kM _ _ y5 hq) g1 g2 (g3.imp id fun h0 => (by cases hz : M e1 with | none => rfl | some w => (rw [hk0 _ _ hz] at h0; cases h0))) (fun z e hz a b => g4 z e (hk0 z e hz) a b)
          refine zpop C dX7_person_185 rfl ?_
          refine ziload C dX7_person_186 rfl ?_
          exact zend_i C hE dX7_person_188 (by omega) (by omega) ⟨by simp [x_person, okK, ocode, h17, h125b, zcn], rfl, ad1, by rw [k_person, omo_o (fun j e => Nat.lt_of_lt_of_le (hr1 j e) (Nat.le_trans h13 (by decide))), ← hbr]; exact hp1, hst⟩
        · have h125b : 40 ≤ K.1 13 := Nat.not_lt.mp (fun e => h125 ((nI_ltI (a := K.1 13) (b := 40) (by omega) (by decide)).mpr e))
          exact zthrow C hE ht_X7_157_66 rfl (by decide) (by exact Nat.le_of_ble_eq_true rfl) (by omega) (by omega) dX7_person_128 dX7_person_131 dX7_person_132 dX7_person_134 dX7_person_137 ⟨thr3 (by simp [x_person, okK, ocode, h17, h125b, zcn]), rfl⟩
    | some fn =>
      have hfn := hr2 fn rfl
      have zfn : zix (nI fn) (K.1 13) = true := zix_t hfn (by omega)
      have efn : (nI fn).toNatClampNeg = fn := nI_clamp (by omega)
      have nfn : ¬ nI fn = -1 := nI_m1 (by omega)
      refine zastore (L1 := [_, _, _, _, _, _, _, _, _, _]) C dX7_person_12 rfl (Nat.le_of_ble_eq_true rfl) ?_
      refine ziload C dX7_person_14 rfl ?_
      refine zconst (v := -1) C dX7_person_16 (by decide) ?_
      refine zicmp_eq (tgt := 27) C dX7_person_17 (by decide) (fun h17 => ?_) (fun h17 => ?_)
      · replace h17 : f = -1 := h17
        refine zaloadQ (r := none) C dX7_person_27 rfl ?_
        refine zifnullN (tgt := 50) C dX7_person_29 (by decide) ?_
        refine zaload C dX7_person_50 rfl ?_
        refine zifnull C dX7_person_52 ?_
        refine zaload C dX7_person_55 rfl ?_
        refine zget C hf_X7_144 (hp.per (p := fn) hfn) (by rfl) dX7_person_57 ?_
        refine zif_ne (tgt := 73) C dX7_person_60 (by decide) (fun h60 => ?_) (fun h60 => ?_)
        · replace h60 := b2i_n0.mp h60
          refine zaloadQ (r := none) C dX7_person_73 rfl ?_
          refine zifnonnullN C dX7_person_75 ?_
          refine zaload C dX7_person_78 rfl ?_
          refine zifnonnull (tgt := 87) C dX7_person_80 (by decide) ?_
          refine zconst (v := 0) C dX7_person_87 (by decide) ?_
          refine zistore (L1 := [_, _, _, _, _, _, _, _, _, _]) C dX7_person_88 rfl (Nat.le_of_ble_eq_true rfl) ?_
          refine ziload C dX7_person_90 rfl ?_
          refine ziload C dX7_person_92 rfl ?_
          refine zconst (v := -1) C dX7_person_94 (by decide) ?_
          refine zicmp_ne (tgt := 102) C dX7_person_95 (by decide) (fun h95 => by first | exact absurd h95 h17 | exact absurd h17 h95) (fun h95 => ?_)
          refine zconst (v := 1) C dX7_person_98 (by decide) ?_
          refine zgoto (tgt := 103) C dX7_person_99 (by decide) ?_
          refine zicmp_ne (tgt := 116) C dX7_person_103 (by decide) (fun h103 => ?_) (fun h103 => by first | exact absurd (by decide) h103 | exact absurd h103 (by decide))
          refine zaload_n C dX7_person_116 rfl ?_
          refine zget C hf_X7_35 hp.main (by rfl) dX7_person_117 ?_
          refine zcallV C (q_size (hp.lq1 (by omega))) hy_Jx4a65c_size_8abf5 hv_Jx4a65c_size_8abf5 hl_X7_58 (hp.lo1) rfl rfl rfl rfl (by decide) (by decide) (by omega) (by omega) rfl (by exact Nat.le_of_ble_eq_true rfl) dX7_person_120 (fun v120 M hp120 => ?_)
          obtain ⟨rfl, rfl⟩ := hp120
          refine zbipush (v := 40) C dX7_person_123 (by decide) ?_
          refine zicmp_lt (tgt := 138) C dX7_person_125 (by decide) (fun h125 => ?_) (fun h125 => ?_)
          · have h125b : K.1 13 < 40 := (nI_ltI (a := K.1 13) (b := 40) (by omega) (by decide)).mp h125
            refine zaload_n C dX7_person_138 rfl ?_
            refine zget C hf_X7_35 hp.main (by rfl) dX7_person_139 ?_
            refine zcallV C (q_size (hp.lq1 (by omega))) hy_Jx4a65c_size_8abf5 hv_Jx4a65c_size_8abf5 hl_X7_58 (hp.lo1) rfl rfl rfl rfl (by decide) (by decide) (by omega) (by omega) rfl (by exact Nat.le_of_ble_eq_true rfl) dX7_person_142 (fun v142 M hp142 => ?_)
            obtain ⟨rfl, rfl⟩ := hp142
            refine zistore (L1 := [_, _, _, _, _, _, _, _, _, _]) C dX7_person_145 rfl (Nat.le_of_ble_eq_true rfl) ?_
            refine zaloadQ (r := none) C dX7_person_147 rfl ?_
            refine zaload C dX7_person_149 rfl ?_
            refine ziload C dX7_person_151 rfl ?_
            refine zcallS C (k_brnB hfn f hp hch) hy_X7_faithAtBirth hst_X7_faithAtBirth hl_X7_159 rfl rfl (by decide) (by decide) (by omega) (by omega) rfl (by exact Nat.le_of_ble_eq_true rfl) dX7_person_153 (fun v153 M hp153 => ?_)
            obtain ⟨hv153, rfl⟩ := hp153
            have hbr : v153 = brnK K none (some fn) f := hv153
            refine zistore (L1 := [_, _, _, _, _, _, _, _, _, _]) C dX7_person_156 rfl (Nat.le_of_ble_eq_true rfl) ?_
            refine zaload_n C dX7_person_158 rfl ?_
            refine zget C hf_X7_35 hp.main (by rfl) dX7_person_159 ?_
            refine znew C hw_X7_128 rfl (by omega) (by omega) dX7_person_162 (fun q hq => ?_)
            refine zdup C dX7_person_165 rfl ?_
            refine ziload C dX7_person_166 rfl ?_
            refine ziload_n C dX7_person_168 rfl ?_
            refine zaloadQ (r := none) C dX7_person_169 rfl ?_
            refine zaload C dX7_person_171 rfl ?_
            refine zaload_n C dX7_person_173 rfl ?_
            refine zget C hf_X7_51 (hp.fresh hq).main (by rfl) dX7_person_174 ?_
            refine ziload C dX7_person_177 rfl ?_
            refine zcallI C (p_init (nI (K.1 13)) (nI (K.1 1)) v153 man none (some (ad (10, fn))) zup_same) hy_X4_init hi_X4_init hl_X7_163 rfl rfl (by decide) (by decide) (by omega) (by omega) rfl (by exact Nat.le_of_ble_eq_true rfl) dX7_person_179 (fun M2 hp2 => ?_)
            obtain ⟨qc, d1, n1, y1, y2, y3, y4, y5, y6⟩ := hp2
            have hk0 : ∀ z e, M z = some e → M2 z = some e := fun z e hz => y6 z e (by rw [zup_ne (znone hz hq)]; exact hz) (znone hz hq)
            have hpo := hp.keepM hk0
            refine zaddl C (len := K.1 13) (ci := 5) (ea := ad (8, 1)) (f := fun i => if i < K.1 13 then some (ad (10, i)) else none) hpo.lo1 (fun h0 => zPic.at hpo (t := (8, 1)) (if_neg h0)) (by omega) (fun i hi => if_neg (by omega)) (fun i hi => ⟨_, _, if_pos hi, hpo.per hi⟩) rfl hca_Person (by decide) y5 hl_X7_74 rfl (by decide) (by decide) (by omega) (by omega) (by exact Nat.le_of_ble_eq_true rfl) dX7_person_182 (fun M3 e1 g1 g2 g3 g4 => ?_)
            have a7q := hpo.lo1
            have na : ∀ x e, M2 x = some e → M x = none → x ≠ ad (7, 1) ∧ (lcap (K.1 13) ≠ 0 → x ≠ ad (8, 1)) := fun x e _ hm => ⟨(znone hp.lo1 hm).symm, fun h0 => (znone (zPic.at hp (t := (8, 1)) (if_neg h0)) hm).symm⟩
            have kM : ∀ x e, M2 x = some e → M x = none → M3 x = some e := fun x e hx hm => g4 x e hx (na x e hx hm).1 (na x e hx hm).2
            obtain ⟨ad1, hp1, hst⟩ := growP hp (c := (2, 0, upd (fun _ => 0) 0 (nI (K.1 1)), upd (fun _ => 0) 0 v153)) (x := (man, none, some fn, nI (K.1 1), true, 0, -1, -1, 0)) h33 h2 hWf (by omega) ⟨fun p hh => (by cases hh), fun p hh => (by cases hh; exact hfn)⟩ hq (znoneU y1) (znoneU y2) (znoneU y3) (kM _ _ y4.1 (znoneU y1)) (kM _ _ y4.2.1 (znoneU y2)) (kM _ _ y4.2.2.1 (znoneU y3)) y4.2.2.2.2.2 (kM _ _ y5 hq) g1 g2 (g3.imp id fun h0 => (by cases hz : M e1 with | none => rfl | some w => (rw [hk0 _ _ hz] at h0; cases h0))) (fun z e hz a b => g4 z e (hk0 z e hz) a b)
            refine zpop C dX7_person_185 rfl ?_
            refine ziload C dX7_person_186 rfl ?_
            exact zend_i C hE dX7_person_188 (by omega) (by omega) ⟨by simp [x_person, okK, ocode, zfn, efn, nfn, h17, h60, h125b], rfl, ad1, by rw [k_person, omo_o (fun j e => Nat.lt_of_lt_of_le (hr1 j e) (Nat.le_trans h13 (by decide))), omo_o (fun j e => Nat.lt_of_lt_of_le (hr2 j e) (Nat.le_trans h13 (by decide))), ← hbr]; exact hp1, hst⟩
          · have h125b : 40 ≤ K.1 13 := Nat.not_lt.mp (fun e => h125 ((nI_ltI (a := K.1 13) (b := 40) (by omega) (by decide)).mpr e))
            exact zthrow C hE ht_X7_157_66 rfl (by decide) (by exact Nat.le_of_ble_eq_true rfl) (by omega) (by omega) dX7_person_128 dX7_person_131 dX7_person_132 dX7_person_134 dX7_person_137 ⟨thr3 (by simp [x_person, okK, ocode, zfn, efn, nfn, h17, h60, h125b]), rfl⟩
        · replace h60 := b2i_0.mp h60
          exact zthrow C hE ht_X7_153_152 rfl (by decide) (by exact Nat.le_of_ble_eq_true rfl) (by omega) (by omega) dX7_person_63 dX7_person_66 dX7_person_67 dX7_person_69 dX7_person_72 ⟨thr2 (by simp [x_person, okK, ocode, zfn, efn, nfn, h17, h60]), rfl⟩
      · replace h17 : ¬ f = -1 := h17
        refine zaload_n C dX7_person_20 rfl ?_
        refine ziload C dX7_person_21 rfl ?_
        refine zcallVX C (k_communityAt _ hp h2) hy_X7_communityAt hv_X7_communityAt hl_X7_78 hp.main rfl rfl rfl rfl (by decide) (by decide) (by omega) (by omega) rfl (by exact Nat.le_of_ble_eq_true rfl) dX7_person_23 (fun E M1 hx => zout C hE (by omega) (by omega) (by obtain ⟨e, hz, hm⟩ := hx; subst e; subst hm; exact ⟨thr1 (by simp [x_person, okK, ocode, zfn, efn, nfn, h17, hz]), rfl⟩)) (fun v23 M hp23 => ?_)
        obtain ⟨⟨cn, hcn, ecn, rfl⟩, rfl⟩ := hp23
        have zcn : zix f (K.1 2) = true := by rw [ecn]; exact zix_t hcn (by omega)
        refine zpop C dX7_person_26 rfl ?_
        refine zaloadQ (r := none) C dX7_person_27 rfl ?_
        refine zifnullN (tgt := 50) C dX7_person_29 (by decide) ?_
        refine zaload C dX7_person_50 rfl ?_
        refine zifnull C dX7_person_52 ?_
        refine zaload C dX7_person_55 rfl ?_
        refine zget C hf_X7_144 (hp.per (p := fn) hfn) (by rfl) dX7_person_57 ?_
        refine zif_ne (tgt := 73) C dX7_person_60 (by decide) (fun h60 => ?_) (fun h60 => ?_)
        · replace h60 := b2i_n0.mp h60
          refine zaloadQ (r := none) C dX7_person_73 rfl ?_
          refine zifnonnullN C dX7_person_75 ?_
          refine zaload C dX7_person_78 rfl ?_
          refine zifnonnull (tgt := 87) C dX7_person_80 (by decide) ?_
          refine zconst (v := 0) C dX7_person_87 (by decide) ?_
          refine zistore (L1 := [_, _, _, _, _, _, _, _, _, _]) C dX7_person_88 rfl (Nat.le_of_ble_eq_true rfl) ?_
          refine ziload C dX7_person_90 rfl ?_
          refine ziload C dX7_person_92 rfl ?_
          refine zconst (v := -1) C dX7_person_94 (by decide) ?_
          refine zicmp_ne (tgt := 102) C dX7_person_95 (by decide) (fun h95 => ?_) (fun h95 => by first | exact absurd h17 h95 | exact absurd h95 h17)
          refine zconst (v := 0) C dX7_person_102 (by decide) ?_
          refine zicmp_ne (tgt := 116) C dX7_person_103 (by decide) (fun h103 => by first | exact absurd h103 (by decide) | exact absurd (by decide) h103) (fun h103 => ?_)
          exact zthrow C hE ht_X7_155_152 rfl (by decide) (by exact Nat.le_of_ble_eq_true rfl) (by omega) (by omega) dX7_person_106 dX7_person_109 dX7_person_110 dX7_person_112 dX7_person_115 ⟨thr2 (by simp [x_person, okK, ocode, zfn, efn, nfn, h17, h60, zcn]), rfl⟩
        · replace h60 := b2i_0.mp h60
          exact zthrow C hE ht_X7_153_152 rfl (by decide) (by exact Nat.le_of_ble_eq_true rfl) (by omega) (by omega) dX7_person_63 dX7_person_66 dX7_person_67 dX7_person_69 dX7_person_72 ⟨thr2 (by simp [x_person, okK, ocode, zfn, efn, nfn, h17, h60, zcn]), rfl⟩
  | some mn =>
    have hmn := hr1 mn rfl
    have zmn : zix (nI mn) (K.1 13) = true := zix_t hmn (by omega)
    have emn : (nI mn).toNatClampNeg = mn := nI_clamp (by omega)
    have nmn : ¬ nI mn = -1 := nI_m1 (by omega)
    refine zastore (L1 := [_, _, _, _, _, _, _, _, _, _]) C dX7_person_5 rfl (Nat.le_of_ble_eq_true rfl) ?_
    refine zaload_n C dX7_person_7 rfl ?_
    refine ziload_n C dX7_person_8 rfl ?_
    refine zcallVX C (k_personOrNullAt _ hp h13) hy_X7_personOrNullAt hv_X7_personOrNullAt hl_X7_141 hp.main rfl rfl rfl rfl (by decide) (by decide) (by omega) (by omega) rfl (by exact Nat.le_of_ble_eq_true rfl) dX7_person_9 (fun E M1 hx => zout C hE (by omega) (by omega) (by obtain ⟨e, hz, hm⟩ := hx; subst e; subst hm; exact ⟨thr1 (by simp [x_person, ocode, zmn, emn, nmn, hz]), rfl⟩)) (fun v9 M hp9 => ?_)
    obtain ⟨⟨r2, hr2, rfl, rfl⟩, rfl⟩ := hp9
    cases r2 with
    | none =>
      refine zastoreN (L1 := [_, _, _, _, _, _, _, _, _, _]) C dX7_person_12 rfl (Nat.le_of_ble_eq_true rfl) ?_
      refine ziload C dX7_person_14 rfl ?_
      refine zconst (v := -1) C dX7_person_16 (by decide) ?_
      refine zicmp_eq (tgt := 27) C dX7_person_17 (by decide) (fun h17 => ?_) (fun h17 => ?_)
      · replace h17 : f = -1 := h17
        refine zaload C dX7_person_27 rfl ?_
        refine zifnull C dX7_person_29 ?_
        refine zaload C dX7_person_32 rfl ?_
        refine zget C hf_X7_144 (hp.per (p := mn) hmn) (by rfl) dX7_person_34 ?_
        refine zif_eq (tgt := 50) C dX7_person_37 (by decide) (fun h37 => ?_) (fun h37 => ?_)
        · replace h37 := b2i_0.mp h37
          refine zaloadQ (r := none) C dX7_person_50 rfl ?_
          refine zifnullN (tgt := 73) C dX7_person_52 (by decide) ?_
          refine zaload C dX7_person_73 rfl ?_
          refine zifnonnull (tgt := 87) C dX7_person_75 (by decide) ?_
          refine zconst (v := 0) C dX7_person_87 (by decide) ?_
          refine zistore (L1 := [_, _, _, _, _, _, _, _, _, _]) C dX7_person_88 rfl (Nat.le_of_ble_eq_true rfl) ?_
          refine ziload C dX7_person_90 rfl ?_
          refine ziload C dX7_person_92 rfl ?_
          refine zconst (v := -1) C dX7_person_94 (by decide) ?_
          refine zicmp_ne (tgt := 102) C dX7_person_95 (by decide) (fun h95 => by first | exact absurd h95 h17 | exact absurd h17 h95) (fun h95 => ?_)
          refine zconst (v := 1) C dX7_person_98 (by decide) ?_
          refine zgoto (tgt := 103) C dX7_person_99 (by decide) ?_
          refine zicmp_ne (tgt := 116) C dX7_person_103 (by decide) (fun h103 => ?_) (fun h103 => by first | exact absurd (by decide) h103 | exact absurd h103 (by decide))
          refine zaload_n C dX7_person_116 rfl ?_
          refine zget C hf_X7_35 hp.main (by rfl) dX7_person_117 ?_
          refine zcallV C (q_size (hp.lq1 (by omega))) hy_Jx4a65c_size_8abf5 hv_Jx4a65c_size_8abf5 hl_X7_58 (hp.lo1) rfl rfl rfl rfl (by decide) (by decide) (by omega) (by omega) rfl (by exact Nat.le_of_ble_eq_true rfl) dX7_person_120 (fun v120 M hp120 => ?_)
          obtain ⟨rfl, rfl⟩ := hp120
          refine zbipush (v := 40) C dX7_person_123 (by decide) ?_
          refine zicmp_lt (tgt := 138) C dX7_person_125 (by decide) (fun h125 => ?_) (fun h125 => ?_)
          · have h125b : K.1 13 < 40 := (nI_ltI (a := K.1 13) (b := 40) (by omega) (by decide)).mp h125
            refine zaload_n C dX7_person_138 rfl ?_
            refine zget C hf_X7_35 hp.main (by rfl) dX7_person_139 ?_
            refine zcallV C (q_size (hp.lq1 (by omega))) hy_Jx4a65c_size_8abf5 hv_Jx4a65c_size_8abf5 hl_X7_58 (hp.lo1) rfl rfl rfl rfl (by decide) (by decide) (by omega) (by omega) rfl (by exact Nat.le_of_ble_eq_true rfl) dX7_person_142 (fun v142 M hp142 => ?_)
            obtain ⟨rfl, rfl⟩ := hp142
            refine zistore (L1 := [_, _, _, _, _, _, _, _, _, _]) C dX7_person_145 rfl (Nat.le_of_ble_eq_true rfl) ?_
            refine zaload C dX7_person_147 rfl ?_
            refine zaloadQ (r := none) C dX7_person_149 rfl ?_
            refine ziload C dX7_person_151 rfl ?_
            refine zcallS C (k_brnC hmn f hp hch) hy_X7_faithAtBirth hst_X7_faithAtBirth hl_X7_159 rfl rfl (by decide) (by decide) (by omega) (by omega) rfl (by exact Nat.le_of_ble_eq_true rfl) dX7_person_153 (fun v153 M hp153 => ?_)
            obtain ⟨hv153, rfl⟩ := hp153
            have hbr : v153 = brnK K (some mn) none f := hv153
            refine zistore (L1 := [_, _, _, _, _, _, _, _, _, _]) C dX7_person_156 rfl (Nat.le_of_ble_eq_true rfl) ?_
            refine zaload_n C dX7_person_158 rfl ?_
            refine zget C hf_X7_35 hp.main (by rfl) dX7_person_159 ?_
            refine znew C hw_X7_128 rfl (by omega) (by omega) dX7_person_162 (fun q hq => ?_)
            refine zdup C dX7_person_165 rfl ?_
            refine ziload C dX7_person_166 rfl ?_
            refine ziload_n C dX7_person_168 rfl ?_
            refine zaload C dX7_person_169 rfl ?_
            refine zaloadQ (r := none) C dX7_person_171 rfl ?_
            refine zaload_n C dX7_person_173 rfl ?_
            refine zget C hf_X7_51 (hp.fresh hq).main (by rfl) dX7_person_174 ?_
            refine ziload C dX7_person_177 rfl ?_
            refine zcallI C (p_init (nI (K.1 13)) (nI (K.1 1)) v153 man (some (ad (10, mn))) none zup_same) hy_X4_init hi_X4_init hl_X7_163 rfl rfl (by decide) (by decide) (by omega) (by omega) rfl (by exact Nat.le_of_ble_eq_true rfl) dX7_person_179 (fun M2 hp2 => ?_)
            obtain ⟨qc, d1, n1, y1, y2, y3, y4, y5, y6⟩ := hp2
            have hk0 : ∀ z e, M z = some e → M2 z = some e := fun z e hz => y6 z e (by rw [zup_ne (znone hz hq)]; exact hz) (znone hz hq)
            have hpo := hp.keepM hk0
            refine zaddl C (len := K.1 13) (ci := 5) (ea := ad (8, 1)) (f := fun i => if i < K.1 13 then some (ad (10, i)) else none) hpo.lo1 (fun h0 => zPic.at hpo (t := (8, 1)) (if_neg h0)) (by omega) (fun i hi => if_neg (by omega)) (fun i hi => ⟨_, _, if_pos hi, hpo.per hi⟩) rfl hca_Person (by decide) y5 hl_X7_74 rfl (by decide) (by decide) (by omega) (by omega) (by exact Nat.le_of_ble_eq_true rfl) dX7_person_182 (fun M3 e1 g1 g2 g3 g4 => ?_)
            have a7q := hpo.lo1
            have na : ∀ x e, M2 x = some e → M x = none → x ≠ ad (7, 1) ∧ (lcap (K.1 13) ≠ 0 → x ≠ ad (8, 1)) := fun x e _ hm => ⟨(znone hp.lo1 hm).symm, fun h0 => (znone (zPic.at hp (t := (8, 1)) (if_neg h0)) hm).symm⟩
            have kM : ∀ x e, M2 x = some e → M x = none → M3 x = some e := fun x e hx hm => g4 x e hx (na x e hx hm).1 (na x e hx hm).2
            obtain ⟨ad1, hp1, hst⟩ := growP hp (c := (2, 0, upd (fun _ => 0) 0 (nI (K.1 1)), upd (fun _ => 0) 0 v153)) (x := (man, some mn, none, nI (K.1 1), true, 0, -1, -1, 0)) h33 h2 hWf (by omega) ⟨fun p hh => (by cases hh; exact hmn), fun p hh => (by cases hh)⟩ hq (znoneU y1) (znoneU y2) (znoneU y3) (kM _ _ y4.1 (znoneU y1)) (kM _ _ y4.2.1 (znoneU y2)) (kM _ _ y4.2.2.1 (znoneU y3)) y4.2.2.2.2.2 (kM _ _ y5 hq) g1 g2 (g3.imp id fun h0 => (by cases hz : M e1 with | none => rfl | some w => (rw [hk0 _ _ hz] at h0; cases h0))) (fun z e hz a b => g4 z e (hk0 z e hz) a b)
            refine zpop C dX7_person_185 rfl ?_
            refine ziload C dX7_person_186 rfl ?_
            exact zend_i C hE dX7_person_188 (by omega) (by omega) ⟨by simp [x_person, okK, ocode, zmn, emn, nmn, h17, h37, h125b], rfl, ad1, by rw [k_person, omo_o (fun j e => Nat.lt_of_lt_of_le (hr1 j e) (Nat.le_trans h13 (by decide))), omo_o (fun j e => Nat.lt_of_lt_of_le (hr2 j e) (Nat.le_trans h13 (by decide))), ← hbr]; exact hp1, hst⟩
          · have h125b : 40 ≤ K.1 13 := Nat.not_lt.mp (fun e => h125 ((nI_ltI (a := K.1 13) (b := 40) (by omega) (by decide)).mpr e))
            exact zthrow C hE ht_X7_157_66 rfl (by decide) (by exact Nat.le_of_ble_eq_true rfl) (by omega) (by omega) dX7_person_128 dX7_person_131 dX7_person_132 dX7_person_134 dX7_person_137 ⟨thr3 (by simp [x_person, okK, ocode, zmn, emn, nmn, h17, h37, h125b]), rfl⟩
        · replace h37 := b2i_n0.mp h37
          exact zthrow C hE ht_X7_150_152 rfl (by decide) (by exact Nat.le_of_ble_eq_true rfl) (by omega) (by omega) dX7_person_40 dX7_person_43 dX7_person_44 dX7_person_46 dX7_person_49 ⟨thr2 (by simp [x_person, okK, ocode, zmn, emn, nmn, h17, h37]), rfl⟩
      · replace h17 : ¬ f = -1 := h17
        refine zaload_n C dX7_person_20 rfl ?_
        refine ziload C dX7_person_21 rfl ?_
        refine zcallVX C (k_communityAt _ hp h2) hy_X7_communityAt hv_X7_communityAt hl_X7_78 hp.main rfl rfl rfl rfl (by decide) (by decide) (by omega) (by omega) rfl (by exact Nat.le_of_ble_eq_true rfl) dX7_person_23 (fun E M1 hx => zout C hE (by omega) (by omega) (by obtain ⟨e, hz, hm⟩ := hx; subst e; subst hm; exact ⟨thr1 (by simp [x_person, okK, ocode, zmn, emn, nmn, h17, hz]), rfl⟩)) (fun v23 M hp23 => ?_)
        obtain ⟨⟨cn, hcn, ecn, rfl⟩, rfl⟩ := hp23
        have zcn : zix f (K.1 2) = true := by rw [ecn]; exact zix_t hcn (by omega)
        refine zpop C dX7_person_26 rfl ?_
        refine zaload C dX7_person_27 rfl ?_
        refine zifnull C dX7_person_29 ?_
        refine zaload C dX7_person_32 rfl ?_
        refine zget C hf_X7_144 (hp.per (p := mn) hmn) (by rfl) dX7_person_34 ?_
        refine zif_eq (tgt := 50) C dX7_person_37 (by decide) (fun h37 => ?_) (fun h37 => ?_)
        · replace h37 := b2i_0.mp h37
          refine zaloadQ (r := none) C dX7_person_50 rfl ?_
          refine zifnullN (tgt := 73) C dX7_person_52 (by decide) ?_
          refine zaload C dX7_person_73 rfl ?_
          refine zifnonnull (tgt := 87) C dX7_person_75 (by decide) ?_
          refine zconst (v := 0) C dX7_person_87 (by decide) ?_
          refine zistore (L1 := [_, _, _, _, _, _, _, _, _, _]) C dX7_person_88 rfl (Nat.le_of_ble_eq_true rfl) ?_
          refine ziload C dX7_person_90 rfl ?_
          refine ziload C dX7_person_92 rfl ?_
          refine zconst (v := -1) C dX7_person_94 (by decide) ?_
          refine zicmp_ne (tgt := 102) C dX7_person_95 (by decide) (fun h95 => ?_) (fun h95 => by first | exact absurd h17 h95 | exact absurd h95 h17)
          refine zconst (v := 0) C dX7_person_102 (by decide) ?_
          refine zicmp_ne (tgt := 116) C dX7_person_103 (by decide) (fun h103 => by first | exact absurd h103 (by decide) | exact absurd (by decide) h103) (fun h103 => ?_)
          exact zthrow C hE ht_X7_155_152 rfl (by decide) (by exact Nat.le_of_ble_eq_true rfl) (by omega) (by omega) dX7_person_106 dX7_person_109 dX7_person_110 dX7_person_112 dX7_person_115 ⟨thr2 (by simp [x_person, okK, ocode, zmn, emn, nmn, h17, h37, zcn]), rfl⟩
        · replace h37 := b2i_n0.mp h37
          exact zthrow C hE ht_X7_150_152 rfl (by decide) (by exact Nat.le_of_ble_eq_true rfl) (by omega) (by omega) dX7_person_40 dX7_person_43 dX7_person_44 dX7_person_46 dX7_person_49 ⟨thr2 (by simp [x_person, okK, ocode, zmn, emn, nmn, h17, h37, zcn]), rfl⟩
    | some fn =>
      have hfn := hr2 fn rfl
      have zfn : zix (nI fn) (K.1 13) = true := zix_t hfn (by omega)
      have efn : (nI fn).toNatClampNeg = fn := nI_clamp (by omega)
      have nfn : ¬ nI fn = -1 := nI_m1 (by omega)
      refine zastore (L1 := [_, _, _, _, _, _, _, _, _, _]) C dX7_person_12 rfl (Nat.le_of_ble_eq_true rfl) ?_
      refine ziload C dX7_person_14 rfl ?_
      refine zconst (v := -1) C dX7_person_16 (by decide) ?_
      refine zicmp_eq (tgt := 27) C dX7_person_17 (by decide) (fun h17 => ?_) (fun h17 => ?_)
      · replace h17 : f = -1 := h17
        refine zaload C dX7_person_27 rfl ?_
        refine zifnull C dX7_person_29 ?_
        refine zaload C dX7_person_32 rfl ?_
        refine zget C hf_X7_144 (hp.per (p := mn) hmn) (by rfl) dX7_person_34 ?_
        refine zif_eq (tgt := 50) C dX7_person_37 (by decide) (fun h37 => ?_) (fun h37 => ?_)
        · replace h37 := b2i_0.mp h37
          refine zaload C dX7_person_50 rfl ?_
          refine zifnull C dX7_person_52 ?_
          refine zaload C dX7_person_55 rfl ?_
          refine zget C hf_X7_144 (hp.per (p := fn) hfn) (by rfl) dX7_person_57 ?_
          refine zif_ne (tgt := 73) C dX7_person_60 (by decide) (fun h60 => ?_) (fun h60 => ?_)
          · replace h60 := b2i_n0.mp h60
            refine zaload C dX7_person_73 rfl ?_
            refine zifnonnull (tgt := 87) C dX7_person_75 (by decide) ?_
            refine zconst (v := 0) C dX7_person_87 (by decide) ?_
            refine zistore (L1 := [_, _, _, _, _, _, _, _, _, _]) C dX7_person_88 rfl (Nat.le_of_ble_eq_true rfl) ?_
            refine ziload C dX7_person_90 rfl ?_
            refine ziload C dX7_person_92 rfl ?_
            refine zconst (v := -1) C dX7_person_94 (by decide) ?_
            refine zicmp_ne (tgt := 102) C dX7_person_95 (by decide) (fun h95 => by first | exact absurd h95 h17 | exact absurd h17 h95) (fun h95 => ?_)
            refine zconst (v := 1) C dX7_person_98 (by decide) ?_
            refine zgoto (tgt := 103) C dX7_person_99 (by decide) ?_
            refine zicmp_ne (tgt := 116) C dX7_person_103 (by decide) (fun h103 => ?_) (fun h103 => by first | exact absurd (by decide) h103 | exact absurd h103 (by decide))
            refine zaload_n C dX7_person_116 rfl ?_
            refine zget C hf_X7_35 hp.main (by rfl) dX7_person_117 ?_
            refine zcallV C (q_size (hp.lq1 (by omega))) hy_Jx4a65c_size_8abf5 hv_Jx4a65c_size_8abf5 hl_X7_58 (hp.lo1) rfl rfl rfl rfl (by decide) (by decide) (by omega) (by omega) rfl (by exact Nat.le_of_ble_eq_true rfl) dX7_person_120 (fun v120 M hp120 => ?_)
            obtain ⟨rfl, rfl⟩ := hp120
            refine zbipush (v := 40) C dX7_person_123 (by decide) ?_
            refine zicmp_lt (tgt := 138) C dX7_person_125 (by decide) (fun h125 => ?_) (fun h125 => ?_)
            · have h125b : K.1 13 < 40 := (nI_ltI (a := K.1 13) (b := 40) (by omega) (by decide)).mp h125
              refine zaload_n C dX7_person_138 rfl ?_
              refine zget C hf_X7_35 hp.main (by rfl) dX7_person_139 ?_
              refine zcallV C (q_size (hp.lq1 (by omega))) hy_Jx4a65c_size_8abf5 hv_Jx4a65c_size_8abf5 hl_X7_58 (hp.lo1) rfl rfl rfl rfl (by decide) (by decide) (by omega) (by omega) rfl (by exact Nat.le_of_ble_eq_true rfl) dX7_person_142 (fun v142 M hp142 => ?_)
              obtain ⟨rfl, rfl⟩ := hp142
              refine zistore (L1 := [_, _, _, _, _, _, _, _, _, _]) C dX7_person_145 rfl (Nat.le_of_ble_eq_true rfl) ?_
              refine zaload C dX7_person_147 rfl ?_
              refine zaload C dX7_person_149 rfl ?_
              refine ziload C dX7_person_151 rfl ?_
              refine zcallS C (k_brnA hmn hfn f hp hch) hy_X7_faithAtBirth hst_X7_faithAtBirth hl_X7_159 rfl rfl (by decide) (by decide) (by omega) (by omega) rfl (by exact Nat.le_of_ble_eq_true rfl) dX7_person_153 (fun v153 M hp153 => ?_)
              obtain ⟨hv153, rfl⟩ := hp153
              have hbr : v153 = brnK K (some mn) (some fn) f := hv153
              refine zistore (L1 := [_, _, _, _, _, _, _, _, _, _]) C dX7_person_156 rfl (Nat.le_of_ble_eq_true rfl) ?_
              refine zaload_n C dX7_person_158 rfl ?_
              refine zget C hf_X7_35 hp.main (by rfl) dX7_person_159 ?_
              refine znew C hw_X7_128 rfl (by omega) (by omega) dX7_person_162 (fun q hq => ?_)
              refine zdup C dX7_person_165 rfl ?_
              refine ziload C dX7_person_166 rfl ?_
              refine ziload_n C dX7_person_168 rfl ?_
              refine zaload C dX7_person_169 rfl ?_
              refine zaload C dX7_person_171 rfl ?_
              refine zaload_n C dX7_person_173 rfl ?_
              refine zget C hf_X7_51 (hp.fresh hq).main (by rfl) dX7_person_174 ?_
              refine ziload C dX7_person_177 rfl ?_
              refine zcallI C (p_init (nI (K.1 13)) (nI (K.1 1)) v153 man (some (ad (10, mn))) (some (ad (10, fn))) zup_same) hy_X4_init hi_X4_init hl_X7_163 rfl rfl (by decide) (by decide) (by omega) (by omega) rfl (by exact Nat.le_of_ble_eq_true rfl) dX7_person_179 (fun M2 hp2 => ?_)
              obtain ⟨qc, d1, n1, y1, y2, y3, y4, y5, y6⟩ := hp2
              have hk0 : ∀ z e, M z = some e → M2 z = some e := fun z e hz => y6 z e (by rw [zup_ne (znone hz hq)]; exact hz) (znone hz hq)
              have hpo := hp.keepM hk0
              refine zaddl C (len := K.1 13) (ci := 5) (ea := ad (8, 1)) (f := fun i => if i < K.1 13 then some (ad (10, i)) else none) hpo.lo1 (fun h0 => zPic.at hpo (t := (8, 1)) (if_neg h0)) (by omega) (fun i hi => if_neg (by omega)) (fun i hi => ⟨_, _, if_pos hi, hpo.per hi⟩) rfl hca_Person (by decide) y5 hl_X7_74 rfl (by decide) (by decide) (by omega) (by omega) (by exact Nat.le_of_ble_eq_true rfl) dX7_person_182 (fun M3 e1 g1 g2 g3 g4 => ?_)
              have a7q := hpo.lo1
              have na : ∀ x e, M2 x = some e → M x = none → x ≠ ad (7, 1) ∧ (lcap (K.1 13) ≠ 0 → x ≠ ad (8, 1)) := fun x e _ hm => ⟨(znone hp.lo1 hm).symm, fun h0 => (znone (zPic.at hp (t := (8, 1)) (if_neg h0)) hm).symm⟩
              have kM : ∀ x e, M2 x = some e → M x = none → M3 x = some e := fun x e hx hm => g4 x e hx (na x e hx hm).1 (na x e hx hm).2
              obtain ⟨ad1, hp1, hst⟩ := growP hp (c := (2, 0, upd (fun _ => 0) 0 (nI (K.1 1)), upd (fun _ => 0) 0 v153)) (x := (man, some mn, some fn, nI (K.1 1), true, 0, -1, -1, 0)) h33 h2 hWf (by omega) ⟨fun p hh => (by cases hh; exact hmn), fun p hh => (by cases hh; exact hfn)⟩ hq (znoneU y1) (znoneU y2) (znoneU y3) (kM _ _ y4.1 (znoneU y1)) (kM _ _ y4.2.1 (znoneU y2)) (kM _ _ y4.2.2.1 (znoneU y3)) y4.2.2.2.2.2 (kM _ _ y5 hq) g1 g2 (g3.imp id fun h0 => (by cases hz : M e1 with | none => rfl | some w => (rw [hk0 _ _ hz] at h0; cases h0))) (fun z e hz a b => g4 z e (hk0 z e hz) a b)
              refine zpop C dX7_person_185 rfl ?_
              refine ziload C dX7_person_186 rfl ?_
              exact zend_i C hE dX7_person_188 (by omega) (by omega) ⟨by simp [x_person, okK, ocode, zmn, emn, nmn, zfn, efn, nfn, h17, h37, h60, h125b], rfl, ad1, by rw [k_person, omo_o (fun j e => Nat.lt_of_lt_of_le (hr1 j e) (Nat.le_trans h13 (by decide))), omo_o (fun j e => Nat.lt_of_lt_of_le (hr2 j e) (Nat.le_trans h13 (by decide))), ← hbr]; exact hp1, hst⟩
            · have h125b : 40 ≤ K.1 13 := Nat.not_lt.mp (fun e => h125 ((nI_ltI (a := K.1 13) (b := 40) (by omega) (by decide)).mpr e))
              exact zthrow C hE ht_X7_157_66 rfl (by decide) (by exact Nat.le_of_ble_eq_true rfl) (by omega) (by omega) dX7_person_128 dX7_person_131 dX7_person_132 dX7_person_134 dX7_person_137 ⟨thr3 (by simp [x_person, okK, ocode, zmn, emn, nmn, zfn, efn, nfn, h17, h37, h60, h125b]), rfl⟩
          · replace h60 := b2i_0.mp h60
            exact zthrow C hE ht_X7_153_152 rfl (by decide) (by exact Nat.le_of_ble_eq_true rfl) (by omega) (by omega) dX7_person_63 dX7_person_66 dX7_person_67 dX7_person_69 dX7_person_72 ⟨thr2 (by simp [x_person, okK, ocode, zmn, emn, nmn, zfn, efn, nfn, h17, h37, h60]), rfl⟩
        · replace h37 := b2i_n0.mp h37
          exact zthrow C hE ht_X7_150_152 rfl (by decide) (by exact Nat.le_of_ble_eq_true rfl) (by omega) (by omega) dX7_person_40 dX7_person_43 dX7_person_44 dX7_person_46 dX7_person_49 ⟨thr2 (by simp [x_person, okK, ocode, zmn, emn, nmn, zfn, efn, nfn, h17, h37]), rfl⟩
      · replace h17 : ¬ f = -1 := h17
        refine zaload_n C dX7_person_20 rfl ?_
        refine ziload C dX7_person_21 rfl ?_
        refine zcallVX C (k_communityAt _ hp h2) hy_X7_communityAt hv_X7_communityAt hl_X7_78 hp.main rfl rfl rfl rfl (by decide) (by decide) (by omega) (by omega) rfl (by exact Nat.le_of_ble_eq_true rfl) dX7_person_23 (fun E M1 hx => zout C hE (by omega) (by omega) (by obtain ⟨e, hz, hm⟩ := hx; subst e; subst hm; exact ⟨thr1 (by simp [x_person, okK, ocode, zmn, emn, nmn, zfn, efn, nfn, h17, hz]), rfl⟩)) (fun v23 M hp23 => ?_)
        obtain ⟨⟨cn, hcn, ecn, rfl⟩, rfl⟩ := hp23
        have zcn : zix f (K.1 2) = true := by rw [ecn]; exact zix_t hcn (by omega)
        refine zpop C dX7_person_26 rfl ?_
        refine zaload C dX7_person_27 rfl ?_
        refine zifnull C dX7_person_29 ?_
        refine zaload C dX7_person_32 rfl ?_
        refine zget C hf_X7_144 (hp.per (p := mn) hmn) (by rfl) dX7_person_34 ?_
        refine zif_eq (tgt := 50) C dX7_person_37 (by decide) (fun h37 => ?_) (fun h37 => ?_)
        · replace h37 := b2i_0.mp h37
          refine zaload C dX7_person_50 rfl ?_
          refine zifnull C dX7_person_52 ?_
          refine zaload C dX7_person_55 rfl ?_
          refine zget C hf_X7_144 (hp.per (p := fn) hfn) (by rfl) dX7_person_57 ?_
          refine zif_ne (tgt := 73) C dX7_person_60 (by decide) (fun h60 => ?_) (fun h60 => ?_)
          · replace h60 := b2i_n0.mp h60
            refine zaload C dX7_person_73 rfl ?_
            refine zifnonnull (tgt := 87) C dX7_person_75 (by decide) ?_
            refine zconst (v := 0) C dX7_person_87 (by decide) ?_
            refine zistore (L1 := [_, _, _, _, _, _, _, _, _, _]) C dX7_person_88 rfl (Nat.le_of_ble_eq_true rfl) ?_
            refine ziload C dX7_person_90 rfl ?_
            refine ziload C dX7_person_92 rfl ?_
            refine zconst (v := -1) C dX7_person_94 (by decide) ?_
            refine zicmp_ne (tgt := 102) C dX7_person_95 (by decide) (fun h95 => ?_) (fun h95 => by first | exact absurd h17 h95 | exact absurd h95 h17)
            refine zconst (v := 0) C dX7_person_102 (by decide) ?_
            refine zicmp_ne (tgt := 116) C dX7_person_103 (by decide) (fun h103 => by first | exact absurd h103 (by decide) | exact absurd (by decide) h103) (fun h103 => ?_)
            exact zthrow C hE ht_X7_155_152 rfl (by decide) (by exact Nat.le_of_ble_eq_true rfl) (by omega) (by omega) dX7_person_106 dX7_person_109 dX7_person_110 dX7_person_112 dX7_person_115 ⟨thr2 (by simp [x_person, okK, ocode, zmn, emn, nmn, zfn, efn, nfn, h17, h37, h60, zcn]), rfl⟩
          · replace h60 := b2i_0.mp h60
            exact zthrow C hE ht_X7_153_152 rfl (by decide) (by exact Nat.le_of_ble_eq_true rfl) (by omega) (by omega) dX7_person_63 dX7_person_66 dX7_person_67 dX7_person_69 dX7_person_72 ⟨thr2 (by simp [x_person, okK, ocode, zmn, emn, nmn, zfn, efn, nfn, h17, h37, h60, zcn]), rfl⟩
        · replace h37 := b2i_n0.mp h37
          exact zthrow C hE ht_X7_150_152 rfl (by decide) (by exact Nat.le_of_ble_eq_true rfl) (by omega) (by omega) dX7_person_40 dX7_person_43 dX7_person_44 dX7_person_46 dX7_person_49 ⟨thr2 (by simp [x_person, okK, ocode, zmn, emn, nmn, zfn, efn, nfn, h17, h37, zcn]), rfl⟩
