def chS (K : zK) (p : Nat) : Nat → Nat × (Nat → Nat)
  | 0 => (0, fun _ => 0)
  | i + 1 => if chlK K i p = true then addA (chS K p i) i else chS K p i
theorem chS_in (K : zK) (p : Nat) : ∀ i, (chS K p i).1 ≤ i ∧ ∀ x, x < (chS K p i).1 → (chS K p i).2 x < i
  | 0 => ⟨Nat.le_refl _, fun x hx => absurd hx (Nat.not_lt_zero _)⟩
  | i + 1 => by
    obtain ⟨h1, h2⟩ := chS_in K p i
    rw [chS]
    split
    · refine ⟨by show (chS K p i).1 + 1 ≤ i + 1; omega, fun x hx => ?_⟩
      have hx : x < (chS K p i).1 + 1 := hx
      show va_up (chS K p i).2 (chS K p i).1 i x < i + 1
      by_cases e : x = (chS K p i).1
      · rw [e, up_eq]; omega
      · rw [up_ne e]
        have := h2 x (by omega)
        omega
    · exact ⟨by omega, fun x hx => by have := h2 x hx; omega⟩
/-- marriages that a death ends: the state, who was married -/
def enK (K : zK) (d : Nat) : Nat → zK × (Nat × (Nat → Nat))
  | 0 => (K, (0, fun _ => 0))
  | m + 1 => if lasK (enK K d m).1 m d = true then (if (kma (enK K d m).1 m).1 = d then (dowK (sma (enK K d m).1 m (maSt (kma (enK K d m).1 m) 2)) m, addA (enK K d m).2 (kma (enK K d m).1 m).2.1) else (sma (enK K d m).1 m (maOw (maSt (kma (enK K d m).1 m) 2) 0), addA (enK K d m).2 (kma (enK K d m).1 m).1)) else enK K d m
/-- what marriages' ends leave alone -/
def mfr (K K1 : zK) : Prop := K1.1 = K.1 ∧ K1.2.1 = K.2.1 ∧ kch K1 = kch K ∧ (∀ q, (kpe K1 q).1 = (kpe K q).1 ∧ (kpe K1 q).2.1 = (kpe K q).2.1 ∧ (kpe K1 q).2.2.1 = (kpe K q).2.2.1 ∧ (kpe K1 q).2.2.2.1 = (kpe K q).2.2.2.1 ∧ (kpe K1 q).2.2.2.2.1 = (kpe K q).2.2.2.2.1 ∧ (kpe K1 q).2.2.2.2.2.2 = (kpe K q).2.2.2.2.2.2) ∧ (∀ m, (kma K1 m).1 = (kma K m).1 ∧ (kma K1 m).2.1 = (kma K m).2.1 ∧ (kma K1 m).2.2.1 = (kma K m).2.2.1) ∧ K1.2.2.2.2.2 = K.2.2.2.2.2
theorem mfr.rf {K : zK} : mfr K K := ⟨rfl, rfl, rfl, fun _ => ⟨rfl, rfl, rfl, rfl, rfl, rfl⟩, fun _ => ⟨rfl, rfl, rfl⟩, rfl⟩
theorem mfr.trans {K K1 K2 : zK} (h : mfr K K1) (h2 : mfr K1 K2) : mfr K K2 := by
  obtain ⟨a1, a2, a3, a4, a5, a6⟩ := h
  obtain ⟨b1, b2, b3, b4, b5, b6⟩ := h2
  refine ⟨b1.trans a1, b2.trans a2, b3.trans a3, fun q => ?_, fun m => ?_, b6.trans a6⟩
  · obtain ⟨c1, c2, c3, c4, c5, c6⟩ := a4 q
    obtain ⟨d1, d2, d3, d4, d5, d6⟩ := b4 q
    exact ⟨d1.trans c1, d2.trans c2, d3.trans c3, d4.trans c4, d5.trans c5, d6.trans c6⟩
  · obtain ⟨c1, c2, c3⟩ := a5 m
    obtain ⟨d1, d2, d3⟩ := b5 m
    exact ⟨d1.trans c1, d2.trans c2, d3.trans c3⟩
theorem mfr.ma {K : zK} {m : Nat} {x : zMa} (h : x.1 = (kma K m).1 ∧ x.2.1 = (kma K m).2.1 ∧ x.2.2.1 = (kma K m).2.2.1) : mfr K (sma K m x) := ⟨rfl, rfl, rfl, fun _ => ⟨rfl, rfl, rfl, rfl, rfl, rfl⟩, fun i => by
  by_cases e : i = m
  · subst e; rw [kma_s]; exact h
  · rw [show kma (sma K m x) i = kma K i from up_ne e]; exact ⟨rfl, rfl, rfl⟩, rfl⟩
theorem mfr.goo {K : zK} {p : Nat} {v : Int64} : mfr K (spe K p (peGoo (kpe K p) v)) := ⟨rfl, rfl, rfl, fun q => by
  by_cases e : q = p
  · subst e; rw [kpe_s]; exact ⟨rfl, rfl, rfl, rfl, rfl, rfl⟩
  · rw [kpe_n e]; exact ⟨rfl, rfl, rfl, rfl, rfl, rfl⟩, fun _ => ⟨rfl, rfl, rfl⟩, rfl⟩
theorem payK_mfr {K : zK} {a b : Nat} {v : Int64} (h : a ≠ b) : mfr K (payK K a b v) := by
  refine mfr.trans (K1 := spe K a (peGoo (kpe K a) ((kpe K a).2.2.2.2.2.1 - v))) mfr.goo ?_
  have : payK K a b v = spe (spe K a (peGoo (kpe K a) ((kpe K a).2.2.2.2.2.1 - v))) b (peGoo (kpe (spe K a (peGoo (kpe K a) ((kpe K a).2.2.2.2.2.1 - v))) b) ((kpe K b).2.2.2.2.2.1 + v)) := by rw [kpe_n h.symm]; rfl
  rw [this]
  exact mfr.goo
theorem dowK_mfr {K : zK} {m : Nat} (h : (kma K m).1 ≠ (kma K m).2.1) : mfr K (dowK K m) := (payK_mfr h).trans (mfr.ma ⟨rfl, rfl, rfl⟩)
theorem mfr.iMa {K K1 : zK} (h : mfr K K1) (hm : iMa K) : iMa K1 := fun m hmn => by
  rw [(h.2.2.2.2.1 m).1, (h.2.2.2.2.1 m).2.1, h.1]
  exact hm m (by rw [← h.1]; exact hmn)
theorem mfr.iPa {K K1 : zK} (h : mfr K K1) (hp : iPa K) : iPa K1 := fun p hpn => by
  rw [(h.2.2.2.1 p).2.1, (h.2.2.2.1 p).2.2.1]
  exact hp p (by rw [← h.1]; exact hpn)
theorem mfr.wf {K K1 : zK} (h : mfr K K1) (hw : iWf K) : iWf K1 := by
  obtain ⟨⟨a, b, c⟩, d, e, f⟩ := hw
  obtain ⟨h1, h2, h3, h4, h5, h6⟩ := id h
  have e1 : ksu K1 = ksu K := congrArg (fun x => x.1) h6
  have e2 : kws K1 = kws K := congrArg (fun x => x.2.1) h6
  have e3 : ktl K1 = ktl K := congrArg (fun x => x.2.2) h6
  refine ⟨⟨h.iMa a, fun s hs => ?_, h.iPa c⟩, fun s i hs hi => ?_, fun s => ?_, fun j q hj i hi => ?_⟩
  · rw [e1, h1]; exact b s (by rw [← h1]; exact hs)
  · rw [e2, h1]; rw [h1] at hs; rw [e2] at hi; exact d s i hs hi
  · rw [e2]; exact e s
  · rw [h1]; rw [e3] at hj; exact f j q hj i hi
theorem addA_in {s : Nat × (Nat → Nat)} {m n p : Nat} (h2 : s.1 ≤ m) (h3 : ∀ x, x < s.1 → s.2 x < n) (hp : p < n) : (addA s p).1 ≤ m + 1 ∧ ∀ x, x < (addA s p).1 → (addA s p).2 x < n := by
  refine ⟨by show s.1 + 1 ≤ m + 1; omega, fun x hx => ?_⟩
  have hx : x < s.1 + 1 := hx
  show va_up s.2 s.1 p x < _
  by_cases e : x = s.1
  · rw [e, up_eq]; exact hp
  · rw [up_ne e]; exact h3 x (by omega)
theorem enK_st {K B : zK} {d m : Nat} {s : Nat × (Nat → Nat)} (h1 : mfr K B) (h2 : s.1 ≤ m) (h3 : ∀ x, x < s.1 → s.2 x < K.1 13) (hmm : (kma B m).1 < B.1 13 ∧ (kma B m).2.1 < B.1 13 ∧ (kma B m).1 ≠ (kma B m).2.1) :
    mfr K (if lasK B m d = true then (if (kma B m).1 = d then (dowK (sma B m (maSt (kma B m) 2)) m, addA s (kma B m).2.1) else (sma B m (maOw (maSt (kma B m) 2) 0), addA s (kma B m).1)) else (B, s)).1 ∧ (if lasK B m d = true then (if (kma B m).1 = d then (dowK (sma B m (maSt (kma B m) 2)) m, addA s (kma B m).2.1) else (sma B m (maOw (maSt (kma B m) 2) 0), addA s (kma B m).1)) else (B, s)).2.1 ≤ m + 1 ∧
      ∀ x, x < (if lasK B m d = true then (if (kma B m).1 = d then (dowK (sma B m (maSt (kma B m) 2)) m, addA s (kma B m).2.1) else (sma B m (maOw (maSt (kma B m) 2) 0), addA s (kma B m).1)) else (B, s)).2.1 → (if lasK B m d = true then (if (kma B m).1 = d then (dowK (sma B m (maSt (kma B m) 2)) m, addA s (kma B m).2.1) else (sma B m (maOw (maSt (kma B m) 2) 0), addA s (kma B m).1)) else (B, s)).2.2 x < K.1 13 := by
  have e13 := congrFun h1.1 13
  by_cases c1 : lasK B m d = true
  · rw [if_pos c1]
    by_cases c2 : (kma B m).1 = d
    · rw [if_pos c2]
      refine ⟨h1.trans ((mfr.ma (m := m) (x := maSt (kma B m) 2) ⟨rfl, rfl, rfl⟩).trans (dowK_mfr ?_)), addA_in h2 h3 (by rw [← e13]; exact hmm.2.1)⟩
      rw [kma_s]
      exact hmm.2.2
    · rw [if_neg c2]
      exact ⟨h1.trans (mfr.ma (m := m) (x := maOw (maSt (kma B m) 2) 0) ⟨rfl, rfl, rfl⟩), addA_in h2 h3 (by rw [← e13]; exact hmm.1)⟩
  · rw [if_neg c1]
    exact ⟨h1, Nat.le_succ_of_le h2, h3⟩
theorem ktl_s {K : zK} {j : Nat} {q : Option zTl} : ktl (stl K j q) j = q := up_eq
theorem enK_fr {K : zK} (d : Nat) (hm : iMa K) : ∀ m, m ≤ K.1 25 → mfr K (enK K d m).1 ∧ (enK K d m).2.1 ≤ m ∧ ∀ x, x < (enK K d m).2.1 → (enK K d m).2.2 x < K.1 13
  | 0, _ => ⟨mfr.rf, Nat.le_refl _, fun x hx => absurd hx (Nat.not_lt_zero _)⟩
  | m + 1, h => by
    obtain ⟨h1, h2, h3⟩ := enK_fr d hm m (by omega)
    rw [enK]
    generalize enK K d m = A at h1 h2 h3 ⊢
    obtain ⟨B, s⟩ := A
    dsimp only at h1 h2 h3 ⊢
    exact enK_st h1 h2 h3 (h1.iMa hm m (by rw [h1.1]; omega))
set_option maxRecDepth 100000 in
set_option maxHeartbeats 1000000 in
theorem k_livingCh {g : zGh} {K : zK} {X : zg → Option va_E} {ad : zg → Nat} {M : zM} {p : Nat} (hpn : p < K.1 13) (hp : zP g K X ad M) (h13 : K.1 13 ≤ 40) (h33 : K.1 33 ≤ 20) (hw : iWf K) (hnl : ktl K 31 = none) : zCt g yX7_livingChildrenOf cX7_livingChildrenOf 4 (some (.object "java/util/ArrayList")) 7 171 mkR [.ref (ad (0, 0)), .ref (ad (10, p))] M 41 2700 (fun v M1 => ∃ ad1, v = ad1 (7, 31) ∧ zP g (stl K 31 (some (tlA (chS K p (K.1 13))))) X ad1 M1 ∧ ∀ t : zg, t ≠ (7, 31) → t ≠ (8, 31) → ad1 t = ad t) noX := by
  refine zof [some (.ref (ad (0, 0))), some (.ref (ad (10, p))), none, none] (by decide +kernel) rfl rfl (Nat.le_of_ble_eq_true rfl) ?_
  intro Z C hE hnm
  have C : zC g Z RX7 cX7_livingChildrenOf 4 7 171 41 2700 := C
  have hpa : iPa K := hw.1.2.2
  have loop : ∀ (r i : Nat), i + r = K.1 13 → ∀ (M : zM) (ad1 : zg → Nat), zP g (stl K 31 (some (tlA (chS K p i)))) X ad1 M → (∀ t : zg, t ≠ (7, 31) → t ≠ (8, 31) → ad1 t = ad t) → zG g Z M (1 + i) (3 + 64 * i) 10 [some (.ref (ad1 (0, 0))), some (.ref (ad1 (10, p))), some (.ref (ad1 (7, 31))), some (.int (nI i))] [] := by
    intro r
    induction r with
    | zero =>
      intro i hi M ad1 hp hst
      obtain rfl : i = K.1 13 := by omega
      have h13b : (stl K 31 (some (tlA (chS K p (K.1 13))))).1 13 ≤ 40 := h13
      refine ziload_n C dX7_livingChildrenOf_10 rfl ?_
      refine zaload_n C dX7_livingChildrenOf_11 rfl ?_
      refine zget C hf_X7_35 hp.main (by rfl) dX7_livingChildrenOf_12 ?_
      refine zcallV C (q_size (hp.lq1 (by omega))) hy_Jx4a65c_size_8abf5 hv_Jx4a65c_size_8abf5 hl_X7_58 (hp.lo1) rfl rfl rfl rfl (by decide) (by decide) (by omega) (by omega) rfl (by exact Nat.le_of_ble_eq_true rfl) dX7_livingChildrenOf_15 (fun v15 M hp15 => ?_)
      obtain ⟨rfl, rfl⟩ := hp15
      refine zicmp_ge (tgt := 61) C dX7_livingChildrenOf_18 (by decide) (fun h18 => ?_) (fun h18 => by first | exact absurd (Int32.le_refl _) h18 | exact absurd h18 (Int32.le_refl _))
      refine zaload_n C dX7_livingChildrenOf_61 rfl ?_
      exact zend_r C hE (Or.inl ⟨_, rfl⟩) dX7_livingChildrenOf_62 (by omega) (by omega) ⟨ad1, rfl, hp, hst⟩
    | succ r ih =>
      intro i hi M ad1 hp hst
      have hil : i < K.1 13 := by omega
      obtain ⟨hc1, hc2⟩ := chS_in K p i
      have hq : ktl (stl K 31 (some (tlA (chS K p i)))) 31 = some (tlA (chS K p i)) := ktl_s
      have hilS : i < (stl K 31 (some (tlA (chS K p i)))).1 13 := hil
      have h13b : (stl K 31 (some (tlA (chS K p i)))).1 13 ≤ 40 := h13
      have hnx : chS K p (i + 1) = if chlK K i p = true then addA (chS K p i) i else chS K p i := rfl
      have hwS : iWf (stl K 31 (some (tlA (chS K p i)))) := iWf_stl hw (fun x hx => Nat.lt_trans (hc2 x hx) hil)
      refine ziload_n C dX7_livingChildrenOf_10 rfl ?_
      refine zaload_n C dX7_livingChildrenOf_11 rfl ?_
      refine zget C hf_X7_35 hp.main (by rfl) dX7_livingChildrenOf_12 ?_
      refine zcallV C (q_size (hp.lq1 (by omega))) hy_Jx4a65c_size_8abf5 hv_Jx4a65c_size_8abf5 hl_X7_58 (hp.lo1) rfl rfl rfl rfl (by decide) (by decide) (by omega) (by omega) rfl (by exact Nat.le_of_ble_eq_true rfl) dX7_livingChildrenOf_15 (fun v15 M hp15 => ?_)
      obtain ⟨rfl, rfl⟩ := hp15
      refine zicmp_ge (tgt := 61) C dX7_livingChildrenOf_18 (by decide) (fun h18 => by first | exact absurd h18 (nI_ge (show i < K.1 13 from hil) (Nat.lt_of_le_of_lt h13 (by decide))) | exact absurd (nI_ge (show i < K.1 13 from hil) (Nat.lt_of_le_of_lt h13 (by decide))) h18) (fun h18 => ?_)
      refine zaload_n C dX7_livingChildrenOf_21 rfl ?_
      refine zget C hf_X7_35 hp.main (by rfl) dX7_livingChildrenOf_22 ?_
      refine ziload_n C dX7_livingChildrenOf_25 rfl ?_
      refine zcallV C (q_get i (hp.lq1 (by omega)) (show i < _ from hilS)) hy_Jx4a65c_get_915e3 hv_Jx4a65c_get_915e3 hl_X7_384 (hp.lo1) rfl rfl rfl rfl (by decide) (by decide) (by omega) (by omega) rfl (by exact Nat.le_of_ble_eq_true rfl) dX7_livingChildrenOf_26 (fun v26 M hp26 => ?_)
      obtain ⟨rfl, rfl⟩ := hp26
      rw [if_pos (show i < _ from hilS)]
      refine zcastS C (hp.per (p := i) (show i < _ from hilS)) rfl hc_X7_128 dX7_livingChildrenOf_29 ?_
      refine zaload_n C dX7_livingChildrenOf_32 rfl ?_
      refine zcallV C (k_isChild hp (show i < _ from hil) hpn hpa) hy_X4_isLivingChildOf hv_X4_isLivingChildOf hl_X7_446 (hp.per (p := i) (show i < _ from hilS)) rfl rfl rfl rfl (by decide) (by decide) (by omega) (by omega) rfl (by exact Nat.le_of_ble_eq_true rfl) dX7_livingChildrenOf_33 (fun v33 M hp33 => ?_)
      obtain ⟨rfl, rfl⟩ := hp33
      refine zif_eq (tgt := 55) C dX7_livingChildrenOf_36 (by decide) (fun h36 => ?_) (fun h36 => ?_)
      · replace h36 := b2i_0.mp h36
        replace h36 : chlK K i p = false := h36
        refine ziinc (L1 := [_, _, _, _]) (v := nI (i + 1)) C dX7_livingChildrenOf_55 rfl (nI_1 i) rfl ?_
        refine zgoto (tgt := 10) C dX7_livingChildrenOf_58 (by decide) ?_
        exact zcg (zwid (by omega) (by omega) (ih (i + 1) (by omega) M ad1 (by rw [hnx, if_neg (by rw [h36]; decide)]; exact hp) hst)) (by simp [zk1])
      · replace h36 := b2i_n0.mp h36
        replace h36 : chlK K i p = true := h36
        refine zaload_n C dX7_livingChildrenOf_39 rfl ?_
        refine zaload_n C dX7_livingChildrenOf_40 rfl ?_
        refine zget C hf_X7_35 hp.main (by rfl) dX7_livingChildrenOf_41 ?_
        refine ziload_n C dX7_livingChildrenOf_44 rfl ?_
        refine zcallV C (q_get i (hp.lq1 (by omega)) (show i < _ from hilS)) hy_Jx4a65c_get_915e3 hv_Jx4a65c_get_915e3 hl_X7_384 (hp.lo1) rfl rfl rfl rfl (by decide) (by decide) (by omega) (by omega) rfl (by exact Nat.le_of_ble_eq_true rfl) dX7_livingChildrenOf_45 (fun v45 M hp45 => ?_)
        obtain ⟨rfl, rfl⟩ := hp45
        rw [if_pos (show i < _ from hilS)]
        refine zcastS C (hp.per (p := i) (show i < _ from hilS)) rfl hc_X7_128 dX7_livingChildrenOf_48 ?_
        refine zaddT C (j := 31) (p := i) (s := chS K p i) hp h33 hwS (by decide) hq (by omega) (fun x hx => Nat.lt_trans (hc2 x hx) hil) hil hl_X7_74 rfl (by decide) (by decide) (by omega) (by omega) (by exact Nat.le_of_ble_eq_true rfl) dX7_livingChildrenOf_51 (fun M ad2 hp hst2 => ?_)
        rw [stl_stl] at hp
        rw [← hst2 (0, 0) (by simp), ← hst2 (10, p) (by simp), ← hst2 (7, 31) (by simp)]
        refine zpop C dX7_livingChildrenOf_54 rfl ?_
        refine ziinc (L1 := [_, _, _, _]) (v := nI (i + 1)) C dX7_livingChildrenOf_55 rfl (nI_1 i) rfl ?_
        refine zgoto (tgt := 10) C dX7_livingChildrenOf_58 (by decide) ?_
        exact zcg (zwid (by omega) (by omega) (ih (i + 1) (by omega) M ad2 (by rw [hnx, if_pos h36]; exact hp) (fun t a b => (hst2 t b).trans (hst t a b)))) (by simp [zk1])
  refine znew C hw_X7_16 rfl (by omega) (by omega) dX7_livingChildrenOf_0 (fun q hq => ?_)
  refine zdup C dX7_livingChildrenOf_3 rfl ?_
  refine zcallI C (l_init zup_same) hy_Jx4a65c_init_da8c8 hi_Jx4a65c_init_da8c8 hl_X7_18 rfl rfl (by decide) (by decide) (by omega) (by omega) rfl (by exact Nat.le_of_ble_eq_true rfl) dX7_livingChildrenOf_4 (fun M2 hp2 => ?_)
  rw [zup_up2] at hp2
  obtain ⟨ad1, hp1, h7q, hst⟩ := hp.newL (M1 := M2) (j := 31) h33 hw (by decide) hnl hq (by rw [hp2]; exact zup_same) (fun z e hz => by rw [hp2, zup_ne (znone hz hq)]; exact hz)
  clear hp2
  rw [← h7q, ← hst (0, 0) (by simp), ← hst (10, p) (by simp)]
  refine zastore_n (L1 := [_, _, _, _]) C dX7_livingChildrenOf_7 rfl (Nat.le_of_ble_eq_true rfl) ?_
  refine zconst (v := 0) C dX7_livingChildrenOf_8 (by decide) ?_
  refine zistore_n (L1 := [_, _, _, _]) C dX7_livingChildrenOf_9 rfl (Nat.le_of_ble_eq_true rfl) ?_
  exact zcg (loop (K.1 13) 0 (by omega) M2 ad1 hp1 (fun t a _ => hst t a)) (by simp [zk1, nI_0])
set_option maxRecDepth 100000 in
set_option maxHeartbeats 1000000 in
theorem k_endMar {g : zGh} {K : zK} {X : zg → Option va_E} {ad : zg → Nat} {M : zM} {p : Nat} (hpn : p < K.1 13) (hp : zP g K X ad M) (h13 : K.1 13 ≤ 40) (h25 : K.1 25 ≤ 30) (h33 : K.1 33 ≤ 20) (hw : iWf K) (hnl : ktl K 30 = none) : zCt g yX7_endMarriagesOf cX7_endMarriagesOf 5 (some (.object "java/util/ArrayList")) 7 171 mkR [.ref (ad (0, 0)), .ref (ad (10, p))] M 41 2700 (fun v M1 => ∃ ad1, v = ad1 (7, 30) ∧ zP g (stl (enK K p (K.1 25)).1 30 (some (tlA (enK K p (K.1 25)).2))) X ad1 M1 ∧ ∀ t : zg, t ≠ (7, 30) → t ≠ (8, 30) → ad1 t = ad t) noX := by
  refine zof [some (.ref (ad (0, 0))), some (.ref (ad (10, p))), none, none, none] (by decide +kernel) rfl rfl (Nat.le_of_ble_eq_true rfl) ?_
  intro Z C hE hnm
  have C : zC g Z RX7 cX7_endMarriagesOf 5 7 171 41 2700 := C
  have hma0 : iMa K := hw.1.1
  have loop : ∀ (r i : Nat), i + r = K.1 25 → ∀ (B : zK) (s : Nat × (Nat → Nat)) (M : zM) (ad1 : zg → Nat), enK K p i = (B, s) → zP g (stl B 30 (some (tlA s))) X ad1 M → (∀ t : zg, t ≠ (7, 30) → t ≠ (8, 30) → ad1 t = ad t) → zG g Z M (1 + i) (3 + 64 * i) 10 [some (.ref (ad1 (0, 0))), some (.ref (ad1 (10, p))), some (.ref (ad1 (7, 30))), some (.int (nI i)), none] [] := by
    intro r
    induction r with
    | zero =>
      intro i hi B s M ad1 hE1 hp hst
      obtain rfl : i = K.1 25 := by omega
      have hfr := (enK_fr p hma0 (K.1 25) (Nat.le_refl _)).1
      rw [hE1] at hfr
      have e25 : B.1 25 = K.1 25 := congrFun hfr.1 25
      have h25b : (stl B 30 (some (tlA s))).1 25 ≤ 30 := by show B.1 25 ≤ 30; omega
      refine ziload_n C dX7_endMarriagesOf_10 rfl ?_
      refine zaload_n C dX7_endMarriagesOf_11 rfl ?_
      refine zget C hf_X7_38 hp.main (by rfl) dX7_endMarriagesOf_12 ?_
      refine zcallV C (q_size (hp.lq2 (by omega))) hy_Jx4a65c_size_8abf5 hv_Jx4a65c_size_8abf5 hl_X7_58 (hp.lo2) rfl rfl rfl rfl (by decide) (by decide) (by omega) (by omega) rfl (by exact Nat.le_of_ble_eq_true rfl) dX7_endMarriagesOf_15 (fun v15 M hp15 => ?_)
      obtain ⟨hv15, rfl⟩ := hp15
      replace hv15 : v15 = nI (K.1 25) := by rw [hv15]; exact congrArg nI e25
      subst hv15
      refine zicmp_ge (tgt := 98) C dX7_endMarriagesOf_18 (by decide) (fun h18 => ?_) (fun h18 => by first | exact absurd (Int32.le_refl _) h18 | exact absurd h18 (Int32.le_refl _))
      refine zaload_n C dX7_endMarriagesOf_98 rfl ?_
      exact zend_r C hE (Or.inl ⟨_, rfl⟩) dX7_endMarriagesOf_99 (by omega) (by omega) ⟨ad1, rfl, by rw [hE1]; exact hp, hst⟩
    | succ r ih =>
      intro i hi B s M ad1 hE1 hp hst
      have hil0 : i < K.1 25 := by omega
      obtain ⟨hfr, hs1, hs2⟩ := enK_fr p hma0 i (by omega)
      rw [hE1] at hfr hs1 hs2
      have hs1 : s.1 ≤ i := hs1
      have e25 : B.1 25 = K.1 25 := congrFun hfr.1 25
      have e13 : B.1 13 = K.1 13 := congrFun hfr.1 13
      have e33 : B.1 33 = K.1 33 := congrFun hfr.1 33
      have hil : i < B.1 25 := by omega
      have hilS : i < (stl B 30 (some (tlA s))).1 25 := hil
      have h25b : (stl B 30 (some (tlA s))).1 25 ≤ 30 := by show B.1 25 ≤ 30; omega
      have hma : iMa B := hfr.iMa hma0
      have hwB : iWf B := hfr.wf hw
      have hpnB : p < B.1 13 := by omega
      have hnx : enK K p (i + 1) = if lasK B i p = true then (if (kma B i).1 = p then (dowK (sma B i (maSt (kma B i) 2)) i, addA s (kma B i).2.1) else (sma B i (maOw (maSt (kma B i) 2) 0), addA s (kma B i).1)) else (B, s) := by rw [enK, hE1]
      have hs3 : ∀ x, x < s.1 → s.2 x < B.1 13 := fun x hx => by rw [e13]; exact hs2 x hx
      refine ziload_n C dX7_endMarriagesOf_10 rfl ?_
      refine zaload_n C dX7_endMarriagesOf_11 rfl ?_
      refine zget C hf_X7_38 hp.main (by rfl) dX7_endMarriagesOf_12 ?_
      refine zcallV C (q_size (hp.lq2 (by omega))) hy_Jx4a65c_size_8abf5 hv_Jx4a65c_size_8abf5 hl_X7_58 (hp.lo2) rfl rfl rfl rfl (by decide) (by decide) (by omega) (by omega) rfl (by exact Nat.le_of_ble_eq_true rfl) dX7_endMarriagesOf_15 (fun v15 M hp15 => ?_)
      obtain ⟨hv15, rfl⟩ := hp15
      replace hv15 : v15 = nI (K.1 25) := by rw [hv15]; exact congrArg nI e25
      subst hv15
      refine zicmp_ge (tgt := 98) C dX7_endMarriagesOf_18 (by decide) (fun h18 => by first | exact absurd h18 (nI_ge hil0 (Nat.lt_of_le_of_lt h25 (by decide))) | exact absurd (nI_ge hil0 (Nat.lt_of_le_of_lt h25 (by decide))) h18) (fun h18 => ?_)
      refine zaload_n C dX7_endMarriagesOf_21 rfl ?_
      refine zget C hf_X7_38 hp.main (by rfl) dX7_endMarriagesOf_22 ?_
      refine ziload_n C dX7_endMarriagesOf_25 rfl ?_
      refine zcallV C (q_get i (hp.lq2 (by omega)) (show i < _ from hilS)) hy_Jx4a65c_get_915e3 hv_Jx4a65c_get_915e3 hl_X7_384 (hp.lo2) rfl rfl rfl rfl (by decide) (by decide) (by omega) (by omega) rfl (by exact Nat.le_of_ble_eq_true rfl) dX7_endMarriagesOf_26 (fun v26 M hp26 => ?_)
      obtain ⟨rfl, rfl⟩ := hp26
      rw [if_pos (show i < _ from hilS)]
      refine zcastS C (hp.mar (m := i) (show i < _ from hilS)) rfl hc_X7_217 dX7_endMarriagesOf_29 ?_
      refine zastore (L1 := [_, _, _, _, _]) C dX7_endMarriagesOf_32 rfl (Nat.le_of_ble_eq_true rfl) ?_
      refine zaload C dX7_endMarriagesOf_34 rfl ?_
      refine zaload_n C dX7_endMarriagesOf_36 rfl ?_
      refine zcallV C (k_lastsFor (K := stl B 30 (some (tlA s))) hp (show i < _ from hil) hpnB hma) hy_X3_lastsFor hv_X3_lastsFor hl_X7_443 (hp.mar (m := i) (show i < _ from hilS)) rfl rfl rfl rfl (by decide) (by decide) (by omega) (by omega) rfl (by exact Nat.le_of_ble_eq_true rfl) dX7_endMarriagesOf_37 (fun v37 M hp37 => ?_)
      obtain ⟨rfl, rfl⟩ := hp37
      refine zif_eq (tgt := 92) C dX7_endMarriagesOf_40 (by decide) (fun h40 => ?_) (fun h40 => ?_)
      · replace h40 := b2i_0.mp h40
        replace h40 : lasK B i p = false := h40
        refine ziinc (L1 := [_, _, _, _, _]) (v := nI (i + 1)) C dX7_endMarriagesOf_92 rfl (nI_1 i) rfl ?_
        refine zgoto (tgt := 10) C dX7_endMarriagesOf_95 (by decide) ?_
        refine zfor [true, true, true, true, false] (L1 := [_, _, _, _, _]) rfl ?_
        exact zcg (zwid (by omega) (by omega) (ih (i + 1) (by omega) B s M ad1 (by rw [hnx, if_neg (by rw [h40]; decide)]) hp hst)) (by simp [zk1])
      · replace h40 := b2i_n0.mp h40
        replace h40 : lasK B i p = true := h40
        refine zaload C dX7_endMarriagesOf_43 rfl ?_
        refine zconst (v := 2) C dX7_endMarriagesOf_45 (by decide) ?_
        refine zput (fs1 := [_, _, _, _, _, _, _]) C hf_X7_226 hp_X3 rfl (hp.mar (m := i) (show i < _ from hilS)) rfl rfl (by exact Nat.le_of_ble_eq_true rfl) (by rfl) dX7_endMarriagesOf_46 ?_
        refine kstep (hp.marV (p := i) (show i < _ from hilS) maSt 2) rfl (fun M hp => ?_)
        replace hp : zP g (stl (sma B i (maSt (kma B i) 2)) 30 (some (tlA s))) X ad1 M := hp
        have hm1 : mfr B (sma B i (maSt (kma B i) 2)) := mfr.ma ⟨rfl, rfl, rfl⟩
        have hma1 := hm1.iMa hma
        refine zaload C dX7_endMarriagesOf_49 rfl ?_
        refine zget C hf_X7_237 (hp.mar (m := i) (show i < _ from hil)) (by rfl) dX7_endMarriagesOf_51 ?_
        refine zcg ?_ rfl (congrArg (fun z => (.ref (ad1 (10, z)) :: _ : List Value)) (show (kma (sma B i (maSt (kma B i) 2)) i).1 = (kma B i).1 by rw [kma_s]; rfl))
        refine zaload_n C dX7_endMarriagesOf_54 rfl ?_
        refine zacmp_ne (tgt := 76) C dX7_endMarriagesOf_55 (by decide) (show va_rf (some (ad1 (10, (kma B i).1))) = _ from rfl) (show va_rf (some (ad1 (10, p))) = _ from rfl) (fun h55 => ?_) (fun h55 => ?_)
        · replace h55 : ¬ (kma B i).1 = p := fun e => h55 (by rw [e])
          refine zaload C dX7_endMarriagesOf_76 rfl ?_
          refine zconst (v := 0) C dX7_endMarriagesOf_78 (by decide) ?_
          refine zput (fs1 := [_, _, _, _, _, _, _]) C hf_X7_382 hp_X3 rfl (hp.mar (m := i) (show i < _ from hilS)) rfl rfl (by exact Nat.le_of_ble_eq_true rfl) (by rfl) dX7_endMarriagesOf_79 ?_
          refine kstep (hp.marV (p := i) (show i < _ from hilS) maOw 0) rfl (fun M hp => ?_)
          rw [show sma (stl (sma B i (maSt (kma B i) 2)) 30 (some (tlA s))) i (maOw (kma (stl (sma B i (maSt (kma B i) 2)) 30 (some (tlA s))) i) 0) = stl (sma B i (maOw (maSt (kma B i) 2) 0)) 30 (some (tlA s)) from by rw [show kma (stl (sma B i (maSt (kma B i) 2)) 30 (some (tlA s))) i = maSt (kma B i) 2 from kma_s]; show stl (sma (sma B i _) i _) 30 _ = _; rw [sma_sma]] at hp
          have hm2 : mfr B (sma B i (maOw (maSt (kma B i) 2) 0)) := mfr.ma ⟨rfl, rfl, rfl⟩
          refine zaload_n C dX7_endMarriagesOf_82 rfl ?_
          refine zaload C dX7_endMarriagesOf_83 rfl ?_
          refine zget C hf_X7_237 (hp.mar (m := i) (show i < _ from hil)) (by rfl) dX7_endMarriagesOf_85 ?_
          refine zcg ?_ rfl (congrArg (fun z => (.ref (ad1 (10, z)) :: _ : List Value)) (show (kma (sma B i (maOw (maSt (kma B i) 2) 0)) i).1 = (kma B i).1 by rw [kma_s]; rfl))
          refine zaddT C (j := 30) (p := (kma B i).1) (s := s) hp (by show B.1 33 ≤ 20; omega) (iWf_stl (hm2.wf hwB) hs3) (by decide) ktl_s (by omega) hs3 (hma i hil).1 hl_X7_74 rfl (by decide) (by decide) (by omega) (by omega) (by exact Nat.le_of_ble_eq_true rfl) dX7_endMarriagesOf_88 (fun M ad2 hp hst2 => ?_)
          rw [stl_stl] at hp
          rw [← hst2 (0, 0) (by simp), ← hst2 (10, p) (by simp), ← hst2 (7, 30) (by simp)]
          refine zpop C dX7_endMarriagesOf_91 rfl ?_
          refine ziinc (L1 := [_, _, _, _, _]) (v := nI (i + 1)) C dX7_endMarriagesOf_92 rfl (nI_1 i) rfl ?_
          refine zgoto (tgt := 10) C dX7_endMarriagesOf_95 (by decide) ?_
          refine zfor [true, true, true, true, false] (L1 := [_, _, _, _, _]) rfl ?_
          exact zcg (zwid (by omega) (by omega) (ih (i + 1) (by omega) _ _ M ad2 (by rw [hnx, if_pos h40, if_neg h55]) hp (fun t a b => (hst2 t b).trans (hst t a b)))) (by simp [zk1])
        · replace h55 : (kma B i).1 = p := (hp.per_inj (show (kma B i).1 < B.1 13 from (hma i hil).1) hpnB).mp (Option.some.inj h55)
          refine zaload C dX7_endMarriagesOf_58 rfl ?_
          refine zcallV C (k_payDower hp (show i < _ from hil) hma1) hy_X3_payDower hv_X3_payDower hl_X7_248 (hp.mar (m := i) (show i < _ from hilS)) rfl rfl rfl rfl (by decide) (by decide) (by omega) (by omega) rfl (by exact Nat.le_of_ble_eq_true rfl) dX7_endMarriagesOf_60 (fun v60 M hp => ?_)
          replace hp : zP g (stl (dowK (sma B i (maSt (kma B i) 2)) i) 30 (some (tlA s))) X ad1 M := hp
          have hm2 : mfr B (dowK (sma B i (maSt (kma B i) 2)) i) := hm1.trans (dowK_mfr (hma1 i hil).2.2)
          refine zaload_n C dX7_endMarriagesOf_63 rfl ?_
          refine zaload C dX7_endMarriagesOf_64 rfl ?_
          refine zget C hf_X7_241 (hp.mar (m := i) (show i < _ from hil)) (by rfl) dX7_endMarriagesOf_66 ?_
          refine zcg ?_ rfl (congrArg (fun z => (.ref (ad1 (10, z)) :: _ : List Value)) (show (kma (dowK (sma B i (maSt (kma B i) 2)) i) i).2.1 = (kma B i).2.1 by unfold dowK; rw [kma_s]; show (kma (sma B i (maSt (kma B i) 2)) i).2.1 = _; rw [kma_s]; rfl))
          refine zaddT C (j := 30) (p := (kma B i).2.1) (s := s) hp (by show B.1 33 ≤ 20; omega) (iWf_stl (hm2.wf hwB) hs3) (by decide) ktl_s (by omega) hs3 (hma i hil).2.1 hl_X7_74 rfl (by decide) (by decide) (by omega) (by omega) (by exact Nat.le_of_ble_eq_true rfl) dX7_endMarriagesOf_69 (fun M ad2 hp hst2 => ?_)
          rw [stl_stl] at hp
          rw [← hst2 (0, 0) (by simp), ← hst2 (10, p) (by simp), ← hst2 (7, 30) (by simp)]
          refine zpop C dX7_endMarriagesOf_72 rfl ?_
          refine zgoto (tgt := 92) C dX7_endMarriagesOf_73 (by decide) ?_
          refine ziinc (L1 := [_, _, _, _, _]) (v := nI (i + 1)) C dX7_endMarriagesOf_92 rfl (nI_1 i) rfl ?_
          refine zgoto (tgt := 10) C dX7_endMarriagesOf_95 (by decide) ?_
          refine zfor [true, true, true, true, false] (L1 := [_, _, _, _, _]) rfl ?_
          exact zcg (zwid (by omega) (by omega) (ih (i + 1) (by omega) _ _ M ad2 (by rw [hnx, if_pos h40, if_pos h55]) hp (fun t a b => (hst2 t b).trans (hst t a b)))) (by simp [zk1])
  refine znew C hw_X7_16 rfl (by omega) (by omega) dX7_endMarriagesOf_0 (fun q hq => ?_)
  refine zdup C dX7_endMarriagesOf_3 rfl ?_
  refine zcallI C (l_init zup_same) hy_Jx4a65c_init_da8c8 hi_Jx4a65c_init_da8c8 hl_X7_18 rfl rfl (by decide) (by decide) (by omega) (by omega) rfl (by exact Nat.le_of_ble_eq_true rfl) dX7_endMarriagesOf_4 (fun M2 hp2 => ?_)
  rw [zup_up2] at hp2
  obtain ⟨ad1, hp1, h7q, hst⟩ := hp.newL (M1 := M2) (j := 30) h33 hw (by decide) hnl hq (by rw [hp2]; exact zup_same) (fun z e hz => by rw [hp2, zup_ne (znone hz hq)]; exact hz)
  clear hp2
  rw [← h7q, ← hst (0, 0) (by simp), ← hst (10, p) (by simp)]
  refine zastore_n (L1 := [_, _, _, _, _]) C dX7_endMarriagesOf_7 rfl (Nat.le_of_ble_eq_true rfl) ?_
  refine zconst (v := 0) C dX7_endMarriagesOf_8 (by decide) ?_
  refine zistore_n (L1 := [_, _, _, _, _]) C dX7_endMarriagesOf_9 rfl (Nat.le_of_ble_eq_true rfl) ?_
  exact zcg (loop (K.1 25) 0 (by omega) K (0, fun _ => 0) M2 ad1 rfl hp1 (fun t a _ => hst t a)) (by simp [zk1, nI_0])
