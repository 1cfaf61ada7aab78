/-! what is decreed as it is changes nothing -/
def T30 (n : Nat) (B : Int) (Ko Kp : zK) : Prop := (∃ S, tie2 n Ko S ∧ tie2 n Kp S) ∧ iJ B Ko ∧ iJ B Kp ∧ B ≤ 1000000 * n
section QUI
variable {n : Nat} {B : Int} {K Ko Kp K1 : zK} {S : zS}
theorem tell_chN {c : zCh} {td x : Int32} : chN (tellS c td x) = x := by
  unfold tellS
  split
  · exact pk_us
  · split
    · exact pk_us
    · exact pk_us
theorem tell_V {c : zCh} {td x : Int32} : chV (tellS c td x) td = x := (chV_new (by rw [tell_new]; exact Int32.le_refl _)).trans tell_chN
theorem upd_twice (f : Nat → Int32) (k : Nat) (x y : Int32) : upd (upd f k x) k y = upd f k y := by
  funext q
  by_cases e : q = k
  · subst e; rw [pk_us, pk_us]
  · rw [pk_un e, pk_un e, pk_un e]
theorem tell_tell {c : zCh} {td x y : Int32} : tellS (tellS c td x) td y = tellS c td y := by
  have h1 : (tellS c td x).2.2.1 (tellS c td x).2.1 = td := tell_new
  have e : tellS (tellS c td x) td y = ((tellS c td x).1, (tellS c td x).2.1, (tellS c td x).2.2.1, upd (tellS c td x).2.2.2 (tellS c td x).2.1 y) := if_pos h1
  rw [e]
  clear h1 e
  unfold tellS
  split
  · show (c.1, c.2.1, c.2.2.1, upd (upd c.2.2.2 c.2.1 x) c.2.1 y) = _
    rw [upd_twice]
  · split
    · show (c.1, c.2.1 + 1, _, upd (upd c.2.2.2 (c.2.1 + 1) x) (c.2.1 + 1) y) = _
      rw [upd_twice]
    · show (2 * (c.2.1 + 1), c.2.1 + 1, _, upd (upd (ext (c.2.1 + 1) c.2.2.2) (c.2.1 + 1) x) (c.2.1 + 1) y) = _
      rw [upd_twice]
theorem rec_rec (K : zK) (c : Int32) (on was : Bool) : k_recognise (k_recognise K c on) c was = k_recognise K c was := by
  unfold k_recognise
  show (K.1, K.2.1, va_up (va_up (kch K) (rch c.toNatClampNeg) _) (rch c.toNatClampNeg) (tellS (va_up (kch K) (rch c.toNatClampNeg) (tellS (kch K (rch c.toNatClampNeg)) (nI (K.1 1)) (b2i on)) (rch c.toNatClampNeg)) (nI (K.1 1)) (b2i was)), K.2.2.2) = (K.1, K.2.1, va_up (kch K) (rch c.toNatClampNeg) _, K.2.2.2)
  rw [up_eq, up2, tell_tell]
theorem T30.up (h : T30 n B Ko Kp) (hn : n < 512) : T30 (n + 1) B Ko Kp := by
  obtain ⟨⟨S, h1, h2⟩, h3, h4, h5⟩ := h
  exact ⟨⟨S, ⟨h1.1.up hn, h1.2⟩, h2.1.up hn, h2.2⟩, h3, h4, by omega⟩
theorem T30.sym (h : T30 n B Ko Kp) : T30 n B Kp Ko := by
  obtain ⟨⟨S, h1, h2⟩, h3, h4, h5⟩ := h
  exact ⟨⟨S, h2, h1⟩, h4, h3, h5⟩
theorem T30.cnt (h : T30 n B Ko Kp) : ∀ i, i = 1 ∨ i = 2 ∨ i = 13 → Ko.1 i = Kp.1 i := by
  obtain ⟨⟨S, h1, h2⟩, -⟩ := h
  obtain ⟨a1, a2, -, -, a5, -⟩ := h1.1.N
  obtain ⟨b1, b2, -, -, b5, -⟩ := h2.1.N
  intro i hi
  rcases hi with rfl | rfl | rfl
  · exact a1.trans b1.symm
  · exact a2.trans b2.symm
  · exact a5.trans b5.symm
theorem T30.call (h : T30 n B Ko Kp) (hn : n < 512) (j : Nat) (a b c d : Int32) (hj : j ≤ 24) : (dX Ko j a b c d = 0 → dX Kp j a b c d = 0 ∧ dA Ko j a b c d = dA Kp j a b c d ∧ T30 (n + 1) (B + gdI j b) (dK Ko j a b c d) (dK Kp j a b c d) ∧ (cF Ko ≤ cF (dK Ko j a b c d) ∧ cF Kp ≤ cF (dK Kp j a b c d)) ∧ keeps n B Ko j a b c d) ∧ (¬ dX Ko j a b c d = 0 → ¬ dX Kp j a b c d = 0) := by
  obtain ⟨⟨S, h1, h2⟩, h3, h4, h5⟩ := h
  have q := pcall h1 h2 hn j a b c d hj
  refine ⟨fun hx => ?_, q.2⟩
  obtain ⟨x2, e, ⟨S1, t1, t2⟩, f1, f2⟩ := q.1 hx
  have k1 := jcall h3 h1 h5 j a b c d hj hx
  have k2 := jcall h4 h2 h5 j a b c d hj x2
  exact ⟨x2, e, ⟨⟨S1, t1, t2⟩, k1.1, k2.1, by have := k1.2.1; omega⟩, ⟨f1, f2⟩, k1⟩
theorem T30.ok (h : T30 n B Ko Kp) : zOk Ko ∧ zOk Kp := by
  obtain ⟨⟨S, h1, h2⟩, -⟩ := h
  exact ⟨h1.1.ok.1, h2.1.ok.1⟩
/-- what is asked in isQuiet is there -/
theorem q_law (hb : K.1 2 ≤ 6) {l w : Nat} (hl : l ≤ K.1 2) (hw : w < 7) (h1 : K.1 1 ≤ 30000) : x_law K (lcode l) (nI w) (nI (K.1 1)) = 0 := by
  have e1 : okK K (lcode l) = true := by
    unfold okK lcode
    by_cases e : l = 0
    · rw [if_pos e]; rfl
    · rw [if_neg e, zix_t (by omega) (by omega), Bool.or_true]
  have e2 : wthn (nI w) 0 6 = true := by
    unfold wthn
    rw [Bool.and_eq_true, decide_eq_true_eq, decide_eq_true_eq]
    exact ⟨ge_i (n := 0) (Nat.zero_le _) (by omega), ge_i (i := 6) (n := w) (by omega) (by decide)⟩
  have e3 : wthn (nI (K.1 1)) 0 (nI (K.1 1)) = true := by
    unfold wthn
    rw [Bool.and_eq_true, decide_eq_true_eq, decide_eq_true_eq]
    exact ⟨ge_i (n := 0) (Nat.zero_le _) (by omega), Int32.le_refl _⟩
  unfold x_law
  rw [e1, e2, e3]
  rfl
theorem q_birth (ht : tie n K S) {p : Nat} (hp : p < K.1 13) : ∃ b, b ≤ K.1 1 ∧ (kpe K p).2.2.2.1 = nI b := by
  obtain ⟨b, b1, b2, -⟩ := ht.P.2.1 p hp
  exact ⟨b, b1, b2⟩
theorem q_court (ht : tie n K S) {m p q : Nat} (hm : m < 4) (hp : p < K.1 13) (hq : q < K.1 13) : x_court K (nI m) (nI p) (nI q) (nI (K.1 1)) = 0 := by
  have hb1 := ht.bd.1
  have hb5 := ht.bd.2.2.2.2.1
  obtain ⟨b, b1, b2⟩ := q_birth ht hp
  obtain ⟨c, c1, c2⟩ := q_birth ht hq
  have e2 : wthn (nI m) 0 3 = true := by
    unfold wthn
    rw [Bool.and_eq_true, decide_eq_true_eq, decide_eq_true_eq]
    exact ⟨ge_i (n := 0) (Nat.zero_le _) (by omega), ge_i (i := 3) (n := m) (by omega) (by decide)⟩
  have e3 : wthn (nI (K.1 1)) (maxB K p q) (nI (K.1 1)) = true := by
    unfold wthn
    rw [Bool.and_eq_true, decide_eq_true_eq, decide_eq_true_eq]
    refine ⟨?_, Int32.le_refl _⟩
    unfold maxB
    split
    · rw [c2]; exact ge_i c1 (by omega)
    · rw [b2]; exact ge_i b1 (by omega)
  unfold x_court
  rw [zix_t hp (by omega), zix_t hq (by omega), nI_clamp (by omega), nI_clamp (by omega), e2, e3]
  rfl
theorem q_faith (ht : tie n K S) {p : Nat} (hp : p < K.1 13) : x_faith K (nI p) (nI (K.1 1)) = 0 := by
  have hb1 := ht.bd.1
  have hb5 := ht.bd.2.2.2.2.1
  obtain ⟨b, b1, b2⟩ := q_birth ht hp
  unfold x_faith
  rw [zix_t hp (by omega), nI_clamp (by omega), b2]
  have e3 : wthn (nI (K.1 1)) (nI b) (nI (K.1 1)) = true := by
    unfold wthn
    rw [Bool.and_eq_true, decide_eq_true_eq, decide_eq_true_eq]
    exact ⟨ge_i b1 (by omega), Int32.le_refl _⟩
  rw [e3]
  rfl
theorem q_rec {c : Nat} (hb : K.1 2 ≤ 6) (hc : c < K.1 2) : x_recognise K (nI c) = 0 := by
  unfold x_recognise
  rw [zix_t hc (by omega)]
  rfl
/-- recognition on today is the newest one, 0 or 1 -/
theorem q_new (ht : tie n K S) {c : Nat} (hc : c < K.1 2) : recK K c (nI (K.1 1)) = chN (kch K (rch c)) ∧ b2i (decide (chN (kch K (rch c)) = 1)) = chN (kch K (rch c)) := by
  have hb1 := ht.bd.1
  obtain ⟨f0, t, h1, h2, h3, h4, h5⟩ := ht.C.2.2.1 c hc
  have e1 : recK K c (nI (K.1 1)) = chN (kch K (rch c)) := chV_new (by rw [h4]; exact ge_i h2 (by omega))
  have e2 := h5 (K.1 1) (by omega) hb1
  have e2 : recK K c (nI (K.1 1)) = _ := e2
  refine ⟨e1, ?_⟩
  rw [← e1, e2]
  cases bt (S.2.2.1 3 (938 * c + K.1 1 / 32)) (K.1 1 % 32) <;> rfl
/-- courts do not change -/
theorem q_crt {m p q : Nat} {d : Int32} (hm : kch K1 m = kch K m) (hp : kch K1 (100 + p) = kch K (100 + p)) (hq : kch K1 (100 + q) = kch K (100 + q)) (hr : ∀ v, recK K1 v d = recK K v d) : crtK K1 m p q d = crtK K m p q d := by
  unfold crtK ruleK faithK
  rw [hm, hp, hq]
  unfold crtF
  rw [hr]
theorem q_crtf {m p q : Nat} {d : Int32} (h : ¬ crtK K m p q d < 0) : faithK K p d = crtK K m p q d ∨ faithK K q d = crtK K m p q d := by
  unfold crtK crtF at *
  have hneg : ((-1 : Int32) < 0) := by decide
  by_cases e1 : fthR (ruleK K m d) (faithK K p d) (faithK K q d) = -1
  · rw [if_pos e1] at h; exact absurd hneg h
  · rw [if_neg e1] at h ⊢
    by_cases e2 : recK K (fthR (ruleK K m d) (faithK K p d) (faithK K q d)).toNatClampNeg d = 0
    · rw [if_pos e2] at h; exact absurd hneg h
    · rw [if_neg e2]
      unfold fthR at *
      split
      · exact Or.inl rfl
      · split
        · exact Or.inr rfl
        · split
          · split
            · exact Or.inl rfl
            · rename_i a1 a2 a3 a4
              rw [if_neg a1, if_neg a2, if_pos a3, if_neg a4] at e1; exact absurd rfl e1
          · rename_i a1 a2 a3
            rw [if_neg a1, if_neg a2, if_neg a3] at e1; exact absurd rfl e1
theorem q_W (v : Int32) : ∃ l, l < 5 ∧ qW v = lcode l := by
  obtain ⟨j, j1, j2⟩ := low_ex v (n := 5) (by decide) (by decide)
  refine ⟨j, j1, ?_⟩
  have j2 : lowI v 5 = nI j := j2
  unfold qW lcode
  rw [j2]
  by_cases e : j = 0
  · rw [e, if_pos rfl]; rfl
  · rw [if_neg e]
    exact nI_subN (b := 1) (by omega) (by omega)
set_option maxHeartbeats 1000000 in
theorem quiet_of (h : T30 n B Ko Kp) (hn : n + 2 ≤ 512) (h4 : 4 ≤ Ko.1 2) (h8 : 8 ≤ Ko.1 13) (v : Int32) : qF Ko Kp (nI (Ko.1 1)) v ∧ ∃ K3 K4, K3 = k_recognise (k_recognise (qK Ko (nI (Ko.1 1)) v) (qC v) true) (qC v) (a_recognise (qK Ko (nI (Ko.1 1)) v) (qC v)) ∧ K4 = k_recognise (dS Kp 2 (qW v) (qN v) (a_law Ko (qW v) (qN v) (nI (Ko.1 1))) 0) (qC v) (a_recognise (qK Ko (nI (Ko.1 1)) v) (qC v)) ∧ T30 (n + 2) B K3 K4 ∧ cF Ko ≤ cF K3 ∧ cF Kp ≤ cF K4 ∧ K3.1 1 = Ko.1 1 ∧ Ko.1 2 ≤ K3.1 2 ∧ Ko.1 13 ≤ K3.1 13 := by
  have hok := h.ok
  have hto := h.1
  obtain ⟨S, ho, hp2⟩ := hto
  have hb1 := ho.1.bd.1
  have hb2 := ho.1.bd.2.1
  have hb5 := ho.1.bd.2.2.2.2.1
  obtain ⟨l, l5, eW⟩ := q_W v
  obtain ⟨w, w7, eN⟩ := low_ex (v >>> ((3 : Int32) &&& 31)) (n := 7) (by decide) (by decide)
  obtain ⟨m, m4, eM⟩ := low_ex (v >>> ((2 : Int32) &&& 31)) (n := 4) (by decide) (by decide)
  obtain ⟨p, p8, eP⟩ := low_ex (v >>> ((4 : Int32) &&& 31)) (n := 8) (by decide) (by decide)
  obtain ⟨o, o8, eO⟩ := low_ex (v >>> ((5 : Int32) &&& 31)) (n := 8) (by decide) (by decide)
  obtain ⟨c, c4, eC⟩ := low_ex (v >>> ((3 : Int32) &&& 31)) (n := 4) (by decide) (by decide)
  have eN : qN v = nI w := eN
  have eM : qM v = nI m := eM
  have eP : qP v = nI p := eP
  have eO : qO v = nI o := eO
  have eC : qC v = nI c := eC
  unfold qK qF
  rw [eW, eN, eM, eP, eO, eC]
  clear eW eN eM eP eO eC
  have hll : lixN (lcode l) = l := lixN_l (by omega)
  -- the number
  have hnum : ∀ (A : zK) (d : Int32), a_law A (lcode l) (nI w) d = lawK A l w d := fun A d => by
    unfold a_law
    rw [hll, nI_clamp (by omega)]
  have hcrt : ∀ (A : zK) (d : Int32), a_court A (nI m) (nI p) (nI o) d = crtK A m p o d := fun A d => by
    unfold a_court
    rw [nI_clamp (by omega), nI_clamp (by omega), nI_clamp (by omega)]
  have hfai : ∀ (A : zK) (q : Nat) (d : Int32), q < 8 → a_faith A (nI q) d = faithK A q d := fun A q d hq => by
    unfold a_faith
    rw [nI_clamp (by omega)]
  have harec : ∀ (A : zK), a_recognise A (nI c) = decide (chN (kch A (rch c)) = 1) := fun A => by
    unfold a_recognise
    rw [nI_clamp (by omega)]
  generalize hgn : a_law Ko (lcode l) (nI w) (nI (Ko.1 1)) = num
  have hgn2 : lawK Ko l w (nI (Ko.1 1)) = num := (hnum Ko _).symm.trans hgn
  -- the decree
  have hc := h.call (by omega) 2 (lcode l) (nI w) num 0 (by decide)
  have hdec : ∃ Ko1 Kp1, Ko1 = dS Ko 2 (lcode l) (nI w) num 0 ∧ Kp1 = dS Kp 2 (lcode l) (nI w) num 0 ∧ T30 (n + 1) B Ko1 Kp1 ∧ cF Ko ≤ cF Ko1 ∧ cF Kp ≤ cF Kp1 ∧ Ko1.1 1 = Ko.1 1 ∧ Ko.1 2 ≤ Ko1.1 2 ∧ Ko.1 13 ≤ Ko1.1 13 ∧ (∀ i, i < 4 ∨ 100 ≤ i → kch Ko1 i = kch Ko i) ∧ (∀ u, kch Ko1 (rch u) = kch Ko (rch u)) ∧ lawK Ko1 l w (nI (Ko.1 1)) = num ∧ (dR Ko 2 (lcode l) (nI w) num 0 = num.toInt64 ∨ dR Ko 2 (lcode l) (nI w) num 0 = -2100000000) ∧ dR Kp 2 (lcode l) (nI w) num 0 = dR Ko 2 (lcode l) (nI w) num 0 := by
    by_cases hx : dX Ko 2 (lcode l) (nI w) num 0 = 0
    · obtain ⟨x2, e, t, ⟨f1, f2⟩, k⟩ := hc.1 hx
      obtain ⟨-, -, -, k4, k5, k6, -⟩ := k
      have eg : gdI 2 (nI w) = 0 := rfl
      rw [eg, Int.add_zero] at t
      have ek : dK Ko 2 (lcode l) (nI w) num 0 = k_decree Ko (lcode l) (nI w) num := rfl
      have ech : ∀ i, kch (dK Ko 2 (lcode l) (nI w) num 0) i = va_up (kch Ko) (lch l w) (tellS (kch Ko (lch l w)) (nI (Ko.1 1)) num) i := fun i => by
        show va_up (kch Ko) (lch (lixN (lcode l)) (nI w).toNatClampNeg) (tellS (kch Ko (lch (lixN (lcode l)) (nI w).toNatClampNeg)) (nI (Ko.1 1)) num) i = _
        rw [hll, nI_clamp (by omega)]
      have eA : dA Ko 2 (lcode l) (nI w) num 0 = num.toInt64 := by
        show (lawK Ko (lixN (lcode l)) (nI w).toNatClampNeg (nI (Ko.1 1))).toInt64 = _
        rw [hll, nI_clamp (by omega), hgn2]
      refine ⟨_, _, rfl, rfl, ?_⟩
      rw [dS_of hx, dS_of x2, dR_of hx, dR_of x2]
      refine ⟨t, f1, f2, k4 (by decide), k5, k6, fun i hi => ?_, fun u => ?_, ?_, Or.inl eA, e.symm⟩
      · rw [ech]; exact up_ne (by unfold lch; omega)
      · rw [ech]; exact up_ne (by unfold lch rch; omega)
      · unfold lawK
        rw [ech, up_eq]
        exact tell_V
    · have x2 := hc.2 hx
      refine ⟨_, _, rfl, rfl, ?_⟩
      rw [dS_no hx, dS_no x2, dR_no hx, dR_no x2]
      exact ⟨h.up (by omega), Nat.le_refl _, Nat.le_refl _, rfl, Nat.le_refl _, Nat.le_refl _, fun _ _ => rfl, fun _ => rfl, hgn2, Or.inr rfl, rfl⟩
  obtain ⟨Ko1, Kp1, eo1, ep1, hT1, f1, f2, t1, t2, t13, hch, hrc, hnum1, hr1, hr2⟩ := hdec
  rw [← eo1, ← ep1]
  have hok1 := hT1.ok
  have hto1 := hT1.1
  obtain ⟨S1, ho1, hp1⟩ := hto1
  have hc1 : c < Ko1.1 2 := by omega
  have hb21 := ho1.1.bd.2.1
  have hcp := hT1.cnt 2 (by decide)
  have hx4 := q_rec hb21 hc1
  have hx6 : x_recognise Kp1 (nI c) = 0 := q_rec (by omega) (by omega)
  -- recognised as it was
  have hre := fun q : Bool => (hT1.call (by omega) 1 (nI c) (b2i q) 0 0 (by decide)).1 hx4
  have hdb : ∀ q : Bool, decide (b2i q = 1) = q := fun q => by cases q <;> rfl
  have hre2 : ∀ q : Bool, T30 (n + 2) B (k_recognise Ko1 (nI c) q) (k_recognise Kp1 (nI c) q) ∧ cF Ko1 ≤ cF (k_recognise Ko1 (nI c) q) ∧ cF Kp1 ≤ cF (k_recognise Kp1 (nI c) q) := fun q => by
    obtain ⟨-, -, t, ⟨g1, g2⟩, -⟩ := hre q
    have eg : gdI 1 (b2i q) = 0 := rfl
    rw [eg, Int.add_zero] at t
    have e1 : dK Ko1 1 (nI c) (b2i q) 0 0 = k_recognise Ko1 (nI c) q := by show k_recognise Ko1 (nI c) (decide (b2i q = 1)) = _; rw [hdb]
    have e2 : dK Kp1 1 (nI c) (b2i q) 0 0 = k_recognise Kp1 (nI c) q := by show k_recognise Kp1 (nI c) (decide (b2i q = 1)) = _; rw [hdb]
    rw [e1, e2] at t
    rw [e1] at g1
    rw [e2] at g2
    exact ⟨t, g1, g2⟩
  have hwas : a_recognise Kp1 (nI c) = a_recognise Ko1 (nI c) := by
    have e := (hre true).2.1
    have e : (b2i (a_recognise Ko1 (nI c))).toInt64 = (b2i (a_recognise Kp1 (nI c))).toInt64 := e
    cases h1 : a_recognise Ko1 (nI c) <;> cases h2 : a_recognise Kp1 (nI c) <;> rw [h1, h2] at e <;> first | rfl | exact absurd e (by decide)
  obtain ⟨hTt, -, -⟩ := hre2 true
  obtain ⟨hT3, g1, g2⟩ := hre2 (a_recognise Ko1 (nI c))
  have hoks := hTt.ok
  have hok3 := hT3.ok
  have e3 : k_recognise (k_recognise Ko1 (nI c) true) (nI c) (a_recognise Ko1 (nI c)) = k_recognise Ko1 (nI c) (a_recognise Ko1 (nI c)) := rec_rec _ _ _ _
  have hto3 := hT3.1
  obtain ⟨S3, ho3, -⟩ := hto3
  have k31 : (k_recognise Ko1 (nI c) (a_recognise Ko1 (nI c))).1 = Ko1.1 := rfl
  have hch3 : ∀ i, kch (k_recognise Ko1 (nI c) (a_recognise Ko1 (nI c))) i = va_up (kch Ko1) (rch c) (tellS (kch Ko1 (rch c)) (nI (Ko1.1 1)) (b2i (a_recognise Ko1 (nI c)))) i := fun i => by
    show va_up (kch Ko1) (rch (nI c).toNatClampNeg) (tellS (kch Ko1 (rch (nI c).toNatClampNeg)) (nI (Ko1.1 1)) (b2i (a_recognise Ko1 (nI c)))) i = _
    rw [nI_clamp (by omega)]
  have hcrt3 : crtK (k_recognise Ko1 (nI c) (a_recognise Ko1 (nI c))) m p o (nI (Ko.1 1)) = crtK Ko m p o (nI (Ko.1 1)) := by
    refine q_crt ?_ ?_ ?_ (fun u => ?_)
    · rw [hch3, up_ne (by unfold rch; omega)]; exact hch m (Or.inl m4)
    · rw [hch3, up_ne (by unfold rch; omega)]; exact hch _ (Or.inr (by omega))
    · rw [hch3, up_ne (by unfold rch; omega)]; exact hch _ (Or.inr (by omega))
    · unfold recK
      rw [hch3]
      by_cases e : u = c
      · subst e
        rw [up_eq, ← t1, tell_V, harec]
        obtain ⟨q1, q2⟩ := q_new ho1.1 hc1
        rw [q2, ← q1, t1]
        unfold recK
        rw [hrc]
      · rw [up_ne (by unfold rch; omega), hrc]
  have hfai3 : ∀ q, q < 8 → faithK (k_recognise Ko1 (nI c) (a_recognise Ko1 (nI c))) q (nI (Ko.1 1)) = faithK Ko q (nI (Ko.1 1)) := fun q hq => by
    unfold faithK
    rw [hch3, up_ne (by unfold rch; omega), hch _ (Or.inr (by omega))]
  have hxc3 := q_court ho3.1 (m := m) (p := p) (q := o) m4 (by rw [k31]; omega) (by rw [k31]; omega)
  rw [k31, t1] at hxc3
  have hxf3 : ∀ q, q < 8 → x_faith (k_recognise Ko1 (nI c) (a_recognise Ko1 (nI c))) (nI q) (nI (Ko.1 1)) = 0 := fun q hq => by
    have := q_faith ho3.1 (p := q) (by rw [k31]; omega)
    rw [k31, t1] at this
    exact this
  have hxl1 := q_law hb21 (l := l) (w := w) (by omega) w7 ho1.1.bd.1
  rw [t1] at hxl1
  refine ⟨⟨hok, q_law hb2 (by omega) w7 hb1, q_court ho.1 m4 (by omega) (by omega), hr1, hr2, Ko1, Kp1, rfl, rfl, hok1, ⟨hxl1, (hnum Ko1 _).trans hnum1⟩, hx4, ⟨hoks.1, ?_, ?_⟩, ⟨hx6, hwas⟩, _, rfl, ?_, ⟨?_, ?_⟩, fun hneg => ⟨⟨?_, ?_⟩, ?_⟩, trivial⟩, _, _, rfl, rfl, ?_⟩
  · exact q_rec (K := k_recognise Ko1 (nI c) true) hb21 hc1
  · rw [harec]
    have : kch (k_recognise Ko1 (nI c) true) (rch c) = tellS (kch Ko1 (rch c)) (nI (Ko1.1 1)) (b2i true) := by
      show va_up (kch Ko1) (rch (nI c).toNatClampNeg) (tellS (kch Ko1 (rch (nI c).toNatClampNeg)) (nI (Ko1.1 1)) (b2i true)) (rch c) = _
      rw [nI_clamp (by omega), up_eq]
    rw [this, tell_chN]
    rfl
  · rw [e3]; exact hok3.1
  · rw [e3]; exact hxc3
  · rw [e3, hcrt, hcrt]; exact hcrt3
  · rw [e3]; exact hxf3 p p8
  · rw [e3]; exact hxf3 o o8
  · rw [e3, hcrt, hfai _ _ _ p8, hfai _ _ _ o8, hfai3 p p8, hfai3 o o8]
    rw [hcrt] at hneg
    exact q_crtf hneg
  · rw [e3]
    exact ⟨hT3, by omega, by omega, t1, t2, t13⟩
end QUI
