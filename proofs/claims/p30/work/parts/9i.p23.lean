/-! pass: one person's turn within a day -/
section TIE23
variable {n : Nat} {K K1 K2 K3 : zK} {S S1 T S3 : zS}
theorem clrK_eq (K : zK) : ∀ m, ∃ g, clrK K m = (K.1, K.2.1, K.2.2.1, g, K.2.2.2.2) ∧ ∀ q, g q = if q < m then peLea (kpe K q) 0 else kpe K q
  | 0 => ⟨kpe K, rfl, fun q => rfl⟩
  | m + 1 => by
    obtain ⟨g, g1, g2⟩ := clrK_eq K m
    refine ⟨va_up g m (peLea (g m) 0), ?_, fun q => ?_⟩
    · show spe (clrK K m) m (peLea (kpe (clrK K m) m) 0) = _
      rw [g1]; rfl
    · by_cases e : q = m
      · subst e; rw [up_eq, if_pos (Nat.lt_succ_self q), g2, if_neg (Nat.lt_irrefl q)]
      · rw [up_ne e, g2]
        by_cases e2 : q < m
        · rw [if_pos e2, if_pos (by omega)]
        · rw [if_neg e2, if_neg (by omega)]
theorem ld2_eq (K : zK) {i : Nat} (hi : i < K.1 13) : ∃ f, ld2 K i = (K.1, K.2.1, K.2.2.1, f, K.2.2.2.2) ∧ (∀ q, ∃ w, f q = peLea (kpe K q) w) ∧ ∀ q, q < K.1 13 → (f q).2.2.2.2.2.2.2.2 = if q = i then 1 else 0 := by
  obtain ⟨g, g1, g2⟩ := clrK_eq K (K.1 13)
  refine ⟨va_up g i (peLea (g i) 1), ?_, fun q => ?_, fun q hq => ?_⟩
  · unfold ld2
    rw [g1]; rfl
  · by_cases eq : q = i
    · subst eq
      rw [up_eq, g2, if_pos hi]
      exact ⟨1, rfl⟩
    · rw [up_ne eq, g2]
      by_cases el : q < K.1 13
      · rw [if_pos el]; exact ⟨0, rfl⟩
      · rw [if_neg el]; exact ⟨(kpe K q).2.2.2.2.2.2.2.2, rfl⟩
  · by_cases eq : q = i
    · subst eq; rw [up_eq, if_pos rfl]; rfl
    · rw [up_ne eq, g2, if_pos hq, if_neg eq]; rfl
theorem dR_ld2 (h : dRk K S) {i : Nat} (hi : i < K.1 13) (r : Nat → Int32) : dRk (ld2 K i) (zsA S 24 r) := by
  obtain ⟨f, f1, f2, -⟩ := ld2_eq K hi
  rw [f1]
  exact dR_mark h f2
def mid (K K2 : zK) (i : Nat) : Prop := K2.1 = K.1 ∧ (∀ q, ¬ q = i → kch K2 (100 + q) = kch K (100 + q)) ∧ (∀ c, c < 100 → kch K2 c = kch K c) ∧ (kch K2 (100 + i)).2.1 ≤ (kch K (100 + i)).2.1 + 1 ∧ (∀ q, ∃ w, kpe K2 q = peLea (if q = i then peTurn (kpe K i) (-1) (-1) else kpe K q) w) ∧ ∀ q, q < K.1 13 → (kpe K2 q).2.2.2.2.2.2.2.2 = if q = i then 1 else 0
theorem mid_of {i : Nat} (hi : i < K.1 13) : mid K (ld2 (du2 K i) i) i := by
  obtain ⟨f, f1, f2, f3⟩ := ld2_eq (du2 K i) (i := i) hi
  rw [f1]
  refine ⟨rfl, fun q hq => ?_, fun c hc => ?_, ?_, f2, f3⟩
  · exact up_ne (by omega)
  · exact up_ne (by omega)
  · show (va_up (kch K) (100 + i) (tbtC (du1 K i) i (kpe K i).2.2.2.2.2.2.1) (100 + i)).2.1 ≤ _
    rw [up_eq]
    exact (tbtC_k (du1 K i) i _).1
theorem dD_mid {mn : Nat → Bool} {ld : Nat → Option Nat} {i : Nat} {root : Nat → Nat} (m : mid K K2 i) (hi : i < K.1 13) (hst : stt mn ld K) (hpa : iPa K) (hgr : mn i = false) (hnt : ¬ tkd K i) (hrt : ∀ q, q < K.1 13 → tkd K q → root q < i ∧ rtP mn ld root (tkd K) q) (hkk : ∀ q, q < K.1 13 → (kch K (100 + q)).2.1 ≤ 512) :
    stt mn ld K2 ∧ iPa K2 ∧ (∀ q, q < K2.1 13 → ¬ (kpe K2 q).2.2.2.2.2.2.2.2 = 0 → q = i) ∧ (∀ q, q < K2.1 13 → tkd K2 q → va_up root i i q ≤ i ∧ rtP mn ld (va_up root i i) (tkd K2) q) ∧ (∀ q, q < K2.1 13 → tkd K2 q → va_up root i i q = i → q = i) ∧ ∀ q, q < K2.1 13 → (kch K2 (100 + q)).2.1 ≤ 999 ∨ (q = i ∧ (kch K2 (100 + q)).2.1 ≤ 1000) := by
  obtain ⟨m1, m2, m3, m4, m5, m6⟩ := m
  have htk2 : ∀ q, ¬ q = i → (tkd K2 q ↔ tkd K q) := fun q hq => by
    unfold tkd
    rw [m2 q hq, m1]
  rw [m1]
  refine ⟨fun q hq => ?_, fun q hq => ?_, fun q hq hl => ?_, fun q hq ht => ?_, fun q hq ht hr => ?_, fun q hq => ?_⟩
  · rw [m1] at hq
    obtain ⟨s1, s2⟩ := hst q hq
    obtain ⟨w, hw⟩ := m5 q
    unfold minK at s1 ⊢
    rw [m1, hw]
    by_cases eq : q = i
    · subst eq; rw [if_pos rfl]; exact ⟨s1, s2⟩
    · rw [if_neg eq]; exact ⟨s1, s2⟩
  · rw [m1] at hq
    obtain ⟨w, hw⟩ := m5 q
    rw [hw]
    by_cases eq : q = i
    · subst eq; rw [if_pos rfl]; exact hpa q hq
    · rw [if_neg eq]; exact hpa q hq
  · rw [m6 q hq] at hl
    by_cases e0 : q = i
    · exact e0
    · rw [if_neg e0] at hl; exact absurd rfl hl
  · by_cases e0 : q = i
    · have hu : va_up root i i q = i := by rw [e0]; exact up_eq
      refine ⟨by omega, ?_⟩
      unfold rtP
      rw [hu]
      exact ⟨hgr, Or.inl e0⟩
    · have ht' := (htk2 q e0).mp ht
      obtain ⟨c1, c2, c3⟩ := hrt q hq ht'
      have hu : va_up root i i q = root q := up_ne e0
      unfold rtP
      rw [hu]
      refine ⟨Nat.le_of_lt c1, c2, ?_⟩
      rcases c3 with c3 | ⟨c3, l, c4, c5⟩
      · exact Or.inl c3
      · refine Or.inr ⟨c3, l, c4, ?_⟩
        rcases c5 with c5 | ⟨c5, c6⟩
        · exact Or.inl c5
        · have hli : ¬ l = i := fun hh => hnt (hh ▸ c5)
          exact Or.inr ⟨(htk2 l hli).mpr c5, (up_ne hli).trans c6⟩
  · by_cases e0 : q = i
    · exact e0
    · have hu : va_up root i i q = root q := up_ne e0
      rw [hu] at hr
      have := (hrt q hq ((htk2 q e0).mp ht)).1
      omega
  · left
    have h5 := hkk q hq
    by_cases e0 : q = i
    · subst e0; omega
    · rw [m2 q e0]; omega
def cPd (td nc np i : Nat) (f : Nat → zPe) : Prop := ∀ p, p < np →
  ∃ b, b ≤ td ∧ (f p).2.2.2.1 = nI b ∧ (((f p).2.2.2.2.2.2.1 = -1 ∧ (f p).2.2.2.2.2.2.2.1 = -1) ∨ ((f p).2.2.2.2.1 = true ∧ b + 5000 ≤ td ∧ ∃ c e, c < nc ∧ (f p).2.2.2.2.2.2.1 = nI c ∧ td ≤ e ∧ (e = td → i ≤ p) ∧ e ≤ td + 30 ∧ (f p).2.2.2.2.2.2.2.1 = nI e))
/-- the middle of a day: those below i have been dealt with -/
def dD (n : Nat) (mn : Nat → Bool) (ld : Nat → Option Nat) (i : Nat) (root : Nat → Nat) (K : zK) (S : zS) : Prop :=
  dRk K S ∧ (iPa K ∧ stt mn ld K ∧ iCh K ∧ kTB K n ∧ n ≤ 512) ∧ cPd (K.1 1) (K.1 2) (K.1 13) i (kpe K) ∧ (∀ q, q < K.1 13 → tkd K q → root q < i ∧ rtP mn ld root (tkd K) q) ∧ ∀ v, v < K.1 2 → ∃ f0, f0 ≤ K.1 1 ∧ (kch K (rch v)).2.2.1 0 = nI f0
theorem cPd_next {i : Nat} (h : cPd (K.1 1) (K.1 2) (K.1 13) i (kpe K)) (m : mid K K2 i) (hs : sfr K2 K3) (hton : ∀ q, peTon (kpe K3 q) = peTon (kpe K2 q)) : cPd (K.1 1) (K.1 2) (K.1 13) (i + 1) (kpe K3) := by
  intro q hq
  obtain ⟨bq, d1, d2, d3⟩ := h q hq
  obtain ⟨m1, m2, m3, m4, m5, m6⟩ := m
  have hfrq := hs.2.2.2.1 q
  obtain ⟨w, hw⟩ := m5 q
  rw [hw] at hfrq
  have ht := hton q
  rw [hw] at ht
  have ht1 := congrArg Prod.fst ht
  have ht2 := congrArg Prod.snd ht
  by_cases eq : q = i
  · subst eq
    rw [if_pos rfl] at hfrq ht1 ht2
    exact ⟨bq, d1, hfrq.2.2.2.1.trans d2, Or.inl ⟨ht1, ht2⟩⟩
  · rw [if_neg eq] at hfrq ht1 ht2
    refine ⟨bq, d1, hfrq.2.2.2.1.trans d2, ?_⟩
    rcases d3 with ⟨d3, d4⟩ | ⟨d3, d4, c, e', d5, d6, d7, d8, d9, d10⟩
    · exact Or.inl ⟨ht1.trans d3, ht2.trans d4⟩
    · exact Or.inr ⟨hfrq.2.2.2.2.1.trans d3, d4, c, e', d5, ht1.trans d6, d7, fun hh => by have := d8 hh; omega, d9, ht2.trans d10⟩
theorem dueK_on {i : Nat} (hon : (kpe K i).2.2.2.2.2.2.2.1 = nI (K.1 1)) : dueK K i = ledK (ld2 (du2 K i) i) (kpe K i).2.2.2.2.2.2.1 (i + 1) (K.1 13 - (i + 1)) := by
  unfold dueK
  rw [if_pos hon]
  unfold ldcK
  have : (du2 K i).1 = K.1 := rfl
  rw [this]
theorem turnsS_on {i : Nat} {f : Int32} (hf : S.2.2.1 22 i = f) : turnsS S i = turnL i f (turn1 (staysS S i) i (fT S i) f) (S.1 13) := by
  unfold turnsS
  rw [hf]
theorem dR_T {i v f0 : Nat} (h : dRk K S) (hi : i < K.1 13) (hkk : ∀ q, q < K.1 13 → (kch K (100 + q)).2.1 ≤ 512) (hnt : ¬ tkd K i) (v1 : v < K.1 2) (v2 : (kpe K i).2.2.2.2.2.2.1 = nI v) (f2 : (kch K (rch v)).2.2.1 0 = nI f0) (f1 : f0 ≤ K.1 1) : dRk (du2 K i) (turn1 (staysS S i) i (fT S i) (nI v)) := by
  unfold du2
  rw [v2]
  exact dR_turn1 (dR_stay h hi) (p := i) (v := v) (f0 := f0) hi (fun q hq => Nat.le_trans (hkk q hq) (by decide)) hnt v1 f2 f1
theorem iPa_du2 {i : Nat} (h : iPa K) : iPa (du2 K i) := fun q hq => by
  have hpe2 : kpe (du2 K i) q = if q = i then peTurn (kpe K i) (-1) (-1) else kpe K q := rfl
  have hq : q < K.1 13 := hq
  rw [hpe2]
  by_cases eq : q = i
  · subst eq; rw [if_pos rfl]; exact h q hq
  · rw [if_neg eq]; exact h q hq
theorem dD_step {mn : Nat → Bool} {ld : Nat → Option Nat} {i : Nat} {root : Nat → Nat} (h : dD n mn ld i root K S) (hi : i < K.1 13) (hon : (kpe K i).2.2.2.2.2.2.2.1 = nI (K.1 1)) : ∃ root', dD n mn ld (i + 1) root' (dueK K i) (turnsS S i) ∧ (∀ q, K.1 13 ≤ q → kch (dueK K i) (100 + q) = kch K (100 + q)) := by
  obtain ⟨hR, ⟨hpa, hst, hch, hTB, hn⟩, hPd, hrt, hfo⟩ := h
  have hR0 := hR
  obtain ⟨e1, e13, l13, l1, l2, hP, hF⟩ := hR0
  obtain ⟨b, b1, b2, b3⟩ := hPd i hi
  obtain ⟨g1, g2, v, e, v1, v2, e2, e3, e4, e5⟩ := b3.resolve_left (fun hh => by rw [hh.2] at hon; exact nI_m1 (by omega) hon.symm)
  have hgr : mn i = false := by
    rw [← (hst i hi).1]
    unfold minK
    rw [b2, min_N l1 b1]
    exact decide_eq_false (by omega)
  have hnt : ¬ tkd K i := by
    intro ht
    obtain ⟨c1, c2, c3⟩ := hrt i hi ht
    rcases c3 with c3 | ⟨c3, -⟩
    · omega
    · rw [hgr] at c3; cases c3
  obtain ⟨f0, f1, f2⟩ := hfo v v1
  have hkk : ∀ q, q < K.1 13 → (kch K (100 + q)).2.1 ≤ 512 := fun q hq => by have := hTB q hq; omega
  have hto : S.2.2.1 22 i = nI v := (hP i hi).2.2.2.2.2.2.1.trans v2
  have hT := dR_T hR hi hkk hnt v1 v2 f2 f1
  have k13 : (du2 K i).1 13 = K.1 13 := rfl
  obtain ⟨r, r1, r2⟩ := turn_lo hT (iPa_du2 hpa) (p := i) hi (nI v) (i + 1) (Nat.le_refl _)
  have hm := mid_of hi
  have hdm := dR_ld2 hT (i := i) hi r
  rw [← r1] at hdm
  obtain ⟨w1, w2, w3, w4, w5, w6⟩ := dD_mid hm hi hst hpa hgr hnt hrt hkk
  have hmono : iCh (dueK K i) := dueK_W hi hch hTB (by omega)
  have hTB2 : kTB (dueK K i) n := dueK_TB hi l1 hTB
  rw [dueK_on hon, v2] at hmono hTB2
  rw [dueK_on hon, v2, turnsS_on hto, ← e13]
  have hton : ∀ q, peTon (kpe (ledK (ld2 (du2 K i) i) (nI v) (i + 1) (K.1 13 - (i + 1))) q) = peTon (kpe (ld2 (du2 K i) i) q) := fun q => ledK_ton _ _ _ _ _
  have hlast := (ledK_fr (ld2 (du2 K i) i) (nI v) (i + 1) (K.1 13 - (i + 1))).2.1
  clear hT
  generalize turn1 (staysS S i) i (fT S i) (nI v) = T at *
  generalize ld2 (du2 K i) i = K2 at *
  obtain ⟨m1, m2, m3, m4, m5, m6⟩ := id hm
  have h24 : ∀ q, q < K2.1 13 → decide ((turnL i (nI v) T (i + 1)).2.2.1 24 q ≠ 0) = decide (¬ (kpe K2 q).2.2.2.2.2.2.2.2 = 0) ∨ i < q := by
    intro q hq
    rw [m1] at hq
    by_cases eq : q ≤ i
    · left
      have hr : (turnL i (nI v) T (i + 1)).2.2.1 24 q = r q := by
        have e24 : (zsA T 24 r).2.2.1 24 = r := by rw [zsA_s]
        rw [r1, e24]
      rw [hr, r2 q (by omega), m6 q hq]
      by_cases e0 : q = i
      · rw [if_pos e0, decide_eq_true e0]; rfl
      · rw [if_neg e0, decide_eq_false e0]; rfl
    · right; omega
  have h13 : K2.1 13 = K.1 13 := by rw [m1]
  have hv' : v < K2.1 2 := by rw [m1]; exact v1
  have hf' : (kch K2 (rch v)).2.2.1 0 = nI f0 := by rw [m3 _ (by unfold rch; omega)]; exact f2
  have hf0' : f0 ≤ K2.1 1 := by rw [m1]; exact f1
  obtain ⟨root', ⟨z1, z2, z3, z4⟩, z5, z6, z7, z8, z9⟩ := turn_hi (mn := mn) (ld := ld) (p := i) (v := v) (f0 := f0) (K2 := K2) (T := T) hv' hf' hf0' (by omega) hgr (root0 := va_up root i i) ⟨hdm, w1, w2, h24, w3, w4, w5, w6⟩ (K.1 13 - (i + 1)) (by omega)
  have hj : i + 1 + (K.1 13 - (i + 1)) = K.1 13 := by omega
  rw [hj] at z1
  have hK1 : (ledK K2 (nI v) (i + 1) (K.1 13 - (i + 1))).1 = K.1 := by rw [z3.1, m1]
  have hPn := cPd_next hPd hm z3 hton
  generalize ledK K2 (nI v) (i + 1) (K.1 13 - (i + 1)) = K3 at *
  refine ⟨root', ⟨z1, ⟨z4, z2, hmono, hTB2, hn⟩, ?_, fun q hq ht => ?_, fun u hu => ?_⟩, fun q hq => ?_⟩
  · rw [hK1]; exact hPn
  · rw [hK1] at hq
    obtain ⟨c1, c2⟩ := z7 q (by omega) ht
    exact ⟨by omega, c2⟩
  · rw [hK1] at hu ⊢
    obtain ⟨u0, u1, u2⟩ := hfo u hu
    refine ⟨u0, u1, ?_⟩
    rw [z3.2.2.2.2 _ (by unfold rch; omega), m3 _ (by unfold rch; omega)]
    exact u2
  · rw [hlast _ (fun q' a b => by omega), m2 q (by omega)]
end TIE23
