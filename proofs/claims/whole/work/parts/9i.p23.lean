/-! pass: one person's turn within a day -/
section TIE23
variable {n : Nat} {K K1 : zK} {S S1 : zS}
theorem clrK_eq (K : zK) : ∀ m, ∃ g, clrK K m = (K.1, K.2.1, K.2.2.1, g, K.2.2.2.2) ∧ ∀ q, g q = if q < m then peLea (kpe K q) 0 else kpe K q
  | 0 => ⟨kpe K, rfl, fun q => rfl⟩
  | m + 1 => by
    obtain ⟨g, g1, g2⟩ := clrK_eq K m
    refine ⟨va_up g m (peLea (g m) 0), ?_, fun q => ?_⟩
    · show spe (clrK K m) m (peLea (kpe (clrK K m) m) 0) = _
      rw [g1]; rfl
    · by_cases e : q = m
      · subst e; rw [up_eq, if_pos (Nat.lt_succ_self q), g2, if_neg (Nat.lt_irrefl q)]
      · rw [up_ne e, g2]
        by_cases e2 : q < m
        · rw [if_pos e2, if_pos (by omega)]
        · rw [if_neg e2, if_neg (by omega)]
def cPd (td nc np i : Nat) (f : Nat → zPe) : Prop := ∀ p, p < np →
  ∃ b, b ≤ td ∧ (f p).2.2.2.1 = nI b ∧ (((f p).2.2.2.2.2.2.1 = -1 ∧ (f p).2.2.2.2.2.2.2.1 = -1) ∨ ((f p).2.2.2.2.1 = true ∧ b + 5000 ≤ td ∧ ∃ c e, c < nc ∧ (f p).2.2.2.2.2.2.1 = nI c ∧ td ≤ e ∧ (e = td → i ≤ p) ∧ e ≤ td + 30 ∧ (f p).2.2.2.2.2.2.2.1 = nI e))
/-- the middle of a day: those below i have been dealt with -/
def dD (n : Nat) (mn : Nat → Bool) (ld : Nat → Option Nat) (i : Nat) (root : Nat → Nat) (K : zK) (S : zS) : Prop :=
  dR K S ∧ (iPa K ∧ stt mn ld K ∧ iCh K ∧ kTB K n ∧ n ≤ 512) ∧ cPd (K.1 1) (K.1 2) (K.1 13) i (kpe K) ∧ (∀ q, q < K.1 13 → tkd K q → root q < i ∧ rtP mn ld root (tkd K) q) ∧ ∀ v, v < K.1 2 → ∃ f0, f0 ≤ K.1 1 ∧ (kch K (rch v)).2.2.1 0 = nI f0
theorem dD_step {mn : Nat → Bool} {ld : Nat → Option Nat} {i : Nat} {root : Nat → Nat} (h : dD n mn ld i root K S) (hi : i < K.1 13) (hon : (kpe K i).2.2.2.2.2.2.2.1 = nI (K.1 1)) : ∃ root', dD n mn ld (i + 1) root' (dueK K i) (turnsS S i) ∧ (∀ q, K.1 13 ≤ q → kch (dueK K i) (100 + q) = kch K (100 + q)) := by
  obtain ⟨hR, ⟨hpa, hst, hch, hTB, hn⟩, hPd, hrt, hfo⟩ := h
  have hR0 := hR
  obtain ⟨e1, e13, l13, l1, l2, hP, hF⟩ := hR0
  obtain ⟨b, b1, b2, b3⟩ := hPd i hi
  obtain ⟨g1, g2, v, e, v1, v2, e2, e3, e4, e5⟩ := b3.resolve_left (fun hh => by rw [hh.2] at hon; exact nI_m1 (by omega) hon.symm)
  have ee : e = K.1 1 := (nI_eq (by omega) (by omega)).mp (e5.symm.trans hon)
  subst ee
  have hgr : mn i = false := by
    rw [← (hst i hi).1]
    unfold minK
    rw [b2, min_N l1 b1]
    exact decide_eq_false (by omega)
  have hnt : ¬ tkd K i := by
    intro ht
    obtain ⟨c1, c2, c3⟩ := hrt i hi ht
    rcases c3 with c3 | ⟨c3, -⟩
    · omega
    · rw [hgr] at c3; cases c3
  obtain ⟨f0, f1, f2⟩ := hfo v v1
  have hkk : ∀ q, q < K.1 13 → (kch K (100 + q)).2.1 ≤ 512 := fun q hq => by have := hTB q hq; omega
  have hto : S.2.2.1 22 i = nI v := (hP i hi).2.2.2.2.2.2.1.trans v2
  -- the turning is laid down, the faith taken
  have hs1 := dR_stay hR hi
  have hT := dR_turn1 hs1 (p := i) (v := v) (f0 := f0) hi (fun q hq => by have := hkk q hq; show (kch K (100 + q)).2.1 ≤ 1000; omega) hnt v1 f2 f1
  have hdue : dueK K i = ldcK (du2 K i) i (nI v) := by unfold dueK; rw [if_pos hon, v2]
  have hdu2 : du2 K i = tbtK (du1 K i) i (nI v) := by unfold du2; rw [v2]
  have hts : turnsS S i = turnL i (nI v) (turn1 (staysS S i) i (fT (staysS S i) i) (nI v)) (K.1 13) := by
    unfold turnsS
    rw [hto, ← e13]
    rfl
  rw [hts]
  rw [← hdu2] at hT
  generalize hTe : turn1 (staysS S i) i (fT (staysS S i) i) (nI v) = T at hT
  -- what the new chronicle of the one who turns does to the others
  have k13 : (du2 K i).1 = K.1 := rfl
  have hchq : ∀ q, ¬ q = i → kch (du2 K i) (100 + q) = kch K (100 + q) := fun q hq => up_ne (by omega)
  have hlow : ∀ c, c < 100 → kch (du2 K i) c = kch K c := fun c hc => up_ne (by omega)
  have hki : (kch (du2 K i) (100 + i)).2.1 ≤ (kch K (100 + i)).2.1 + 1 := by rw [hdu2]; show (va_up _ (100 + i) _ (100 + i)).2.1 ≤ _; rw [up_eq]; exact (tbtC_k (du1 K i) i (nI v)).1
  have hpe2 : ∀ q, kpe (du2 K i) q = if q = i then peTurn (kpe K i) (-1) (-1) else kpe K q := fun q => rfl
  have hpa2 : iPa (du2 K i) := fun q hq => by
    rw [hpe2]
    by_cases eq : q = i
    · subst eq; rw [if_pos rfl]; exact hpa q hq
    · rw [if_neg eq]; exact hpa q hq
  obtain ⟨r, r1, r2⟩ := turn_lo hT hpa2 (p := i) hi (nI v) (i + 1) (Nat.le_refl _)
  obtain ⟨g, gg1, gg2⟩ := clrK_eq (du2 K i) ((du2 K i).1 13)
  have hld2 : ld2 (du2 K i) i = (K.1, K.2.1, kch (du2 K i), va_up g i (peLea (g i) 1), K.2.2.2.2) := by
    unfold ld2
    rw [gg1]; rfl
  have hpeL : ∀ q, ∃ w, va_up g i (peLea (g i) 1) q = peLea (kpe (du2 K i) q) w := by
    intro q
    by_cases eq : q = i
    · subst eq
      rw [up_eq, gg2]
      by_cases el : q < (du2 K i).1 13
      · rw [if_pos el]; exact ⟨1, rfl⟩
      · exact absurd hi el
    · rw [up_ne eq, gg2]
      by_cases el : q < (du2 K i).1 13
      · rw [if_pos el]; exact ⟨0, rfl⟩
      · rw [if_neg el]; exact ⟨(kpe (du2 K i) q).2.2.2.2.2.2.2.2, rfl⟩
  have hlea : ∀ q, q < K.1 13 → (va_up g i (peLea (g i) 1) q).2.2.2.2.2.2.2.2 = if q = i then 1 else 0 := by
    intro q hq
    by_cases eq : q = i
    · subst eq; rw [up_eq, if_pos rfl]; rfl
    · rw [up_ne eq, gg2, if_pos (show q < (du2 K i).1 13 from hq), if_neg eq]; rfl
  have hdm := dR_mark hT (f := va_up g i (peLea (g i) 1)) (r := r) hpeL
  have hKeq : ((du2 K i).1, (du2 K i).2.1, (du2 K i).2.2.1, va_up g i (peLea (g i) 1), (du2 K i).2.2.2.2) = ld2 (du2 K i) i := hld2.symm
  rw [hKeq] at hdm
  have htk2 : ∀ q, ¬ q = i → (tkd (ld2 (du2 K i) i) q ↔ tkd K q) := fun q hq => by
    unfold tkd
    rw [hld2]
    show (kch (du2 K i) (100 + q)).2.2.1 (kch (du2 K i) (100 + q)).2.1 = _ ↔ _
    rw [hchq q hq]
  have hst2 : stt mn ld (ld2 (du2 K i) i) := by
    intro q hq
    rw [hld2] at hq ⊢
    have hq : q < K.1 13 := hq
    obtain ⟨s1, s2⟩ := hst q hq
    obtain ⟨w, hw⟩ := hpeL q
    unfold minK
    show decide (nI (K.1 1) - (va_up g i (peLea (g i) 1) q).2.2.2.1 < 5000) = mn q ∧ ldrOf (va_up g i (peLea (g i) 1) q) = ld q
    rw [hw, hpe2]
    by_cases eq : q = i
    · subst eq; rw [if_pos rfl]; exact ⟨s1, s2⟩
    · rw [if_neg eq]; exact ⟨s1, s2⟩
  have hpaL : iPa (ld2 (du2 K i) i) := by
    intro q hq
    rw [hld2] at hq ⊢
    obtain ⟨w, hw⟩ := hpeL q
    show (∀ q', (va_up g i (peLea (g i) 1) q).2.1 = some q' → q' < q) ∧ ∀ q', (va_up g i (peLea (g i) 1) q).2.2.1 = some q' → q' < q
    rw [hw]
    exact hpa2 q hq
  have hk2 : (ld2 (du2 K i) i).1 = K.1 := by rw [hld2]
  have hc2 : kch (ld2 (du2 K i) i) = kch (du2 K i) := by rw [hld2]
  have hp2 : kpe (ld2 (du2 K i) i) = va_up g i (peLea (g i) 1) := by rw [hld2]
  obtain ⟨root', ⟨z1, z2, z3, z4⟩, z5, z6, z7, z8, z9⟩ := turn_hi (mn := mn) (ld := ld) (p := i) (v := v) (f0 := f0) (K2 := ld2 (du2 K i) i) (T := T) (by rw [hk2]; exact v1) (by rw [hc2, hlow _ (by unfold rch; omega)]; exact f2) (by rw [hk2]; exact f1) (by rw [hk2]; exact hi) hgr (root0 := va_up root i i)
    ⟨by rw [r1]; exact hdm, hst2, hpaL, fun q hq => by
      rw [hk2] at hq
      by_cases eq : q ≤ i
      · left
        rw [r1, hp2, hlea q hq]
        show decide (r q ≠ 0) = _
        rw [r2 q (by omega)]
        by_cases e0 : q = i
        · rw [if_pos e0, decide_eq_true e0]; rfl
        · rw [if_neg e0, decide_eq_false e0]; rfl
      · right; omega, fun q hq hl => by
      rw [hk2] at hq
      rw [hp2, hlea q hq] at hl
      by_cases e0 : q = i
      · exact e0
      · rw [if_neg e0] at hl; exact absurd rfl hl, fun q hq ht => by
      rw [hk2] at hq
      by_cases e0 : q = i
      · subst e0
        rw [up_eq]
        exact ⟨Nat.le_refl _, by rw [up_eq]; exact hgr, Or.inl (by rw [up_eq])⟩
      · have ht' := (htk2 q e0).mp ht
        obtain ⟨c1, c2, c3⟩ := hrt q hq ht'
        rw [up_ne e0]
        refine ⟨by omega, by rw [up_ne e0]; exact c2, ?_⟩
        rw [up_ne e0]
        rcases c3 with c3 | ⟨c3, l, c4, c5⟩
        · exact Or.inl c3
        · refine Or.inr ⟨c3, l, c4, ?_⟩
          rcases c5 with c5 | ⟨c5, c6⟩
          · exact Or.inl c5
          · have hli : ¬ l = i := fun hh => hnt (hh ▸ c5)
            exact Or.inr ⟨(htk2 l hli).mpr c5, by rw [up_ne hli]; exact c6⟩, fun q hq ht hr => by
      rw [hk2] at hq
      by_cases e0 : q = i
      · exact e0
      · rw [up_ne e0] at hr
        have := (hrt q hq ((htk2 q e0).mp ht)).1
        omega, fun q hq => by
      rw [hk2] at hq
      rw [hc2]
      by_cases e0 : q = i
      · subst e0; left; have := hkk q hq; omega
      · left; rw [hchq q e0]; have := hkk q hq; omega⟩ (K.1 13 - (i + 1)) (by rw [hk2]; omega)
  have hj : i + 1 + (K.1 13 - (i + 1)) = K.1 13 := by omega
  rw [hj] at z1
  have hKe : ledK (ld2 (du2 K i) i) (nI v) (i + 1) (K.1 13 - (i + 1)) = dueK K i := by rw [hdue]; rfl
  rw [hKe] at z1 z2 z3 z4 z7 z9
  have hK1 : (dueK K i).1 = K.1 := by rw [z3.1, hk2]
  have hton : ∀ q, peTon (kpe (dueK K i) q) = peTon (kpe (du2 K i) q) := fun q => by
    rw [← hKe, ledK_ton, hp2]
    obtain ⟨w, hw⟩ := hpeL q
    rw [hw]; rfl
  have hmono : iCh (dueK K i) := dueK_W hi hch hTB (by omega)
  have hTB2 : kTB (dueK K i) n := dueK_TB hi l1 hTB
  have hlast := ledK_fr (ld2 (du2 K i) i) (nI v) (i + 1) (K.1 13 - (i + 1))
  refine ⟨root', ⟨z1, ⟨z4, z2, hmono, hTB2, hn⟩, fun q hq => ?_, fun q hq ht => ?_, fun u hu => ?_⟩, fun q hq => ?_⟩
  · rw [hK1] at hq ⊢
    obtain ⟨bq, d1, d2, d3⟩ := hPd q hq
    have hfrq := z3.2.2.2.1 q
    rw [hp2] at hfrq
    obtain ⟨w, hw⟩ := hpeL q
    rw [hw] at hfrq
    have ht := hton q
    unfold peTon at ht
    have ht1 := (Prod.mk.inj ht).1
    have ht2 := (Prod.mk.inj ht).2
    by_cases eq : q = i
    · subst eq
      rw [hpe2, if_pos rfl] at hfrq ht1 ht2
      exact ⟨bq, d1, hfrq.2.2.2.1.trans d2, Or.inl ⟨ht1, ht2⟩⟩
    · rw [hpe2, if_neg eq] at hfrq ht1 ht2
      refine ⟨bq, d1, hfrq.2.2.2.1.trans d2, ?_⟩
      rcases d3 with ⟨d3, d4⟩ | ⟨d3, d4, c, e', d5, d6, d7, d8, d9, d10⟩
      · exact Or.inl ⟨ht1.trans d3, ht2.trans d4⟩
      · exact Or.inr ⟨hfrq.2.2.2.2.1.trans d3, d4, c, e', d5, ht1.trans d6, d7, fun hh => by have := d8 hh; omega, d9, ht2.trans d10⟩
  · rw [hK1] at hq
    obtain ⟨c1, c2⟩ := z7 q (by rw [hk2]; exact hq) ht
    exact ⟨by omega, c2⟩
  · rw [hK1] at hu ⊢
    obtain ⟨u0, u1, u2⟩ := hfo u hu
    refine ⟨u0, u1, ?_⟩
    rw [z3.2.2.2.2 _ (by unfold rch; omega), hc2, hlow _ (by unfold rch; omega)]
    exact u2
  · rw [← hKe, hlast.2.1 _ (fun q' a b => by omega), hc2, hchq q (by omega)]
end TIE23
