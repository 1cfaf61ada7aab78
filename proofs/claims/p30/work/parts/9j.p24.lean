/-! pass: a day; the days -/
section TIE24
variable {n : Nat} {K K1 : zK} {S S1 A B C : zS}
theorem tfdK_sfr (K : zK) : ∀ i, sfr K (tfdK K i)
  | 0 => sfr.rf
  | i + 1 => (tfdK_sfr K i).trans (dueK_fr _ _).1
theorem dD_day {mn : Nat → Bool} {ld : Nat → Option Nat} {root : Nat → Nat} (h : dD n mn ld 0 root K S) : ∀ i, i ≤ K.1 13 → (∃ root', dD n mn ld i root' (tfdK K i) (dayL S i)) ∧ ∀ q, K.1 13 ≤ q → kch (tfdK K i) (100 + q) = kch K (100 + q)
  | 0, _ => ⟨⟨root, h⟩, fun _ _ => rfl⟩
  | i + 1, hi => by
    obtain ⟨⟨r, h1⟩, h2⟩ := dD_day h i (by omega)
    have hA : tfdK K (i + 1) = dueK (tfdK K i) i := rfl
    have hB : dayL S (i + 1) = if (dayL S i).2.2.1 23 i = nI ((dayL S i).1 1) then turnsS (dayL S i) i else dayL S i := rfl
    have hf := tfdK_sfr K i
    rw [hA, hB]
    generalize tfdK K i = Ki at *
    generalize dayL S i = Si at *
    have e13 : Ki.1 13 = K.1 13 := by rw [hf.1]
    have hi' : i < Ki.1 13 := by omega
    have hR := h1.1
    have e1 : Ki.1 1 = Si.1 1 := hR.1
    have e23 : Si.2.2.1 23 i = (kpe Ki i).2.2.2.2.2.2.2.1 := (hR.2.2.2.2.2.1 i hi').2.2.2.2.2.2.2
    rw [e23, ← e1]
    by_cases hon : (kpe Ki i).2.2.2.2.2.2.2.1 = nI (Ki.1 1)
    · rw [if_pos hon]
      obtain ⟨r', g1, g2⟩ := dD_step h1 hi' hon
      exact ⟨⟨r', g1⟩, fun q hq => (g2 q (by omega)).trans (h2 q hq)⟩
    · rw [if_neg hon]
      have hd : dueK Ki i = Ki := by unfold dueK; rw [if_neg hon]
      rw [hd]
      obtain ⟨a1, a2, a3, a4, a5⟩ := h1
      refine ⟨⟨r, a1, a2, fun p hp => ?_, fun q hq ht => ?_, a5⟩, h2⟩
      · obtain ⟨b, b1, b2, b3⟩ := a3 p hp
        refine ⟨b, b1, b2, b3.imp id ?_⟩
        rintro ⟨c1, c2, c, e, c3, c4, c5, c6, c7, c8⟩
        refine ⟨c1, c2, c, e, c3, c4, c5, fun hh => ?_, c7, c8⟩
        have := c6 hh
        by_cases ep : p = i
        · subst ep; rw [hh] at c8; exact absurd c8 hon
        · omega
      · obtain ⟨q1, q2⟩ := a4 q hq ht
        exact ⟨by omega, q2⟩
/-- between days -/
def dN (n : Nat) (K : zK) (S : zS) : Prop := dRk K S ∧ (iPa K ∧ iCh K ∧ kTB K n ∧ n ≤ 512) ∧ cPi (K.1 1) (K.1 2) (K.1 13) (kpe K) ∧ ∀ v, v < K.1 2 → ∃ f0, f0 ≤ K.1 1 ∧ (kch K (rch v)).2.2.1 0 = nI f0
theorem dR_day (h : dRk K S) (hd : K.1 1 + 1 ≤ 30000) : dRk (sN K 1 (K.1 1 + 1)) (dayS S) := by
  obtain ⟨e1, e13, l13, l1, l2, hP, hF⟩ := h
  have s1 : (sN K 1 (K.1 1 + 1)).1 1 = K.1 1 + 1 := sN_s
  refine ⟨?_, e13, l13, by rw [s1]; exact hd, l2, hP, fun p hp => ?_⟩
  · rw [s1, e1]
    exact (up_eq (f := S.1) (j := 1)).symm
  · obtain ⟨w1, w2, w3, w4⟩ := hF p hp
    refine ⟨w1, w2, fun i hi => ?_, w4⟩
    obtain ⟨e', u, g0, d1, d2, d3, d4, d5, d6, d7⟩ := w3 i hi
    exact ⟨e', u, g0, d1, by rw [s1]; omega, d3, d4, d5, d6, d7⟩
theorem dN_day (h : dN n K S) (hd : K.1 1 + 1 ≤ 30000) : dN n (dyK K) (dayK S) ∧ ∀ q, K.1 13 ≤ q → kch (dyK K) (100 + q) = kch K (100 + q) := by
  obtain ⟨hR, ⟨hpa, hch, hTB, hn⟩, hPi, hfo⟩ := h
  have s1 : (sN K 1 (K.1 1 + 1)).1 1 = K.1 1 + 1 := sN_s
  have hD : dD n (fun q => minK (sN K 1 (K.1 1 + 1)) q (nI (K.1 1 + 1))) (fun q => ldrOf (kpe K q)) 0 (fun q => q) (sN K 1 (K.1 1 + 1)) (dayS S) := by
    refine ⟨dR_day hR hd, ⟨hpa, fun q hq => ⟨by rw [s1], rfl⟩, hch, hTB, hn⟩, fun p hp => ?_, fun q hq ht => ?_, fun v hv => ?_⟩
    · rw [s1]
      obtain ⟨b, b1, b2, b3⟩ := hPi p hp
      refine ⟨b, by omega, b2, b3.imp id ?_⟩
      rintro ⟨c1, c2, c, e, c3, c4, c5, c6, c7⟩
      exact ⟨c1, by omega, c, e, c3, c4, by omega, fun _ => Nat.zero_le _, by omega, c7⟩
    · exfalso
      unfold tkd at ht
      rw [s1] at ht
      obtain ⟨e, v, f0, d1, d2, -⟩ := (hR.2.2.2.2.2.2 q hq).2.2.1 _ (Nat.le_refl _)
      have ht' : (kch K (100 + q)).2.2.1 (kch K (100 + q)).2.1 = nI (K.1 1 + 1) := ht
      rw [d1] at ht'
      have := (nI_eq (by omega) (by omega)).mp ht'
      omega
    · obtain ⟨f0, f1, f2⟩ := hfo v hv
      exact ⟨f0, by rw [s1]; omega, f2⟩
  have hz2 : dayL (dayS S) (K.1 13) = dayK S := by unfold dayK; rw [hR.2.1]
  obtain ⟨⟨r, hDD⟩, k1⟩ := dD_day hD (K.1 13) (Nat.le_refl _)
  rw [hz2] at hDD
  have hz : tfdK (sN K 1 (K.1 1 + 1)) (K.1 13) = dyK K := rfl
  rw [hz] at hDD k1
  have h13 : (dyK K).1 13 = K.1 13 := by
    have := (tfdK_sfr (sN K 1 (K.1 1 + 1)) (K.1 13)).1
    rw [hz] at this
    exact (congrFun this 13).trans rfl
  generalize dyK K = Kd at *
  obtain ⟨g1, ⟨g2, g3, g4, g5, g6⟩, g7, g8, g9⟩ := hDD
  refine ⟨⟨g1, ⟨g2, g4, g5, g6⟩, fun p hp => ?_, g9⟩, k1⟩
  obtain ⟨b, b1, b2, b3⟩ := g7 p hp
  refine ⟨b, b1, b2, b3.imp id ?_⟩
  rintro ⟨c1, c2, c, e, c3, c4, c5, c6, c7, c8⟩
  refine ⟨c1, c2, c, e, c3, c4, ?_, c7, c8⟩
  rcases Nat.lt_or_eq_of_le c5 with hh | hh
  · exact hh
  · have := c6 hh.symm; omega
theorem dN_days (h : dN n K S) : ∀ d, K.1 1 + d ≤ 30000 → (dN n (psK K d) (passL S d) ∧ ∀ q, K.1 13 ≤ q → kch (psK K d) (100 + q) = kch K (100 + q)) ∧ (psK K d).1 1 = K.1 1 + d ∧ ∀ j, j ≠ 1 → (psK K d).1 j = K.1 j
  | 0, _ => ⟨⟨h, fun _ _ => rfl⟩, rfl, fun _ _ => rfl⟩
  | d + 1, hd => by
    obtain ⟨⟨h1, h2⟩, h3, h4⟩ := dN_days h d (by omega)
    have hq := psK_all h.2.1.2.1 h.2.1.2.2.1 (by have := h.2.1.2.2.2; omega) (d + 1) hd
    have hA : psK K (d + 1) = dyK (psK K d) := rfl
    have hB : passL S (d + 1) = dayK (passL S d) := rfl
    refine ⟨?_, hq.1, hq.2.1⟩
    rw [hA, hB]
    have e13 := h4 13 (by decide)
    generalize psK K d = Kd at *
    generalize passL S d = Sd at *
    obtain ⟨g1, g2⟩ := dN_day h1 (by omega)
    exact ⟨g1, fun q hq => (g2 q (by omega)).trans (h2 q hq)⟩
/-- what the days leave alone in the reference -/
def frS (A B : zS) : Prop := (∀ j, j ≠ 1 → B.1 j = A.1 j) ∧ B.2.1 = A.2.1 ∧ B.2.2.2 = A.2.2.2 ∧ (∀ j, ¬ j = 20 → ¬ j = 21 → ¬ j = 22 → ¬ j = 23 → ¬ j = 24 → B.2.2.1 j = A.2.2.1 j) ∧ ∀ i, A.1 13 ≤ i → B.2.2.1 20 i = A.2.2.1 20 i
theorem frS.rf : frS A A := ⟨fun _ _ => rfl, rfl, rfl, fun _ _ _ _ _ _ => rfl, fun _ _ => rfl⟩
theorem frS.trans (h1 : frS A B) (h2 : frS B C) : frS A C := by
  obtain ⟨a1, a2, a3, a4, a5⟩ := h1
  obtain ⟨b1, b2, b3, b4, b5⟩ := h2
  exact ⟨fun j hj => (b1 j hj).trans (a1 j hj), b2.trans a2, b3.trans a3, fun j x1 x2 x3 x4 x5 => (b4 j x1 x2 x3 x4 x5).trans (a4 j x1 x2 x3 x4 x5), fun i hi => (b5 i (by rw [a1 13 (by decide)]; exact hi)).trans (a5 i hi)⟩
theorem turnsS_fr {p : Nat} (hp : p < A.1 13) : frS A (turnsS A p) := by
  unfold turnsS
  generalize A.2.2.1 22 p = v
  have e1 := turn1_f (staysS A p) p (fT A p) v
  generalize turn1 (staysS A p) p (fT A p) v = T at *
  have e2 := turnL_f p v T (A.1 13)
  obtain ⟨a1, a2, a3, a4, a5⟩ := e1
  obtain ⟨b1, b2, b3, b4, b5⟩ := e2
  refine ⟨fun j hj => ?_, b2.trans a2, b3.trans a3, fun j x1 x2 x3 x4 x5 => ?_, fun i hi => ?_⟩
  · exact (congrFun (b1.trans a1) j)
  · rw [b4 j x1 x2 x5, a4 j x1 x2]
    show va_up (va_up A.2.2.1 22 _) 23 _ j = _
    rw [up_ne x4, up_ne x3]
  · rw [b5 i hi, a5 i (by omega)]
    rfl
theorem dayL_fr (A : zS) : ∀ k, k ≤ A.1 13 → frS A (dayL A k)
  | 0, _ => frS.rf
  | k + 1, hk => by
    have h1 := dayL_fr A k (by omega)
    have hB : dayL A (k + 1) = if (dayL A k).2.2.1 23 k = nI ((dayL A k).1 1) then turnsS (dayL A k) k else dayL A k := rfl
    rw [hB]
    split
    · exact h1.trans (turnsS_fr (by rw [h1.1 13 (by decide)]; omega))
    · exact h1
theorem passL_fr (A : zS) : ∀ d, frS A (passL A d)
  | 0 => frS.rf
  | d + 1 => by
    have h1 := passL_fr A d
    have hB : passL A (d + 1) = dayL (dayS (passL A d)) ((passL A d).1 13) := rfl
    rw [hB]
    generalize passL A d = Ad at *
    have h2 : frS Ad (dayS Ad) := ⟨fun j hj => up_ne hj, rfl, rfl, fun _ _ _ _ _ _ => rfl, fun _ _ => rfl⟩
    have h3 := dayL_fr (dayS Ad) (Ad.1 13) (Nat.le_of_eq (h2.1 13 (by decide)).symm)
    exact h1.trans (h2.trans h3)
/-- and in the class -/
def frK (K K1 : zK) : Prop := K1.2.1 = K.2.1 ∧ K1.2.2.2.2 = K.2.2.2.2 ∧ (∀ q, (kpe K1 q).1 = (kpe K q).1 ∧ (kpe K1 q).2.1 = (kpe K q).2.1 ∧ (kpe K1 q).2.2.1 = (kpe K q).2.2.1 ∧ (kpe K1 q).2.2.2.1 = (kpe K q).2.2.2.1 ∧ (kpe K1 q).2.2.2.2.1 = (kpe K q).2.2.2.2.1 ∧ (kpe K1 q).2.2.2.2.2.1 = (kpe K q).2.2.2.2.2.1) ∧ ∀ i, i < 100 → kch K1 i = kch K i
theorem psK_fr (K : zK) : ∀ d, frK K (psK K d)
  | 0 => ⟨rfl, rfl, fun _ => ⟨rfl, rfl, rfl, rfl, rfl, rfl⟩, fun _ _ => rfl⟩
  | d + 1 => by
    obtain ⟨a1, a2, a3, a4⟩ := psK_fr K d
    have hB : psK K (d + 1) = tfdK (sN (psK K d) 1 ((psK K d).1 1 + 1)) ((psK K d).1 13) := rfl
    rw [hB]
    generalize psK K d = Kd at *
    obtain ⟨b1, b2, b3, b4, b5⟩ := tfdK_sfr (sN Kd 1 (Kd.1 1 + 1)) (Kd.1 13)
    refine ⟨b2.trans a1, b3.trans a2, fun q => ?_, fun i hi => (b5 i hi).trans (a4 i hi)⟩
    obtain ⟨c1, c2, c3, c4, c5, c6⟩ := b4 q
    obtain ⟨d1, d2, d3, d4, d5, d6⟩ := a3 q
    exact ⟨c1.trans d1, c2.trans d2, c3.trans d3, c4.trans d4, c5.trans d5, c6.trans d6⟩
end TIE24
