/-! what the law looks at -/
section VIEW
variable {n : Nat} {B : Int} {K K1 : zK} {S : zS}
theorem hml_z {p : Nat} : ∀ k, (∀ m, m < k → lasK K m p = false) → hmlL K p k = 0
  | 0, _ => rfl
  | k + 1, h => by
    unfold hmlL
    rw [hml_z k (fun m hm => h m (by omega)), h k (Nat.lt_succ_self k)]
    rfl
theorem hml_u {p : Nat} : ∀ k, (∀ m m', m < k → m' < k → lasK K m p = true → lasK K m' p = true → m = m') → hmlL K p k ≤ 1
  | 0, _ => Nat.zero_le _
  | k + 1, h => by
    unfold hmlL
    by_cases e : lasK K k p = true
    · have : hmlL K p k = 0 := hml_z k (fun m hm => by
        cases hl : lasK K m p with
        | false => rfl
        | true => exact absurd (h m k (by omega) (Nat.lt_succ_self k) hl e) (by omega))
      rw [this, if_pos e]
      exact Nat.le_refl _
    · rw [if_neg e]
      exact hml_u k (fun m m' hm hm' => h m m' (by omega) (by omega))
theorem low_v {p nm : Nat} : ∀ r, r ≤ nm → (lowK K p nm r = -1 ∧ ∀ m, nm - r ≤ m → m < nm → lasK K m p = false) ∨ ∃ f, f < nm ∧ lowK K p nm r = nI f ∧ lasK K f p = true
  | 0, _ => Or.inl ⟨rfl, fun m h1 h2 => by omega⟩
  | r + 1, hr => by
    unfold lowK
    by_cases e : lasK K (nm - (r + 1)) p = true
    · rw [if_pos e]; exact Or.inr ⟨_, by omega, rfl, e⟩
    · rw [if_neg e]
      rcases low_v (p := p) (nm := nm) r (by omega) with ⟨h1, h2⟩ | h
      · refine Or.inl ⟨h1, fun m hm1 hm2 => ?_⟩
        by_cases c : m = nm - (r + 1)
        · rw [c]; exact (by cases hh : lasK K (nm - (r + 1)) p <;> simp_all)
        · exact h2 m (by omega) hm2
      · exact Or.inr h
theorem gPer_of (h : iJ B K) (ht : tie n K S) (hM : iMS K) : gPer K := by
  obtain ⟨g1, g2, g3, g4, g5⟩ := h
  intro i hi
  have hma := ht.ik.2.2.1.1
  refine ⟨ht.1.2.1 i hi, ?_, ?_⟩
  · cases hl : (kpe K i).2.2.2.2.1 with
    | true => exact Or.inl rfl
    | false =>
      refine Or.inr ⟨g2.1 i hi hl, hml_z _ (fun m hm => ?_), ?_⟩
      · cases hh : lasK K m i with
        | false => rfl
        | true =>
          obtain ⟨s1, s2⟩ := las_cs hh
          obtain ⟨d1, d2⟩ := g2.2 m hm s1
          rcases s2 with e | e
          · rw [e, hl] at d1; cases d1
          · rw [e, hl] at d2; cases d2
      · obtain ⟨b, -, -, hq⟩ := ht.P.2.1 i hi
        rcases hq with ⟨-, hq⟩ | ⟨hq, -⟩
        · exact hq
        · rw [hl] at hq; cases hq
  · rcases low_v (K := K) (p := i) (K.1 25) (Nat.le_refl _) with ⟨h1, h2⟩ | ⟨f, f1, f2, f3⟩
    · exact Or.inl ⟨hml_z _ (fun m hm => h2 m (by omega) hm), h1⟩
    · right
      obtain ⟨s1, s2⟩ := las_cs f3
      have hpos : 0 < hml K i := by
        apply Nat.pos_of_ne_zero
        intro e
        have := hml_0 (K.1 25) e f f1
        rw [f3] at this; cases this
      refine ⟨hpos, f, f1, f2, s1, ?_⟩
      rcases s2 with e | e
      · exact Or.inl e
      · right
        refine ⟨e, ?_⟩
        have hw := (hM.1 f f1).2
        rw [e] at hw
        have hu : hml K i ≤ 1 := hml_u _ (fun m m' hm hm' q1 q2 => by
          obtain ⟨a1, a2⟩ := las_cs q1
          obtain ⟨b1, b2⟩ := las_cs q2
          have w1 : (kma K m).2.1 = i := a2.resolve_left (fun c => by have := (hM.1 m hm).1; rw [c, hw] at this; cases this)
          have w2 : (kma K m').2.1 = i := b2.resolve_left (fun c => by have := (hM.1 m' hm').1; rw [c, hw] at this; cases this)
          exact hM.2 m m' hm hm' a1 b1 (w1.trans w2.symm))
        omega
theorem gMar_of (h : iJ B K) (ht : tie n K S) : gMar K := fun m hm => ⟨(h.2.2.1 m hm).1, ht.M.2.1 m hm, (h.2.2.1 m hm).2⟩
/-- how many of those below np are one of two -/
def cnt2 (f : Nat → Bool) : Nat → Nat
  | 0 => 0
  | p + 1 => cnt2 f p + (if f p = true then 1 else 0)
theorem cnt2_0 {f : Nat → Bool} : ∀ np, (∀ p, p < np → f p = false) → cnt2 f np = 0
  | 0, _ => rfl
  | np + 1, h => by unfold cnt2; rw [cnt2_0 np (fun p hp => h p (by omega)), h np (Nat.lt_succ_self _)]; rfl
theorem cnt2_1 {f : Nat → Bool} {a : Nat} : ∀ np, (∀ p, p < np → (f p = true ↔ p = a)) → cnt2 f np = if a < np then 1 else 0
  | 0, _ => by rw [if_neg (Nat.not_lt_zero _)]; rfl
  | np + 1, h => by
    unfold cnt2
    rw [cnt2_1 (a := a) np (fun p hp => h p (by omega))]
    have h1 := h np (Nat.lt_succ_self _)
    by_cases e : np = a
    · rw [if_pos (h1.mpr e), if_neg (by omega), if_pos (by omega)]
    · rw [if_neg (fun hh => e (h1.mp hh))]
      by_cases c : a < np
      · rw [if_pos c, if_pos (by omega)]
      · rw [if_neg c, if_neg (by omega)]
theorem cnt2_2 {f : Nat → Bool} {a b : Nat} (hab : a ≠ b) : ∀ np, (∀ p, p < np → (f p = true ↔ p = a ∨ p = b)) → cnt2 f np = (if a < np then 1 else 0) + (if b < np then 1 else 0)
  | 0, _ => by rw [if_neg (Nat.not_lt_zero _), if_neg (Nat.not_lt_zero _)]; rfl
  | np + 1, h => by
    unfold cnt2
    rw [cnt2_2 hab np (fun p hp => h p (by omega))]
    have h1 := h np (Nat.lt_succ_self _)
    by_cases e : np = a ∨ np = b
    · rw [if_pos (h1.mpr e)]
      rcases e with e | e
      · rw [if_neg (show ¬ a < np by omega), if_pos (show a < np + 1 by omega)]
        by_cases c : b < np
        · rw [if_pos c, if_pos (by omega)]
        · rw [if_neg c, if_neg (by omega)]
      · rw [if_neg (show ¬ b < np by omega), if_pos (show b < np + 1 by omega)]
        by_cases c : a < np
        · rw [if_pos c, if_pos (by omega)]
        · rw [if_neg c, if_neg (by omega)]
    · rw [if_neg (fun hh => e (h1.mp hh)), Nat.add_zero]
      have e1 : (a < np + 1) = (a < np) := propext (by constructor <;> intro _ <;> omega)
      have e2 : (b < np + 1) = (b < np) := propext (by constructor <;> intro _ <;> omega)
      simp only [e1, e2]
def lasT (K : zK) (k : Nat) : Nat → Nat
  | 0 => 0
  | i + 1 => lasT K k i + hmlL K i k
theorem lasT_s (k : Nat) : ∀ np, lasT K (k + 1) np = lasT K k np + cnt2 (fun p => lasK K k p) np
  | 0 => rfl
  | np + 1 => by
    show lasT K (k + 1) np + (hmlL K np k + (if lasK K k np = true then 1 else 0)) = lasT K k np + hmlL K np k + (cnt2 (fun p => lasK K k p) np + (if lasK K k np = true then 1 else 0))
    rw [lasT_s k np]
    omega
theorem lasT_0 : ∀ np, lasT K 0 np = 0
  | 0 => rfl
  | np + 1 => by
    show lasT K 0 np + 0 = 0
    rw [lasT_0 np]
theorem lasS_T : ∀ np, lasS K np = lasT K (K.1 25) np
  | 0 => rfl
  | np + 1 => by
    show lasS K np + hml K np = lasT K (K.1 25) np + hmlL K np (K.1 25)
    rw [lasS_T np]
    rfl
theorem las_two (hma : iMa K) : ∀ k, k ≤ K.1 25 → lasT K k (K.1 13) = 2 * cntL K k
  | 0, _ => by rw [lasT_0]; rfl
  | k + 1, hk => by
    rw [lasT_s, las_two hma k (by omega)]
    obtain ⟨c1, c2, c3⟩ := hma k hk
    show 2 * cntL K k + _ = 2 * (cntL K k + (if (kma K k).2.2.2.1 = 0 then 1 else 0))
    by_cases e : (kma K k).2.2.2.1 = 0
    · rw [if_pos e, cnt2_2 c3 _ (fun p hp => ?_), if_pos c1, if_pos c2]
      · omega
      · unfold lasK
        rw [decide_eq_true e, Bool.true_and, Bool.or_eq_true, decide_eq_true_eq, decide_eq_true_eq]
        exact ⟨fun h => h.imp Eq.symm Eq.symm, fun h => h.imp Eq.symm Eq.symm⟩
    · rw [if_neg e, cnt2_0 _ (fun p hp => ?_)]
      · omega
      · unfold lasK
        rw [decide_eq_false e, Bool.false_and]
theorem las_of (hma : iMa K) : lasS K (K.1 13) = 2 * cntL K (K.1 25) := (lasS_T _).trans (las_two hma _ (Nat.le_refl _))
theorem hrdL {r : Nat → Int32} {s : Nat} : ∀ k, heardL r s k + cnt2 (fun p => decide (r (40 * s + p) = 0)) k = k
  | 0 => rfl
  | k + 1 => by
    have := hrdL (r := r) (s := s) k
    show (heardL r s k + (if r (40 * s + k) = 0 then 0 else 1)) + (cnt2 (fun p => decide (r (40 * s + p) = 0)) k + (if decide (r (40 * s + k) = 0) = true then 1 else 0)) = k + 1
    by_cases e : r (40 * s + k) = 0
    · rw [if_pos e, if_pos (decide_eq_true e)]; omega
    · rw [if_neg e, if_neg (by rw [decide_eq_false e]; decide)]; omega
theorem cnt2_mono {f g : Nat → Bool} : ∀ np, (∀ p, p < np → f p = true → g p = true) → cnt2 f np ≤ cnt2 g np
  | 0, _ => Nat.le_refl _
  | np + 1, h => by
    have ih := cnt2_mono np (fun p hp => h p (by omega))
    have h1 := h np (Nat.lt_succ_self _)
    unfold cnt2
    by_cases e : f np = true
    · rw [if_pos e, if_pos (h1 e)]; omega
    · rw [if_neg e]; split <;> omega
theorem gSui_of (h : iJ B K) (ht : tie n K S) : gSui K := by
  obtain ⟨g1, g2, g3, g4, g5⟩ := h
  intro s hs
  obtain ⟨x, y, x1, x2, x3, x4, x5, x6, x7⟩ := ht.Su.2.1 s hs
  obtain ⟨j1, j2, j3⟩ := g4 s hs
  obtain ⟨c1, c2, c3⟩ := ht.ik.2.2.1.2.1 s hs
  have hb5 := ht.bd.2.2.2.2.1
  obtain ⟨w1, w2, w3⟩ := ht.Su.2.2.2 s hs
  have h39 : (kws K s).1 < 39 := by
    have hz : ∀ p, p < 40 → hrd (kws K s).2.1 p (kws K s).1 = false → S.2.2.1 41 (40 * s + p) = 0 := fun p hp hh => Classical.byContradiction fun hne => by
      have := (w3 p hp).2.2.mpr hne
      rw [hh] at this; cases this
    have q1 := hz _ (by omega) j2
    have q2 := hz _ (by omega) j3
    have e1 := hrdL (r := S.2.2.1 41) (s := s) 40
    have e2 := cnt2_mono (f := fun p => decide (p = (ksu K s).1) || decide (p = (ksu K s).2.1)) (g := fun p => decide (S.2.2.1 41 (40 * s + p) = 0)) 40 (fun p hp hh => by
      rw [Bool.or_eq_true, decide_eq_true_eq, decide_eq_true_eq] at hh
      rw [decide_eq_true_eq]
      rcases hh with e | e
      · rw [e]; exact q1
      · rw [e]; exact q2)
    have e3 := cnt2_2 (f := fun p => decide (p = (ksu K s).1) || decide (p = (ksu K s).2.1)) c3 40 (fun p hp => by rw [Bool.or_eq_true, decide_eq_true_eq, decide_eq_true_eq])
    rw [if_pos (by omega), if_pos (by omega)] at e3
    rw [w2]
    omega
  refine ⟨?_, fun hne => by rw [x4, x5 hne]; rfl, ⟨y, by omega, x4⟩, ?_, h39⟩
  · rcases x6 with e | e | e | e
    · exact Or.inr ⟨j1 (Or.inl e), Or.inl e⟩
    · exact Or.inr ⟨j1 (Or.inr e), Or.inr e⟩
    · exact Or.inl ⟨x7 (by rw [e]; decide), Or.inl e⟩
    · exact Or.inl ⟨x7 (by rw [e]; decide), Or.inr e⟩
  · by_cases e : 2 ≤ (kws K s).1
    · exact Or.inl e
    · right
      unfold wonK
      have := forK_le K s (lawK K 0 6 (nI (K.1 1))) true (kws K s).1
      rw [decide_eq_false (show ¬ 4 ≤ forK K s (lawK K 0 6 (nI (K.1 1))) true (kws K s).1 by omega), Bool.and_false]
theorem sumG_mono {f : Nat → zPe} {np : Nat} (h0 : ∀ p, p < np → 0 ≤ (f p).2.2.2.2.2.1.toInt) : ∀ k, k ≤ np → 0 ≤ sumG f k ∧ sumG f k ≤ sumG f np := by
  intro k hk
  refine ⟨sumG_0 k (fun p hp => h0 p (by omega)), ?_⟩
  obtain ⟨r, rfl⟩ : ∃ r, np = k + r := ⟨np - k, by omega⟩
  clear hk
  induction r with
  | zero => exact Int.le_refl _
  | succ r ih =>
    have := ih (fun p hp => h0 p (by omega))
    have h1 := h0 (k + r) (by omega)
    show sumG f k ≤ sumG f (k + r) + (f (k + r)).2.2.2.2.2.1.toInt
    omega
theorem all_int (h : iJ B K) (ht : tie n K S) (hB : B ≤ 600000000) : ∀ k, k ≤ K.1 13 → (allK K k).toInt = K.2.1.toInt + sumG (kpe K) k
  | 0, _ => (Int.add_zero _).symm
  | k + 1, hk => by
    have ih := all_int h ht hB k (by omega)
    obtain ⟨⟨g1, g2⟩, -⟩ := h
    obtain ⟨a1, a2⟩ := sumG_mono ht.1.2.1 k (by omega)
    obtain ⟨b1, b2⟩ := sumG_mono ht.1.2.1 (k + 1) hk
    have b3 : sumG (kpe K) (k + 1) = sumG (kpe K) k + (kpe K k).2.2.2.2.2.1.toInt := rfl
    have c := ht.1.2.1 k (by omega)
    show (allK K k + (kpe K k).2.2.2.2.2.1).toInt = K.2.1.toInt + sumG (kpe K) (k + 1)
    rw [Int64.toInt_add, ih, b3]
    rw [show K.2.1.toInt + sumG (kpe K) k + (kpe K k).2.2.2.2.2.1.toInt = K.2.1.toInt + (sumG (kpe K) k + (kpe K k).2.2.2.2.2.1.toInt) from Int.add_assoc _ _ _]
    apply Int.bmod_eq_of_le <;> omega
theorem all_B (h : iJ B K) (ht : tie n K S) (hB : B ≤ 600000000) : (allK K (K.1 13)).toInt = B := (all_int h ht hB _ (Nat.le_refl _)).trans h.1.1
theorem B_nn (h : iJ B K) (ht : tie n K S) : 0 ≤ B := by
  have := sumG_0 (K.1 13) ht.1.2.1
  have := h.1.1
  have := h.1.2
  omega
end VIEW
