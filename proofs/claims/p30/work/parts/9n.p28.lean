/-! dies: the marriages end -/
section TIE28
variable {n : Nat} {K K1 : zK} {S S1 : zS}
/-- whom marriages join; a wife is in one marriage that lasts at most -/
def iMS (K : zK) : Prop := (∀ m, m < K.1 25 → (kpe K (kma K m).1).1 = true ∧ (kpe K (kma K m).2.1).1 = false) ∧ ∀ m m', m < K.1 25 → m' < K.1 25 → (kma K m).2.2.2.1 = 0 → (kma K m').2.2.2.1 = 0 → (kma K m).2.1 = (kma K m').2.1 → m = m'
def othK (K : zK) (d m : Nat) : Nat := if (kma K m).1 = d then (kma K m).2.1 else (kma K m).1
def widB (K : zK) (d : Nat) : Nat → Nat → Bool
  | 0, _ => false
  | m + 1, q => widB K d m q || (lasK K m d && decide (othK K d m = q))
theorem widB_t {d q : Nat} : ∀ m, widB K d m q = true ↔ ∃ i, i < m ∧ lasK K i d = true ∧ othK K d i = q
  | 0 => ⟨fun h => (by cases h), fun ⟨i, h, _⟩ => absurd h (Nat.not_lt_zero _)⟩
  | m + 1 => by
    show (widB K d m q || (lasK K m d && decide (othK K d m = q))) = true ↔ _
    rw [Bool.or_eq_true, widB_t m, Bool.and_eq_true, decide_eq_true_eq]
    constructor
    · rintro (⟨i, h1, h2⟩ | h)
      · exact ⟨i, by omega, h2⟩
      · exact ⟨m, by omega, h⟩
    · rintro ⟨i, h1, h2⟩
      by_cases e : i = m
      · subst e; exact Or.inr h2
      · exact Or.inl ⟨i, by omega, h2⟩
theorem las_cs {m d : Nat} (h : lasK K m d = true) : (kma K m).2.2.2.1 = 0 ∧ ((kma K m).1 = d ∨ (kma K m).2.1 = d) := by
  unfold lasK at h
  simp only [Bool.and_eq_true, Bool.or_eq_true, decide_eq_true_eq] at h
  exact h
theorem oth_inj (hM : iMS K) {d m m' : Nat} (hm : m < K.1 25) (hm' : m' < K.1 25) (h : lasK K m d = true) (h' : lasK K m' d = true) (e : othK K d m = othK K d m') : m = m' := by
  obtain ⟨s1, s2⟩ := las_cs h
  obtain ⟨t1, t2⟩ := las_cs h'
  obtain ⟨g1, g2⟩ := hM.1 m hm
  obtain ⟨g3, g4⟩ := hM.1 m' hm'
  unfold othK at e
  by_cases c : (kma K m).1 = d
  · by_cases c' : (kma K m').1 = d
    · rw [if_pos c, if_pos c'] at e
      exact hM.2 m m' hm hm' s1 t1 e
    · have w' := t2.resolve_left c'
      rw [w', ← c, g1] at g4; cases g4
  · have w := s2.resolve_left c
    by_cases c' : (kma K m').1 = d
    · rw [w, ← c', g3] at g2; cases g2
    · have w' := t2.resolve_left c'
      exact hM.2 m m' hm hm' s1 t1 (w.trans w'.symm)
theorem upd_upd (r : Nat → Int32) (m : Nat) (a b : Int32) : upd (upd r m a) m b = upd r m b := by
  funext q
  by_cases e : q = m
  · subst e; rw [pk_us, pk_us]
  · rw [pk_un e, pk_un e, pk_un e]
theorem tie_ow (h : tie n K S) {m : Nat} (hm : m < K.1 25) : tie n (sma K m (maOw (kma K m) 0)) (zsA S 29 (upd (S.2.2.1 29) m 0)) := by
  refine tie_ma h (f := va_up (kma K) m (maOw (kma K m) 0)) rfl (fun i hi => rfl) rfl (fun i _ i2 _ _ => up_ne i2) rfl (fun q hq => ?_) (fun q hq => ?_) (fun q hq => ?_) (fun q hq h30 => ?_)
  · by_cases e : q = m
    · subst e; rw [up_eq]; exact ⟨rfl, rfl⟩
    · rw [up_ne e]; exact ⟨rfl, rfl⟩
  · obtain ⟨d1, d2, d3, d4, d5, d6, d7⟩ := h.M.1 q hq
    by_cases e : q = m
    · subst e; rw [up_eq]; exact ⟨d1, d2, d3, by show upd _ _ _ _ = _; rw [pk_us]; rfl, d5, d6, d7⟩
    · rw [up_ne e]; exact ⟨d1, d2, d3, by show upd _ _ _ _ = _; rw [pk_un e]; exact d4, d5, d6, d7⟩
  · by_cases e : q = m
    · subst e; rw [up_eq]; exact ⟨0, by decide, rfl⟩
    · rw [up_ne e]; exact h.M.2.1 q hq
  · exact h.M.2.2 q hq h30
/-- one marriage ends on both sides -/
theorem en_one (h : tie n K S) {d m : Nat} (hm : m < K.1 25) (hd : d < K.1 13) (hl : (kma K m).1 = d ∨ (kma K m).2.1 = d) : tie n (if (kma K m).1 = d then dowK (sma K m (maSt (kma K m) 2)) m else sma K m (maOw (maSt (kma K m) 2) 0)) (dieK S d m) := by
  have hb5 := h.bd.2.2.2.2.1
  have hst := tie_st h hm 2
  obtain ⟨r1, r2, -⟩ := h.M.1 m hm
  obtain ⟨c1, c2, -⟩ := h.ik.2.2.1.1 m hm
  have ks : kma (sma K m (maSt (kma K m) 2)) m = maSt (kma K m) 2 := up_eq
  unfold dieK dieK1
  by_cases e : (kma K m).1 = d
  · rw [if_pos e, if_pos (by rw [r1, e])]
    have hdw := tie_dow hst (m := m) hm
    have e1 : (kma (sma K m (maSt (kma K m) 2)) m).1 = d := by rw [ks]; exact e
    have e2 : (kma (sma K m (maSt (kma K m) 2)) m).2.1 = (S.2.2.1 27 m).toNatClampNeg := by rw [ks, r2, nI_clamp (by omega)]; rfl
    rw [e1, e2] at hdw
    have e3 : ∀ (A : zS) (a b : Nat), zsA (paysS A m a b) 29 (upd ((paysS A m a b).2.2.1 29) m 0) = paysS A m a b := fun A a b => by
      have : (paysS A m a b).2.2.1 29 = upd (A.2.2.1 29) m 0 := rfl
      rw [this, upd_upd]
      exact zsA_2 _ _ _ _
    rw [e3]
    exact hdw
  · rw [if_neg e, if_neg (by rw [r1]; exact fun hh => e ((nI_eq (by omega) (by omega)).mp hh))]
    have ho := tie_ow hst (m := m) hm
    rw [ks] at ho
    have e4 : sma (sma K m (maSt (kma K m) 2)) m (maOw (maSt (kma K m) 2) 0) = sma K m (maOw (maSt (kma K m) 2) 0) := by
      show (K.1, K.2.1, K.2.2.1, K.2.2.2.1, va_up (va_up (kma K) m (maSt (kma K m) 2)) m (maOw (maSt (kma K m) 2) 0), K.2.2.2.2.2) = _
      rw [up2]; rfl
    rw [e4] at ho
    exact ho
theorem en_ma (K : zK) (d : Nat) : ∀ m m', m ≤ m' → kma (enK K d m).1 m' = kma K m'
  | 0, _, _ => rfl
  | m + 1, m', hm => by
    have ih := en_ma K d m m' (by omega)
    rw [enK]
    split
    · split
      · refine Eq.trans ?_ ih
        show va_up (va_up (kma (enK K d m).1) m _) m _ m' = _
        rw [up_ne (by omega), up_ne (by omega)]
      · refine Eq.trans ?_ ih
        exact up_ne (by omega)
    · exact ih
theorem en_tie (h : tie n K S) {d : Nat} (hd : d < K.1 13) (hM : iMS K) : ∀ m, m ≤ K.1 25 → tie n (enK K d m).1 (dieL S d m) ∧ lsP (enK K d m).2.1 (enK K d m).2.2 (K.1 13) (widB K d m)
  | 0, _ => ⟨h, fun i hi => absurd hi (Nat.not_lt_zero _), fun p hp hP => (by cases hP), fun i j hi => absurd hi (Nat.not_lt_zero _)⟩
  | m + 1, hm => by
    obtain ⟨h1, h2⟩ := en_tie h hd hM m (by omega)
    obtain ⟨f1, f2, f3⟩ := enK_fr d h.ik.2.2.1.1 m (by omega)
    have hk := en_ma K d m m (Nat.le_refl _)
    have hm' : m < K.1 25 := hm
    obtain ⟨c1, c2, c3⟩ := h.ik.2.2.1.1 m hm'
    have hB : dieL S d (m + 1) = if lastsFor ((dieL S d m).2.2.1 26) ((dieL S d m).2.2.1 27) ((dieL S d m).2.2.1 28) m (nI d) = true then dieK (dieL S d m) d m else dieL S d m := rfl
    rw [hB, enK]
    have hW : ∀ q, widB K d (m + 1) q = (widB K d m q || (lasK K m d && decide (othK K d m = q))) := fun _ => rfl
    have hol : ∀ p, widB K d m p = true → lasK K m d = true → p ≠ othK K d m := by
      intro p hp hl e
      obtain ⟨i, i1, i2, i3⟩ := (widB_t m).mp hp
      have := oth_inj hM (by omega) hm' i2 hl (i3.trans e)
      omega
    have ho : lasK K m d = true → othK K d m < K.1 13 := by
      intro _
      unfold othK
      split
      · exact c2
      · exact c1
    have hlx : lasK (enK K d m).1 m d = lasK K m d := by unfold lasK; rw [hk]
    generalize dieL S d m = Y at *
    generalize enK K d m = XL at *
    obtain ⟨X, L⟩ := XL
    have f1 : mfr K X := f1
    have hk : kma X m = kma K m := hk
    have h1 : tie n X Y := h1
    have h2 : lsP L.1 L.2 (K.1 13) (widB K d m) := h2
    have hX1 : X.1 = K.1 := f1.1
    rw [t_las h1 (by rw [hX1]; exact hm') (by rw [hX1]; exact hd)]
    show tie n (if lasK X m d = true then _ else (X, L)).1 (if lasK X m d = true then _ else _) ∧ _
    have hlx : lasK X m d = lasK K m d := hlx
    rw [hlx]
    by_cases hl : lasK K m d = true
    · rw [if_pos hl, if_pos hl]
      obtain ⟨s1, s2⟩ := las_cs hl
      have hone := en_one h1 (d := d) (m := m) (by rw [hX1]; exact hm') (by rw [hX1]; exact hd) (by rw [hk]; exact s2)
      have hls : lsP (L.1 + 1) (va_up L.2 L.1 (othK K d m)) (K.1 13) (widB K d (m + 1)) := by
        refine ls_add h2 (ho hl) ?_ (Nat.le_refl _) (fun p hp hP => ⟨?_, hol p hP hl⟩) (fun p hp hP => ?_)
        · rw [hW, hl, decide_eq_true rfl]
          exact Bool.or_true _
        · rw [hW, hP, Bool.true_or]
        · rw [hW, Bool.or_eq_true, Bool.and_eq_true, decide_eq_true_eq] at hP
          rcases hP with hP | ⟨-, hP⟩
          · exact Or.inr ⟨hp, hP⟩
          · exact Or.inl hP.symm
      show tie n (if (kma X m).1 = d then _ else _ : zK × (Nat × (Nat → Nat))).1 _ ∧ lsP (if (kma X m).1 = d then _ else _ : zK × (Nat × (Nat → Nat))).2.1 (if (kma X m).1 = d then _ else _ : zK × (Nat × (Nat → Nat))).2.2 _ _
      unfold othK at hls
      by_cases e : (kma X m).1 = d
      · rw [if_pos e] at hone
        rw [if_pos e]
        rw [if_pos (hk ▸ e), ← hk] at hls
        exact ⟨hone, hls⟩
      · rw [if_neg e] at hone
        rw [if_neg e]
        rw [if_neg (fun hh => e (by rw [hk]; exact hh)), ← hk] at hls
        exact ⟨hone, hls⟩
    · rw [if_neg hl, if_neg hl]
      refine ⟨h1, ls_cg h2 (fun p hp => ?_)⟩
      have hl' : lasK K m d = false := by revert hl; cases lasK K m d <;> simp
      rw [hW, hl', Bool.false_and, Bool.or_false]
end TIE28
