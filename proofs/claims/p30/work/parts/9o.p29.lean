/-! dies: whom it concerns -/
section TIE29
variable {n : Nat} {K K1 : zK} {S S1 : zS}
/-- two reference's states that differ in the row 47 alone -/
theorem tie_47 (h : tie n K S) (r : Nat → Int32) : tie n K (zsA S 47 r) := by
  have hA : ∀ i, ¬ i = 47 → (zsA S 47 r).2.2.1 i = S.2.2.1 i := fun i hi => up_ne hi
  refine ⟨h.1, h.2.1, tN_c h.N (fun _ _ => rfl) rfl, ⟨cP_c (fun i a b => hA i (by omega)) rfl h.P.1, h.P.2.1, cP0_c (fun i a b => hA i (by omega)) rfl h.P.2.2⟩, ⟨cM_c (fun i a b => hA i (by omega)) h.M.1, h.M.2.1, cM0_c (fun i a b => hA i (by omega)) h.M.2.2⟩,
    ⟨cS_c (fun i a b => hA i (by omega)) rfl rfl h.Su.1, h.Su.2.1, cS0_c (fun i a b => hA i (by omega)) rfl rfl h.Su.2.2.1, h.Su.2.2.2⟩,
    cL_c (fun i a b => hA i (by omega)) h.C.1, cR_c (fun i a b => hA i (by omega)) h.C.2.1, h.C.2.2.1, cFt_c (fun i a b => hA i (by omega)) (fun p hp => rfl) h.C.2.2.2⟩
theorem clr_at (r : Nat → Int32) : ∀ m q, q < m → clrL r m q = 0
  | 0, q, h => absurd h (Nat.not_lt_zero _)
  | m + 1, q, h => by
    show upd (clrL r m) m 0 q = 0
    by_cases e : q = m
    · subst e; exact pk_us
    · rw [pk_un e]; exact clr_at r m q (by omega)
theorem oth_t (h : tie n K S) {m d : Nat} (hm : m < K.1 25) (hd : d < K.1 13) : otherOf S m d = othK K d m := by
  have hb5 := h.bd.2.2.2.2.1
  obtain ⟨r1, r2, -⟩ := h.M.1 m hm
  obtain ⟨c1, c2, -⟩ := h.ik.2.2.1.1 m hm
  unfold otherOf othK
  rw [r1, r2, nI_clamp (by omega), nI_clamp (by omega)]
  by_cases e : (kma K m).1 = d
  · rw [if_pos e, if_pos (by rw [e])]
  · rw [if_neg e, if_neg (fun hh => e ((nI_eq (by omega) (by omega)).mp hh))]
theorem bar_t (h : tie n K S) {q d : Nat} (hq : q < K.1 13) (hd : d < K.1 13) (b : Bool) : isBarred S q d b = (b && !decide (newK K q = newK K d)) := by
  unfold isBarred
  rw [← t_new h hq, ← t_new h hd]
  congr 1
  exact decide_not
theorem wid_pt (h : tie n K S) {d : Nat} (hd : d < K.1 13) (b : Bool) {r : Nat → Int32} (hr : ∀ q, q < K.1 13 → r q = 0) : ∀ m, m ≤ K.1 25 → ∀ q, q < K.1 13 → decide (widL S d b r m q ≠ 0) = (widB K d m q && !(b && !decide (newK K q = newK K d)))
  | 0, _, q, hq => by
    show decide (r q ≠ 0) = (false && _)
    rw [hr q hq]
    rfl
  | m + 1, hm, q, hq => by
    have ih := wid_pt h hd b hr m (by omega)
    have hm' : m < K.1 25 := hm
    have ho := oth_t h hm' hd
    obtain ⟨c1, c2, -⟩ := h.ik.2.2.1.1 m hm'
    have hoK : othK K d m < K.1 13 := by
      unfold othK
      split
      · exact c2
      · exact c1
    show decide (upd (widL S d b r m) (otherOf S m d) (b2i (decide (widL S d b r m (otherOf S m d) ≠ 0) || isWid S m d b)) q ≠ 0) = ((widB K d m q || (lasK K m d && decide (othK K d m = q))) && _)
    unfold isWid
    rw [ho, t_las h hm' hd, bar_t h hoK hd]
    by_cases e : q = othK K d m
    · rw [← e, pk_us, b2i_ne, ih q hq, decide_eq_true rfl, Bool.and_true]
      generalize decide (newK K q = newK K d) = x
      cases widB K d m q <;> cases lasK K m d <;> cases b <;> cases x <;> rfl
    · rw [pk_un e, ih q hq, show decide (othK K d m = q) = false from decide_eq_false (fun hh => e hh.symm), Bool.and_false, Bool.or_false]
theorem dieL_47 (p : Nat) : ∀ k (A : zS), (dieL A p k).2.2.1 47 = A.2.2.1 47
  | 0, _ => rfl
  | k + 1, A => by
    have ih := dieL_47 p k A
    have hB : dieL A p (k + 1) = if lastsFor ((dieL A p k).2.2.1 26) ((dieL A p k).2.2.1 27) ((dieL A p k).2.2.1 28) k (nI p) = true then dieK (dieL A p k) p k else dieL A p k := rfl
    rw [hB]
    generalize dieL A p k = Y at *
    split
    · refine Eq.trans ?_ ih
      have h1 : (dieK Y p k).2.2.1 47 = (dieK1 Y p k).2.2.1 47 := rfl
      rw [h1]
      unfold dieK1
      split <;> rfl
    · exact ih
theorem lowL_none {r : Nat → Int32} {np : Nat} (h : ∀ k, k < np → r k = 0) : ∀ m, m ≤ np → lowL r np m = -1
  | 0, _ => rfl
  | m + 1, hm => by
    unfold lowL
    rw [if_pos (h _ (by omega))]
    exact lowL_none h m (by omega)
theorem lowL_at {r : Nat → Int32} {np l : Nat} (h1 : r l ≠ 0) (h2 : ∀ k, k < l → r k = 0) : ∀ m, m ≤ np → np - m ≤ l → l < np → lowL r np m = nI l
  | 0, _, a, b => by omega
  | m + 1, hm, a, b => by
    unfold lowL
    by_cases e : np - (m + 1) = l
    · rw [e, if_neg h1]
    · rw [if_pos (h2 _ (by omega))]
      exact lowL_at h1 h2 m (by omega) (by omega) b
/-- the lowest of those flagged is the lowest of the list -/
theorem low_eq {r : Nat → Int32} {m np : Nat} {f : Nat → Nat} (h : lsP m f np (fun k => decide (r k ≠ 0))) : lowL r np np = if m = 0 then -1 else nI (lowT f (m - 1)) := by
  by_cases e : m = 0
  · rw [if_pos e]
    refine lowL_none (fun k hk => ?_) np (Nat.le_refl _)
    refine Classical.byContradiction fun hh => ?_
    obtain ⟨i, hi, -⟩ := h.2.1 k hk (decide_eq_true hh)
    omega
  · rw [if_neg e]
    obtain ⟨⟨l1, l2⟩, l3⟩ := low_ls h (by omega)
    refine lowL_at (of_decide_eq_true l2) (fun k hk => ?_) np (Nat.le_refl _) (by omega) l1
    refine Classical.byContradiction fun hh => ?_
    have := l3 k (by omega) (decide_eq_true hh)
    omega
theorem heir_at (S : zS) (p : Nat) (b : Bool) (r : Nat → Int32) : ∀ m k, k < m → heirL S p b r m k = b2i (heirB S p b k)
  | 0, k, h => absurd h (Nat.not_lt_zero _)
  | m + 1, k, h => by
    show upd (heirL S p b r m) m (b2i (heirB S p b m)) k = _
    by_cases e : k = m
    · subst e; exact pk_us
    · rw [pk_un e]; exact heir_at S p b r m k (by omega)
/-- children, by the list -/
theorem chS_ls (K : zK) (p : Nat) : ∀ m, lsP (chS K p m).1 (chS K p m).2 m (fun k => chlK K k p)
  | 0 => ⟨fun i hi => absurd hi (Nat.not_lt_zero _), fun q hq => absurd hq (Nat.not_lt_zero _), fun i j hi => absurd hi (Nat.not_lt_zero _)⟩
  | m + 1 => by
    have ih := chS_ls K p m
    rw [chS]
    by_cases e : chlK K m p = true
    · rw [if_pos e]
      refine ls_add ih (Nat.lt_succ_self _) e (Nat.le_succ _) (fun q hq hP => ⟨hP, by omega⟩) (fun q hq hP => ?_)
      by_cases eq : q = m
      · exact Or.inl eq
      · exact Or.inr ⟨by omega, hP⟩
    · rw [if_neg e]
      obtain ⟨a1, a2, a3⟩ := ih
      refine ⟨fun i hi => ⟨by have := (a1 i hi).1; omega, (a1 i hi).2⟩, fun q hq hP => ?_, a3⟩
      by_cases eq : q = m
      · rw [eq] at hP; exact absurd hP e
      · exact a2 q (by omega) hP
theorem chl_cg {A B : zK} {k p : Nat} (h : ∃ g, kpe A k = peGoo (kpe B k) g) : chlK A k p = chlK B k p := by
  obtain ⟨g, hg⟩ := h
  unfold chlK
  rw [hg]
  rfl
/-- the list of those who are not barred -/
theorem diQ_ls {p : Nat} {s : Nat × (Nat → Nat)} {np : Nat} {P : Nat → Bool} (h : lsP s.1 s.2 np P) {b : Bool} (hb : b = decide (lawK K (diL K p) 5 (nI (K.1 1)) = 1)) : lsP (diQ K p s).1 (diQ K p s).2.2.2 np (fun q => P q && !(b && !decide (newK K q = newK K p))) := by
  unfold diQ
  by_cases e : lawK K (diL K p) 5 (nI (K.1 1)) = 1
  · rw [if_pos e]
    have := rm_ls (K := K) (fa := newK K p) s.1 (tlA s) P h (Nat.le_refl _) (fun i h1 h2 => by have h2 : i < s.1 := h2; omega)
    refine ls_cg this (fun q hq => ?_)
    rw [hb, decide_eq_true e, Bool.true_and, Bool.not_not]
  · rw [if_neg e]
    refine ls_cg h (fun q hq => ?_)
    rw [hb, decide_eq_false e, Bool.false_and]
    exact (Bool.and_true _).symm
end TIE29
