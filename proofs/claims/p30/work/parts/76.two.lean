/-! two objects of the class in one memory -/
theorem linfo_k {K : zK} {j : Nat} {q : zLi} (h : linfo K j = some q) (i : Nat) : (q.2.2.2 i).1 < 14 := by
  unfold linfo at h
  split at h
  · cases h; exact (by decide : 9 < 14)
  · split at h
    · cases h; exact (by decide : 10 < 14)
    · split at h
      · cases h; exact (by decide : 11 < 14)
      · split at h
        · cases h; exact (by decide : 12 < 14)
        · split at h
          · split at h
            · cases h; exact (by decide : 13 < 14)
            · cases h
          · cases hk : ktl K j with
            | none => rw [hk] at h; cases h
            | some t => rw [hk] at h; cases h; exact (by decide : 10 < 14)
/-- the class's part of a picture speaks of addresses of the class's tags alone -/
theorem kva_adr {g : zGh} {K : zK} {ad ad1 : zg → Nat} {X Y : zg → Option va_E} (h : ∀ t : zg, t.1 < 14 → ad t = ad1 t) {t : zg} (ht : t.1 < 14) : kva g K ad X t = kva g K ad1 Y t := by
  have e : ∀ k i, k < 14 → ad (k, i) = ad1 (k, i) := fun k i hk => h (k, i) hk
  obtain ⟨a, b⟩ := t
  match a, ht with
  | 0, _ => show (if b = 0 then some (mainE ad K) else none) = (if b = 0 then some (mainE ad1 K) else none); unfold mainE; rw [e 1 0 (by decide), e 7 0 (by decide), e 6 0 (by decide), e 7 1 (by decide), e 7 2 (by decide), e 7 3 (by decide)]
  | 1, _ => show (if b ≤ K.1 2 then some (zob 3 [.ref (ad (2, b))]) else none) = (if b ≤ K.1 2 then some (zob 3 [.ref (ad1 (2, b))]) else none); rw [e 2 b (by decide)]
  | 2, _ => show (if b ≤ K.1 2 then some (zac g 7 (fun w => if w < 7 then some (ad (3, lch b w)) else none)) else none) = (if b ≤ K.1 2 then some (zac g 7 (fun w => if w < 7 then some (ad1 (3, lch b w)) else none)) else none); rw [show (fun w => if w < 7 then some (ad (3, lch b w)) else none) = (fun w => if w < 7 then some (ad1 (3, lch b w)) else none) from funext fun w => by rw [e 3 _ (by decide)]]
  | 3, _ => show (if chA K b then some (chrE ad b (kch K b)) else none) = (if chA K b then some (chrE ad1 b (kch K b)) else none); unfold chrE; rw [e 4 b (by decide), e 5 b (by decide)]
  | 4, _ => rfl
  | 5, _ => rfl
  | 6, _ => show (if b = 0 then some (zac g 4 (fun w => if w < 4 then some (ad (3, w)) else none)) else none) = (if b = 0 then some (zac g 4 (fun w => if w < 4 then some (ad1 (3, w)) else none)) else none); rw [show (fun w => if w < 4 then some (ad (3, w)) else none) = (fun w => if w < 4 then some (ad1 (3, w)) else none) from funext fun w => by rw [e 3 _ (by decide)]]
  | 7, _ =>
    show (linfo K b).map (lisE g ad b) = (linfo K b).map (lisE g ad1 b)
    rw [show lisE g ad b = lisE g ad1 b from funext fun q => by unfold lisE; rw [e 8 b (by decide)]]
  | 8, _ =>
    show ((linfo K b).bind fun q => if q.2.1 = 0 then none else some (lirE g ad q)) = ((linfo K b).bind fun q => if q.2.1 = 0 then none else some (lirE g ad1 q))
    cases hl : linfo K b with
    | none => rfl
    | some q =>
      show (if q.2.1 = 0 then none else some (lirE g ad q)) = (if q.2.1 = 0 then none else some (lirE g ad1 q))
      unfold lirE
      rw [show (fun i => if i < q.1 then some (ad (q.2.2.2 i)) else none) = (fun i => if i < q.1 then some (ad1 (q.2.2.2 i)) else none) from funext fun i => by rw [h _ (linfo_k hl i)]]
  | 9, _ => show (if b < K.1 2 then some (zob 2 [.ref (ad (1, b + 1)), .ref (ad (3, rch b))]) else none) = (if b < K.1 2 then some (zob 2 [.ref (ad1 (1, b + 1)), .ref (ad1 (3, rch b))]) else none); rw [e 1 _ (by decide), e 3 _ (by decide)]
  | 10, _ =>
    show (if b < K.1 13 then some (perE ad b (kpe K b)) else none) = (if b < K.1 13 then some (perE ad1 b (kpe K b)) else none)
    unfold perE
    rw [e 3 _ (by decide), show (fun q => ad (10, q)) = (fun q => ad1 (10, q)) from funext fun q => e 10 q (by decide)]
  | 11, _ => show (if b < K.1 25 then some (marE ad (kma K b)) else none) = (if b < K.1 25 then some (marE ad1 (kma K b)) else none); unfold marE; rw [e 10 _ (by decide), e 10 _ (by decide)]
  | 12, _ => show (if b < K.1 33 then some (suiE ad b (ksu K b)) else none) = (if b < K.1 33 then some (suiE ad1 b (ksu K b)) else none); unfold suiE; rw [e 10 _ (by decide), e 10 _ (by decide), e 7 _ (by decide)]
  | 13, _ => show (if b / 64 < K.1 33 ∧ b % 64 < (kws K (b / 64)).1 then some (zob 7 [.ref (ad (10, (kws K (b / 64)).2.1 (b % 64))), .int (b2i ((kws K (b / 64)).2.2 (b % 64)))]) else none) = (if b / 64 < K.1 33 ∧ b % 64 < (kws K (b / 64)).1 then some (zob 7 [.ref (ad1 (10, (kws K (b / 64)).2.1 (b % 64))), .int (b2i ((kws K (b / 64)).2.2 (b % 64)))]) else none); rw [e 10 _ (by decide)]
def nX : zg → Option va_E := fun _ => none
def shX (va : zg → Option va_E) : zg → Option va_E := fun t => if t.1 < 28 then va (t.1 - 14, t.2) else none
def jnA (aa ab : zg → Nat) : zg → Nat := fun t => if t.1 < 14 then aa t else ab (t.1 - 14, t.2)
/-- both pictures, apart -/
def zW2 (g : zGh) (Ka Kb : zK) (aa ab : zg → Nat) (M : zM) : Prop :=
  zP g Ka nX aa M ∧ zP g Kb nX ab M ∧ ∀ t u, kva g Ka aa nX t ≠ none → kva g Kb ab nX u ≠ none → aa t ≠ ab u
section Z2
variable {g : zGh} {Ka Kb Ka1 : zK} {aa ab ad1 : zg → Nat} {M M1 : zM}
theorem kva_n {K : zK} {ad : zg → Nat} {t : zg} (h : kva g K ad nX t ≠ none) : t.1 < 14 := by
  by_cases e : t.1 < 14
  · exact e
  · exact absurd (kva_ge (X := nX) (by omega)) h
theorem zW2.sym (h : zW2 g Ka Kb aa ab M) : zW2 g Kb Ka ab aa M := ⟨h.2.1, h.1, fun t u ht hu e => h.2.2 u t hu ht e.symm⟩
theorem zW2.lo (h : zW2 g Ka Kb aa ab M) {t : zg} (ht : t.1 < 14) : kva g Ka (jnA aa ab) (shX (kva g Kb ab nX)) t = kva g Ka aa nX t := kva_adr (fun u hu => if_pos hu) ht
theorem zW2.hi (h : zW2 g Ka Kb aa ab M) {t : zg} (ht : ¬ t.1 < 14) : kva g Ka (jnA aa ab) (shX (kva g Kb ab nX)) t = if t.1 < 28 then kva g Kb ab nX (t.1 - 14, t.2) else none := kva_ge (by omega)
theorem zW2.into (h : zW2 g Ka Kb aa ab M) : zP g Ka (shX (kva g Kb ab nX)) (jnA aa ab) M := by
  have hi : ∀ t : zg, ¬ t.1 < 14 → kva g Ka (jnA aa ab) (shX (kva g Kb ab nX)) t ≠ none → t.1 < 28 ∧ kva g Kb ab nX (t.1 - 14, t.2) ≠ none := fun t ht hn => by
    rw [h.hi ht] at hn
    by_cases e : t.1 < 28
    · rw [if_pos e] at hn; exact ⟨e, hn⟩
    · rw [if_neg e] at hn; exact absurd rfl hn
  refine ⟨fun t e ht => ?_, fun t u ht hu he => ?_⟩
  · by_cases h14 : t.1 < 14
    · rw [h.lo h14] at ht
      show M (jnA aa ab t) = _
      rw [show jnA aa ab t = aa t from if_pos h14]
      exact h.1.1 t e ht
    · obtain ⟨h28, -⟩ := hi t h14 (by rw [ht]; simp)
      rw [h.hi h14, if_pos h28] at ht
      show M (jnA aa ab t) = _
      rw [show jnA aa ab t = ab (t.1 - 14, t.2) from if_neg h14]
      exact h.2.1.1 _ e ht
  · by_cases a14 : t.1 < 14
    · rw [h.lo a14] at ht
      by_cases b14 : u.1 < 14
      · rw [h.lo b14] at hu
        rw [show jnA aa ab t = aa t from if_pos a14, show jnA aa ab u = aa u from if_pos b14] at he
        exact h.1.2 t u ht hu he
      · obtain ⟨-, hu2⟩ := hi u b14 hu
        rw [show jnA aa ab t = aa t from if_pos a14, show jnA aa ab u = ab (u.1 - 14, u.2) from if_neg b14] at he
        exact absurd he (h.2.2 t _ ht hu2)
    · obtain ⟨-, ht2⟩ := hi t a14 ht
      by_cases b14 : u.1 < 14
      · rw [h.lo b14] at hu
        rw [show jnA aa ab t = ab (t.1 - 14, t.2) from if_neg a14, show jnA aa ab u = aa u from if_pos b14] at he
        exact absurd he.symm (h.2.2 u _ hu ht2)
      · obtain ⟨-, hu2⟩ := hi u b14 hu
        rw [show jnA aa ab t = ab (t.1 - 14, t.2) from if_neg a14, show jnA aa ab u = ab (u.1 - 14, u.2) from if_neg b14] at he
        have := h.2.1.2 _ _ ht2 hu2 he
        obtain ⟨t1, t2⟩ := t
        obtain ⟨u1, u2⟩ := u
        have e1 : t1 - 14 = u1 - 14 := congrArg Prod.fst this
        have e2 : t2 = u2 := congrArg Prod.snd this
        have a14 : ¬ t1 < 14 := a14
        have b14 : ¬ u1 < 14 := b14
        have : t1 = u1 := by omega
        rw [this, e2]
theorem zW2.back (h : zW2 g Ka Kb aa ab M) (h1 : zP g Ka1 (shX (kva g Kb ab nX)) ad1 M1) (h2 : ∀ t : zg, (t.1 = 0 ∨ 14 ≤ t.1) → ad1 t = jnA aa ab t) : zW2 g Ka1 Kb ad1 ab M1 ∧ ad1 (0, 0) = aa (0, 0) := by
  have hb : ∀ t : zg, kva g Kb ab nX t ≠ none → kva g Ka1 ad1 (shX (kva g Kb ab nX)) (t.1 + 14, t.2) = kva g Kb ab nX t ∧ ad1 (t.1 + 14, t.2) = ab t := fun t ht => by
    have h14 := kva_n ht
    have e0 : ((t.1 + 14 - 14, t.2) : zg) = t := by rw [Nat.add_sub_cancel]
    refine ⟨?_, ?_⟩
    · rw [kva_ge (Nat.le_add_left 14 _)]
      show (if t.1 + 14 < 28 then kva g Kb ab nX (t.1 + 14 - 14, t.2) else none) = _
      rw [if_pos (by omega), e0]
    · rw [h2 _ (Or.inr (Nat.le_add_left 14 _))]
      show (if t.1 + 14 < 14 then aa (t.1 + 14, t.2) else ab (t.1 + 14 - 14, t.2)) = _
      rw [if_neg (by omega), e0]
  have ha : ∀ t : zg, kva g Ka1 ad1 nX t ≠ none → kva g Ka1 ad1 (shX (kva g Kb ab nX)) t = kva g Ka1 ad1 nX t := fun t ht => kva_lt (kva_n ht)
  refine ⟨⟨⟨fun t e ht => ?_, fun t u ht hu he => ?_⟩, ⟨fun t e ht => ?_, h.2.1.2⟩, fun t u ht hu he => ?_⟩, ?_⟩
  · exact h1.1 t e ((ha t (by rw [ht]; simp)).trans ht)
  · exact h1.2 t u (by rw [ha t ht]; exact ht) (by rw [ha u hu]; exact hu) he
  · obtain ⟨b1, b2⟩ := hb t (by rw [ht]; simp)
    have := h1.1 (t.1 + 14, t.2) e (b1.trans ht)
    rw [b2] at this
    exact this
  · obtain ⟨b1, b2⟩ := hb u hu
    have := h1.2 t (u.1 + 14, u.2) (by rw [ha t ht]; exact ht) (by rw [b1]; exact hu) (by rw [b2]; exact he)
    have h14 := kva_n ht
    rw [this] at h14
    exact absurd h14 (by show ¬ u.1 + 14 < 14; omega)
  · exact h2 (0, 0) (Or.inl rfl)
theorem zW2.oa (h : zW2 g Ka Kb aa ab M) : M (aa (0, 0)) = some (mainE aa Ka) := h.1.main
/-- a call on one of the two -/
theorem zW2.dm (h : zW2 g Ka Kb aa ab M) (h1 : dM g Ka1 (shX (kva g Kb ab nX)) (jnA aa ab) M1) : ∃ a1, zW2 g Ka1 Kb a1 ab M1 ∧ a1 (0, 0) = aa (0, 0) := by
  obtain ⟨ad1, p1, p2⟩ := h1
  exact ⟨ad1, (h.back p1 p2).1, (h.back p1 p2).2⟩
end Z2
