/-! pass: the one who turns; who follows -/
section TIE21
variable {n : Nat} {K K1 : zK} {S S1 : zS}
theorem dR_stay (h : dRk K S) {p : Nat} (hp : p < K.1 13) : dRk (du1 K p) (staysS S p) := by
  obtain ⟨e1, e13, l13, l1, l2, hP, hF⟩ := h
  refine ⟨e1, e13, l13, l1, l2, fun q hq => ?_, fun q hq => ?_⟩
  · have hq : q < K.1 13 := hq
    obtain ⟨c1, c2, c3, c4, c5, c6, c7, c8⟩ := hP q hq
    show S.2.2.1 14 q = b2i (va_up (kpe K) p (peTurn (kpe K p) (-1) (-1)) q).1 ∧ S.2.2.1 15 q = ocode (va_up (kpe K) p (peTurn (kpe K p) (-1) (-1)) q).2.1 ∧ S.2.2.1 16 q = ocode (va_up (kpe K) p (peTurn (kpe K p) (-1) (-1)) q).2.2.1 ∧ S.2.2.1 17 q = (va_up (kpe K) p (peTurn (kpe K p) (-1) (-1)) q).2.2.2.1 ∧ S.2.2.1 18 q = b2i (!(va_up (kpe K) p (peTurn (kpe K p) (-1) (-1)) q).2.2.2.2.1) ∧ S.2.2.2 19 q = (va_up (kpe K) p (peTurn (kpe K p) (-1) (-1)) q).2.2.2.2.2.1 ∧ upd (S.2.2.1 22) p (-1) q = (va_up (kpe K) p (peTurn (kpe K p) (-1) (-1)) q).2.2.2.2.2.2.1 ∧ upd (S.2.2.1 23) p (-1) q = (va_up (kpe K) p (peTurn (kpe K p) (-1) (-1)) q).2.2.2.2.2.2.2.1
    by_cases e : q = p
    · subst e; rw [up_eq, pk_us, pk_us]; exact ⟨c1, c2, c3, c4, c5, c6, rfl, rfl⟩
    · rw [up_ne e, pk_un e, pk_un e]; exact ⟨c1, c2, c3, c4, c5, c6, c7, c8⟩
  · have hq : q < K.1 13 := hq
    obtain ⟨w1, w2, w3⟩ := hF q hq
    refine ⟨w1, ?_, w3⟩
    show (kch K (100 + q)).2.2.1 0 = (va_up (kpe K) p (peTurn (kpe K p) (-1) (-1)) q).2.2.2.1
    by_cases e : q = p
    · subst e; rw [up_eq]; exact w2
    · rw [up_ne e]; exact w2
/-- marks alone change -/
theorem dR_mark (h : dRk K S) {f : Nat → zPe} {r : Nat → Int32} (hf : ∀ q, ∃ v, f q = peLea (kpe K q) v) : dRk (K.1, K.2.1, K.2.2.1, f, K.2.2.2.2) (zsA S 24 r) := by
  obtain ⟨e1, e13, l13, l1, l2, hP, hF⟩ := h
  refine ⟨e1, e13, l13, l1, l2, fun q hq => ?_, fun q hq => ?_⟩
  · obtain ⟨v, hv⟩ := hf q
    show S.2.2.1 14 q = b2i (f q).1 ∧ S.2.2.1 15 q = ocode (f q).2.1 ∧ S.2.2.1 16 q = ocode (f q).2.2.1 ∧ S.2.2.1 17 q = (f q).2.2.2.1 ∧ S.2.2.1 18 q = b2i (!(f q).2.2.2.2.1) ∧ S.2.2.2 19 q = (f q).2.2.2.2.2.1 ∧ S.2.2.1 22 q = (f q).2.2.2.2.2.2.1 ∧ S.2.2.1 23 q = (f q).2.2.2.2.2.2.2.1
    rw [hv]
    exact hP q hq
  · obtain ⟨v, hv⟩ := hf q
    obtain ⟨w1, w2, w3⟩ := hF q hq
    refine ⟨w1, ?_, w3⟩
    show (kch K (100 + q)).2.2.1 0 = (f q).2.2.2.1
    rw [hv]
    exact w2
theorem dR_fT (h : dRk K S) {p : Nat} (hp : p < K.1 13) (hk : (kch K (100 + p)).2.1 ≤ 1000) : fT S p = (kch K (100 + p)).2.1 := by
  unfold fT
  rw [(h.2.2.2.2.2.2 p hp).1, nI_pred, nI_clamp (by omega)]
theorem dR_row (h : dRk K S) {p i : Nat} (hp : p < K.1 13) (hi : i ≤ (kch K (100 + p)).2.1) : S.2.2.1 21 (1024 * p + i) / 8 = (kch K (100 + p)).2.2.1 i ∧ S.2.2.1 21 (1024 * p + i) - S.2.2.1 21 (1024 * p + i) / 8 * 8 = (kch K (100 + p)).2.2.2 i := by
  obtain ⟨e1, e13, l13, l1, l2, hP, hF⟩ := h
  obtain ⟨e, v, f0, a1, a2, a3, a4, a5, -⟩ := (hF p hp).2.2.1 i hi
  rw [a5, a1, a3, show (8 : Int32) = nI 8 from rfl, pk_rem (by omega) (by decide) (by decide), pk_div (by omega) (by decide) (by decide)]
  constructor
  · congr 1; omega
  · congr 1; omega
theorem dR_undo (h : dRk K S) {p : Nat} (hp : p < K.1 13) (f : Int32) : undoB S p (kch K (100 + p)).2.1 f = undoK K p f := by
  unfold undoB undoK
  by_cases e : 1 ≤ (kch K (100 + p)).2.1
  · have i1 : 1024 * p + ((kch K (100 + p)).2.1 + 1) - 2 = 1024 * p + ((kch K (100 + p)).2.1 - 1) := by omega
    have i2 : 1024 * p + ((kch K (100 + p)).2.1 + 1) - 1 = 1024 * p + (kch K (100 + p)).2.1 := by omega
    rw [i1, i2, (dR_row h hp (i := (kch K (100 + p)).2.1 - 1) (by omega)).2, (dR_row h hp (Nat.le_refl _)).1, ← h.1, Bool.and_assoc]
  · rw [decide_eq_false e]; rfl
theorem dR_turn1 (h : dRk K S) {p v f0 : Nat} (hp : p < K.1 13) (hkp : ∀ p, p < K.1 13 → (kch K (100 + p)).2.1 ≤ 1000) (hne : ¬ (kch K (100 + p)).2.2.1 (kch K (100 + p)).2.1 = nI (K.1 1)) (hv : v < K.1 2) (hf : (kch K (rch v)).2.2.1 0 = nI f0) (hf0 : f0 ≤ K.1 1) : dRk (tbtK K p (nI v)) (turn1 S p (fT S p) (nI v)) := by
  rw [dR_fT h hp (hkp p hp)]
  unfold turn1 tbtK tbtC
  rw [dR_undo h hp]
  by_cases e : undoK K p (nI v) = true
  · rw [if_pos e, if_pos e]
    refine dR_drop h hp ?_
    unfold undoK at e
    simp only [Bool.and_eq_true, decide_eq_true_eq] at e
    exact e.1.1
  · rw [if_neg e, if_neg e]
    exact dR_tell h hp hkp hne hv hf hf0
theorem dR_newN (h : dRk K S) {p : Nat} (hp : p < K.1 13) (hk : (kch K (100 + p)).2.1 ≤ 1000) : newK K p = faithAt S p (nI (S.1 1)) := by
  have hft := dR_fT h hp hk
  unfold faithAt faithOn newK chN
  rw [hft]
  have : fIx (S.2.2.1 21) p (nI (S.1 1)) (kch K (100 + p)).2.1 = (kch K (100 + p)).2.1 := by
    have hr := dR_row h hp (Nat.le_refl (kch K (100 + p)).2.1)
    obtain ⟨e1, e13, l13, l1, l2, hP, hF⟩ := h
    obtain ⟨e, v, f0, a1, a2, -⟩ := (hF p hp).2.2.1 _ (Nat.le_refl _)
    cases hkk : (kch K (100 + p)).2.1 with
    | zero => rfl
    | succ k =>
      show (if nI (S.1 1) < S.2.2.1 21 (1024 * p + (k + 1)) / 8 then _ else k + 1) = _
      rw [← hkk, hr.1, a1, if_neg (by rw [Int32.lt_iff_toInt_lt, nI_toInt (by omega), nI_toInt (by omega)]; omega)]
  rw [this, (dR_row h hp (Nat.le_refl _)).2]
/-- whom a person follows -/
theorem dR_par (h : dRk K S) {k : Nat} (hk : k < K.1 13) (hpa : iPa K) : parentOf S k = ocode (ldrOf (kpe K k)) ∧ ∀ q, ldrOf (kpe K k) = some q → q < k := by
  obtain ⟨e1, e13, l13, l1, l2, hP, hF⟩ := h
  obtain ⟨-, r2, r3, -⟩ := hP k hk
  obtain ⟨p1, p2⟩ := hpa k hk
  unfold parentOf ldrOf
  rw [r2, r3]
  cases e3 : (kpe K k).2.2.1 with
  | none =>
    rw [if_pos (show ocode none = -1 from rfl)]
    exact ⟨rfl, p1⟩
  | some q =>
    have := p2 q e3
    rw [if_neg (show ¬ ocode (some q) = -1 from nI_m1 (by omega))]
    exact ⟨rfl, fun q' hq => by cases hq; exact this⟩
theorem dR_fol (h : dRk K S) {k : Nat} (hk : k < K.1 13) (hpa : iPa K) (hkk : (kch K (100 + k)).2.1 ≤ 1000) {r : Nat → Int32} (hm : ∀ q, q < k → decide (r q ≠ 0) = decide (¬ (kpe K q).2.2.2.2.2.2.2.2 = 0)) (f : Int32) : follows (zsA S 24 r) k f = folK K k f := by
  obtain ⟨q1, q2⟩ := dR_par h hk hpa
  have hn := dR_newN h hk hkk
  have hb := h.1
  have l13 := h.2.2.1
  have r4 := (h.2.2.2.2.2.1 k hk).2.2.2.1
  have r5 := (h.2.2.2.2.2.1 k hk).2.2.2.2.1
  unfold follows folK
  show (decide (parentOf S k ≠ -1) && (decide (r (parentOf S k).toNatClampNeg ≠ 0) && (decide (S.2.2.1 18 k = 0) && (decide (nI (S.1 1) - S.2.2.1 17 k < 5000) && decide (faithAt S k (nI (S.1 1)) ≠ f))))) = (ledOf K (ldrOf (kpe K k)) && ((kpe K k).2.2.2.2.1 && (decide (nI (K.1 1) - (kpe K k).2.2.2.1 < 5000) && decide (¬ newK K k = f))))
  have e5 : decide (S.2.2.1 18 k = 0) = (kpe K k).2.2.2.2.1 := by rw [r5]; cases (kpe K k).2.2.2.2.1 <;> rfl
  rw [q1, ← hn, e5, r4, hb]
  cases hl : ldrOf (kpe K k) with
  | none =>
    show (decide ((-1 : Int32) ≠ -1) && _) = (false && _)
    rw [decide_eq_false (fun hh => hh rfl), Bool.false_and, Bool.false_and]
  | some q =>
    have hqk := q2 q hl
    show (decide (nI q ≠ -1) && (decide (r (nI q).toNatClampNeg ≠ 0) && _)) = (decide (¬ (kpe K q).2.2.2.2.2.2.2.2 = 0) && _)
    rw [nI_clamp (by omega), hm q hqk, decide_eq_true (nI_m1 (by omega)), Bool.true_and]
end TIE21
