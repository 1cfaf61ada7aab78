/-! sue, testify -/
section TIE13
variable {n : Nat} {K K1 : zK} {S S1 : zS}
theorem t_sei (h : tie n K S) {p q : Nat} (hp : p < K.1 13) (hq : q < K.1 13) (hpq : p ≠ q) : isVoid S (nI p) (nI q) = seiL K p q (K.1 33) := by
  unfold isVoid
  rw [← h.N.2.2.2.2.2.2.1]
  have hb5 := h.bd.2.2.2.2.1
  have key : ∀ k, k ≤ K.1 33 → voidL (S.2.2.1 34) (S.2.2.1 35) (S.2.2.1 39) (nI p) (nI q) k = seiL K p q k := by
    intro k
    induction k with
    | zero => intro _; rfl
    | succ k ih =>
      intro hk
      obtain ⟨a1, a2, a3, a4, a5, -⟩ := h.Su.1 k (by omega)
      obtain ⟨d1, d2, d3⟩ := h.ik.2.2.1.2.1 k (by omega)
      show (voidL _ _ _ _ _ k || _) = (seiL K p q k || _)
      rw [ih (by omega), a1, a2, a5]
      congr 1
      unfold btwK
      rw [Bool.eq_iff_iff]
      simp only [Bool.and_eq_true, Bool.or_eq_true, decide_eq_true_eq, nI_eq (show (ksu K k).1 < 2 ^ 31 by omega) (show p < 2 ^ 31 by omega), nI_eq (show (ksu K k).1 < 2 ^ 31 by omega) (show q < 2 ^ 31 by omega), nI_eq (show (ksu K k).2.1 < 2 ^ 31 by omega) (show p < 2 ^ 31 by omega), nI_eq (show (ksu K k).2.1 < 2 ^ 31 by omega) (show q < 2 ^ 31 by omega)]
      constructor
      · rintro ⟨h1 | h1, h2⟩
        · exact ⟨h2, Or.inl h1.1, Or.inr h1.2⟩
        · exact ⟨h2, Or.inr h1.2, Or.inl h1.1⟩
      · rintro ⟨h2, h3 | h3, h4 | h4⟩
        · exact absurd (h3.symm.trans h4) hpq
        · exact ⟨Or.inl ⟨h3, h4⟩, h2⟩
        · exact ⟨Or.inr ⟨h4, h3⟩, h2⟩
        · exact absurd (h3.symm.trans h4) hpq
  exact key _ (Nat.le_refl _)
theorem sumK_0 {r : Nat → Int32} {s : Nat} (h0 : ∀ k, k < 40 → r (40 * s + k) = 0) (b : Bool) (g : Nat → Nat) : ∀ m, m ≤ 40 → sumK r s b g m = 0
  | 0, _ => rfl
  | m + 1, hm => by
    show sumK r s b g m + _ = 0
    rw [sumK_0 h0 b g m (by omega), h0 m (by omega), if_neg (by cases b <;> decide)]
theorem heardL_0 {r : Nat → Int32} {s : Nat} (h0 : ∀ k, k < 40 → r (40 * s + k) = 0) : ∀ m, m ≤ 40 → heardL r s m = 0
  | 0, _ => rfl
  | m + 1, hm => by
    show heardL r s m + _ = 0
    rw [heardL_0 h0 m (by omega), h0 m (by omega), if_pos rfl]
theorem p_sue (h : tie n K S) (hn : n < 512) (p q c x : Int32) : lcal tie n K (x_sue K p q c x) [1, 2, 3] (k_sue K p q c x) (o_sue S p q c x).1 (nI (K.1 33) = (o_sue S p q c x).2) := by
  unfold x_sue o_sue
  have h13 := h.N.2.2.2.2.1
  have h33 := h.N.2.2.2.2.2.2.1
  have hb1 := h.bd.1
  have hb2 := h.bd.2.1
  have hb5 := h.bd.2.2.2.2.1
  have hb7 := h.bd.2.2.2.2.2.2
  have hN1 := h.N.1
  rw [h13, okc_K h, rng_w]
  by_cases e1 : (zix p (S.1 13) && (zix q (S.1 13) && okK K c)) = false
  · rw [if_pos e1, if_pos e1]
    exact lcal_thr h hn (okcd_3 (by decide)) 0 1 rfl
  rw [if_neg e1, if_neg e1]
  have e1 := bF e1
  simp only [Bool.and_eq_true] at e1
  obtain ⟨z1, z2, z3⟩ := e1
  obtain ⟨i, hi, rfl⟩ := zix_of z1 (by omega)
  obtain ⟨j, hj, rfl⟩ := zix_of z2 (by omega)
  obtain ⟨l, l1, rfl, -⟩ := okK_of z3 hb2
  have hi' : i < K.1 13 := by omega
  have hj' : j < K.1 13 := by omega
  by_cases e2 : (decide (nI i ≠ nI j) && rng x 1 1000000) = false
  · rw [if_pos e2, if_pos e2]
    exact lcal_thr h hn (okcd_3 (by decide)) 1 2 rfl
  rw [if_neg e2, if_neg e2]
  have e2 := bF e2
  simp only [Bool.and_eq_true, decide_eq_true_eq] at e2
  obtain ⟨n1, n2⟩ := e2
  have hij : i ≠ j := fun e => n1 (by rw [e])
  obtain ⟨x0, x1, x2, rfl⟩ := rng_N (a := 1) (b := 1000000) (by decide) (by decide) n2
  rw [nI_clamp (by omega), nI_clamp (by omega), t_liv h hi', t_liv h hj']
  have e33 : decide (S.1 33 ≠ 20) = decide (K.1 33 < 20) := by rw [decide_eq_decide]; omega
  rw [e33, ← Bool.and_assoc]
  by_cases e3 : (((kpe K i).2.2.2.2.1 && (kpe K j).2.2.2.2.1) && decide (K.1 33 < 20)) = false
  · rw [if_pos e3, if_pos e3]
    exact lcal_thr h hn (okcd_3 (by decide)) 2 3 rfl
  rw [if_neg e3, if_neg e3]
  have e3 := bF e3
  simp only [Bool.and_eq_true, decide_eq_true_eq] at e3
  have hns := e3.2
  have hc : crtK K 3 i j (nI (K.1 1)) = courtOn S 3 i j (S.1 1) := t_now h (m := 3) (by decide) hi' hj'
  unfold k_sue
  rw [nI_clamp (by omega), nI_clamp (by omega), t_sei h hi' hj' hij, ← hc]
  obtain ⟨z40, z45, z42, z43, z41⟩ := h.Su.2.2.1 (S.1 33) (by omega) (by omega)
  generalize hX : suX K i j (lcode l) (nI x0) = Xs
  have hX1 : Xs = (i, j, lcode l, nI x0, b2i (seiL K i j (K.1 33)), decide (crtK K 3 i j (nI (K.1 1)) = lcode l), 0, -1, false) := hX.symm
  have hne : ∀ q, q < K.1 33 → va_up (ksu K) (K.1 33) Xs q = ksu K q := fun q hq => up_ne (by omega)
  have hnw : ∀ q, ¬ q = K.1 33 → va_up (kws K) (K.1 33) (0, fun _ => 0, fun _ => false) q = kws K q := fun q hq => up_ne hq
  obtain ⟨i1, i2, ⟨i3, i4, i5⟩, i6, i7, i8⟩ := h.ik
  obtain ⟨b1, b2, b3, b4, b5, b6, b7⟩ := i1
  obtain ⟨a1, a2, a3, a4, a5, a6, a7, a8⟩ := h.N
  refine lcal_ok (okcd_3 (by decide)) rfl (by rw [h33]) ⟨⟨h.1.1.up hn, h.1.2.up⟩, ⟨⟨⟨b1, b2, b3, b4, b5, b6, by show K.1 33 + 1 ≤ 20; omega⟩, i2, ⟨i3, fun s hs => ?_, i5⟩, fun s i hs hi => ?_, fun s => ?_, fun s hs => ?_⟩, h.2.1.2⟩, ⟨a1, a2, a3, a4, a5, a6, by show K.1 33 + 1 = S.1 33 + 1; omega, a8⟩, h.P, h.M, ⟨fun s hs => ?_, fun s hs => ?_, fun s hs h20 => ?_, fun s hs => ?_⟩, h.C⟩ (Nat.le_refl _)
  · have hs : s < K.1 33 + 1 := hs
    show (va_up (ksu K) (K.1 33) Xs s).1 < K.1 13 ∧ (va_up (ksu K) (K.1 33) Xs s).2.1 < K.1 13 ∧ (va_up (ksu K) (K.1 33) Xs s).1 ≠ (va_up (ksu K) (K.1 33) Xs s).2.1
    by_cases e : s = K.1 33
    · subst e; rw [up_eq, hX1]; exact ⟨hi', hj', hij⟩
    · rw [hne s (by omega)]; exact i4 s (by omega)
  · have hs : s < K.1 33 + 1 := hs
    have hi : i < (va_up (kws K) (K.1 33) (0, fun _ => 0, fun _ => false) s).1 := hi
    show (va_up (kws K) (K.1 33) (0, fun _ => 0, fun _ => false) s).2.1 i < K.1 13
    by_cases e : s = K.1 33
    · subst e; rw [up_eq] at hi; exact absurd hi (Nat.not_lt_zero _)
    · rw [hnw s e] at hi ⊢; exact i6 s i (by omega) hi
  · show (va_up (kws K) (K.1 33) (0, fun _ => 0, fun _ => false) s).1 ≤ 40
    by_cases e : s = K.1 33
    · subst e; rw [up_eq]; exact Nat.zero_le _
    · rw [hnw s e]; exact i7 s
  · have hs : s < K.1 33 + 1 := hs
    show ∃ l, l ≤ K.1 2 ∧ (va_up (ksu K) (K.1 33) Xs s).2.2.1 = lcode l
    by_cases e : s = K.1 33
    · subst e; rw [up_eq, hX1]; exact ⟨l, l1, rfl⟩
    · rw [hne s (by omega)]; exact i8 s (by omega)
  · have hs : s < K.1 33 + 1 := hs
    show upd (S.2.2.1 34) (S.1 33) (nI i) s = nI (va_up (ksu K) (K.1 33) Xs s).1 ∧ upd (S.2.2.1 35) (S.1 33) (nI j) s = nI (va_up (ksu K) (K.1 33) Xs s).2.1 ∧ upd (S.2.2.1 36) (S.1 33) (lcode l) s = (va_up (ksu K) (K.1 33) Xs s).2.2.1 ∧ upd (S.2.2.1 37) (S.1 33) (nI x0) s = (va_up (ksu K) (K.1 33) Xs s).2.2.2.1 ∧ upd (S.2.2.1 39) (S.1 33) (b2i (seiL K i j (K.1 33))) s = (va_up (ksu K) (K.1 33) Xs s).2.2.2.2.1 ∧ (decide (S.2.2.1 40 s ≠ 0) || decide (upd (S.2.2.1 38) (S.1 33) (b2i (decide (crtK K 3 i j (nI (K.1 1)) = lcode l))) s ≠ 0)) = (va_up (ksu K) (K.1 33) Xs s).2.2.2.2.2.1 ∧ S.2.2.2 42 s = (va_up (ksu K) (K.1 33) Xs s).2.2.2.2.2.2.1.toInt64 ∧ upd (S.2.2.1 44) (S.1 33) (-1) s = (va_up (ksu K) (K.1 33) Xs s).2.2.2.2.2.2.2.1 ∧ decide (S.2.2.1 45 s ≠ 0) = (va_up (ksu K) (K.1 33) Xs s).2.2.2.2.2.2.2.2 ∧ ((va_up (ksu K) (K.1 33) Xs s).2.2.2.2.1 = 2 → S.2.2.2 43 s = ((va_up (ksu K) (K.1 33) Xs s).2.2.2.1 - (va_up (ksu K) (K.1 33) Xs s).2.2.2.2.2.2.1).toInt64) ∧ (¬ (va_up (ksu K) (K.1 33) Xs s).2.2.2.2.1 = 2 → S.2.2.2 43 s = 0)
    by_cases e : s = K.1 33
    · subst e
      rw [up_eq, h33, pk_us, pk_us, pk_us, pk_us, pk_us, pk_us, pk_us, z40, z42, z43, z45, hX1]
      refine ⟨rfl, rfl, rfl, rfl, by rw [h33], ?_, rfl, rfl, rfl, fun hh => ?_, fun _ => rfl⟩
      · cases decide (crtK K 3 i j (nI (K.1 1)) = lcode l) <;> rfl
      · exfalso
        have hh : b2i (seiL K i j (K.1 33)) = 2 := hh
        revert hh
        cases seiL K i j (K.1 33) <;> decide
    · rw [hne s (by omega), pk_un (by omega), pk_un (by omega), pk_un (by omega), pk_un (by omega), pk_un (by omega), pk_un (by omega), pk_un (by omega)]
      exact h.Su.1 s (by omega)
  · have hs : s < K.1 33 + 1 := hs
    show ∃ x y, x ≤ 1000000 ∧ y ≤ x ∧ (va_up (ksu K) (K.1 33) Xs s).2.2.2.1 = nI x ∧ (va_up (ksu K) (K.1 33) Xs s).2.2.2.2.2.2.1 = nI y ∧ (¬ (va_up (ksu K) (K.1 33) Xs s).2.2.2.2.1 = 2 → y = 0) ∧ ((va_up (ksu K) (K.1 33) Xs s).2.2.2.2.1 = 0 ∨ (va_up (ksu K) (K.1 33) Xs s).2.2.2.2.1 = 1 ∨ (va_up (ksu K) (K.1 33) Xs s).2.2.2.2.1 = 2 ∨ (va_up (ksu K) (K.1 33) Xs s).2.2.2.2.1 = 3) ∧ (2 ≤ (va_up (ksu K) (K.1 33) Xs s).2.2.2.2.1 → ∃ t, t ≤ K.1 1 ∧ (va_up (ksu K) (K.1 33) Xs s).2.2.2.2.2.2.2.1 = nI t)
    by_cases e : s = K.1 33
    · subst e
      rw [up_eq, hX1]
      refine ⟨x0, 0, x2, Nat.zero_le _, rfl, rfl, fun _ => rfl, ?_, fun hh => ?_⟩
      · cases seiL K i j (K.1 33)
        · exact Or.inl rfl
        · exact Or.inr (Or.inl rfl)
      · exfalso
        have hh : 2 ≤ b2i (seiL K i j (K.1 33)) := hh
        revert hh
        cases seiL K i j (K.1 33) <;> decide
    · rw [hne s (by omega)]; exact h.Su.2.1 s (by omega)
  · have hs : K.1 33 + 1 ≤ s := hs
    exact h.Su.2.2.1 s (by omega) h20
  · have hs : s < K.1 33 + 1 := hs
    show (∀ b g, sumI (va_up (kws K) (K.1 33) (0, fun _ => 0, fun _ => false) s) b g (va_up (kws K) (K.1 33) (0, fun _ => 0, fun _ => false) s).1 = sumK (S.2.2.1 41) s b g 40) ∧ (va_up (kws K) (K.1 33) (0, fun _ => 0, fun _ => false) s).1 = heardL (S.2.2.1 41) s 40 ∧ (∀ p, p < 40 → (S.2.2.1 41 (40 * s + p) = 0 ∨ S.2.2.1 41 (40 * s + p) = 1 ∨ S.2.2.1 41 (40 * s + p) = 2) ∧ (K.1 13 ≤ p → S.2.2.1 41 (40 * s + p) = 0) ∧ (hrd (va_up (kws K) (K.1 33) (0, fun _ => 0, fun _ => false) s).2.1 p (va_up (kws K) (K.1 33) (0, fun _ => 0, fun _ => false) s).1 = true ↔ S.2.2.1 41 (40 * s + p) ≠ 0))
    by_cases e : s = K.1 33
    · have z41' : ∀ k, k < 40 → S.2.2.1 41 (40 * s + k) = 0 := by rw [e, h33]; exact z41
      rw [e, up_eq, ← e]
      refine ⟨fun b g => (sumK_0 z41' b g 40 (Nat.le_refl _)).symm, (heardL_0 z41' 40 (Nat.le_refl _)).symm, fun p hp => ⟨Or.inl (z41' p hp), fun _ => z41' p hp, ?_⟩⟩
      rw [z41' p hp]
      exact ⟨fun hh => (by cases hh), fun hh => absurd rfl hh⟩
    · rw [hnw s e]; exact h.Su.2.2.2 s (by omega)
end TIE13
