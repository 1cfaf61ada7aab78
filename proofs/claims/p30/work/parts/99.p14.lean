/-! testify -/
section TIE14
variable {n : Nat} {K K1 : zK} {S S1 : zS}
def cdw (b : Bool) : Int32 := if b = true then 1 else 2
theorem sumK_s (r : Nat → Int32) (s : Nat) (b : Bool) (g : Nat → Nat) (m : Nat) : sumK r s b g (m + 1) = sumK r s b g m + (if r (40 * s + m) = cdw b then g m else 0) := rfl
theorem heardL_s (r : Nat → Int32) (s m : Nat) : heardL r s (m + 1) = heardL r s m + (if r (40 * s + m) = 0 then 0 else 1) := rfl
theorem sumK_up {r : Nat → Int32} {s p : Nat} {fo : Bool} (h0 : r (40 * s + p) = 0) (b : Bool) (g : Nat → Nat) : ∀ m, sumK (upd r (40 * s + p) (cdw fo)) s b g m = sumK r s b g m + (if p < m ∧ fo = b then g p else 0)
  | 0 => rfl
  | m + 1 => by
    rw [sumK_s, sumK_s, sumK_up h0 b g m]
    by_cases e : m = p
    · subst e
      rw [pk_us, h0, if_neg (show ¬ (0 : Int32) = cdw b by cases b <;> decide), if_neg (show ¬ (m < m ∧ fo = b) by omega)]
      by_cases e2 : fo = b
      · subst e2
        rw [if_pos rfl, if_pos ⟨Nat.lt_succ_self m, rfl⟩]
      · rw [if_neg (show ¬ cdw fo = cdw b by revert e2; cases fo <;> cases b <;> decide), if_neg (fun hh => e2 hh.2)]
    · rw [pk_un (show 40 * s + m ≠ 40 * s + p by omega)]
      by_cases e3 : p < m
      · by_cases e2 : fo = b
        · rw [if_pos (show p < m ∧ fo = b from ⟨e3, e2⟩), if_pos (show p < m + 1 ∧ fo = b from ⟨by omega, e2⟩)]; omega
        · rw [if_neg (show ¬ (p < m ∧ fo = b) from fun hh => e2 hh.2), if_neg (show ¬ (p < m + 1 ∧ fo = b) from fun hh => e2 hh.2)]; omega
      · rw [if_neg (show ¬ (p < m ∧ fo = b) from fun hh => e3 hh.1), if_neg (show ¬ (p < m + 1 ∧ fo = b) from fun hh => by have := hh.1; omega)]; omega
theorem heardL_up {r : Nat → Int32} {s p : Nat} {fo : Bool} (h0 : r (40 * s + p) = 0) : ∀ m, heardL (upd r (40 * s + p) (cdw fo)) s m = heardL r s m + (if p < m then 1 else 0)
  | 0 => rfl
  | m + 1 => by
    rw [heardL_s, heardL_s, heardL_up h0 m]
    by_cases e : m = p
    · subst e
      rw [pk_us, h0, if_neg (show ¬ cdw fo = 0 by cases fo <;> decide), if_pos rfl, if_neg (Nat.lt_irrefl m), if_pos (Nat.lt_succ_self m)]
    · rw [pk_un (show 40 * s + m ≠ 40 * s + p by omega)]
      by_cases e3 : p < m
      · rw [if_pos e3, if_pos (show p < m + 1 by omega)]; omega
      · rw [if_neg e3, if_neg (show ¬ p < m + 1 by omega)]; omega
theorem sumK_ne {r r1 : Nat → Int32} {s : Nat} (h : ∀ k, k < 40 → r1 (40 * s + k) = r (40 * s + k)) (b : Bool) (g : Nat → Nat) : ∀ m, m ≤ 40 → sumK r1 s b g m = sumK r s b g m
  | 0, _ => rfl
  | m + 1, hm => by rw [sumK_s, sumK_s, sumK_ne h b g m (by omega), h m (by omega)]
theorem heardL_ne {r r1 : Nat → Int32} {s : Nat} (h : ∀ k, k < 40 → r1 (40 * s + k) = r (40 * s + k)) : ∀ m, m ≤ 40 → heardL r1 s m = heardL r s m
  | 0, _ => rfl
  | m + 1, hm => by rw [heardL_s, heardL_s, heardL_ne h m (by omega), h m (by omega)]
theorem heardL_lt {r : Nat → Int32} {s p : Nat} (h0 : r (40 * s + p) = 0) : ∀ m, heardL r s m ≤ m ∧ (p < m → heardL r s m < m)
  | 0 => ⟨Nat.le_refl _, fun h => absurd h (Nat.not_lt_zero _)⟩
  | m + 1 => by
    obtain ⟨i1, i2⟩ := heardL_lt h0 m
    rw [heardL_s]
    by_cases e : m = p
    · subst e
      rw [h0, if_pos rfl]
      exact ⟨by omega, fun _ => by omega⟩
    · constructor
      · split <;> omega
      · intro hp
        have := i2 (by omega)
        split <;> omega
theorem sumI_cong {w w1 : zWs} {b : Bool} {g : Nat → Nat} : ∀ m, (∀ i, i < m → w1.2.1 i = w.2.1 i ∧ w1.2.2 i = w.2.2 i) → sumI w1 b g m = sumI w b g m
  | 0, _ => rfl
  | m + 1, h => by
    show sumI w1 b g m + _ = sumI w b g m + _
    rw [sumI_cong m (fun i hi => h i (by omega)), (h m (Nat.lt_succ_self m)).1, (h m (Nat.lt_succ_self m)).2]
theorem hrd_cong {f f1 : Nat → Nat} {q : Nat} : ∀ m, (∀ i, i < m → f1 i = f i) → hrd f1 q m = hrd f q m
  | 0, _ => rfl
  | m + 1, h => by
    show (hrd f1 q m || _) = (hrd f q m || _)
    rw [hrd_cong m (fun i hi => h i (by omega)), h m (Nat.lt_succ_self m)]
theorem t_lt40 (h : tie n K S) (s p : Int32) (hx : x_testify K s p = 0) : (kws K s.toNatClampNeg).1 < 40 := by
  have hb7 := h.bd.2.2.2.2.2.2
  have hb5 := h.bd.2.2.2.2.1
  unfold x_testify at hx
  by_cases e1 : (zix s (K.1 33) && zix p (K.1 13)) = false
  · rw [if_pos e1] at hx; cases hx
  rw [if_neg e1] at hx
  have e1 := bF e1
  rw [Bool.and_eq_true] at e1
  obtain ⟨j, hj, rfl⟩ := zix_of e1.1 (by omega)
  obtain ⟨i, hi, rfl⟩ := zix_of e1.2 (by omega)
  rw [nI_clamp (by omega), nI_clamp (by omega)] at hx
  rw [nI_clamp (by omega)]
  by_cases e2 : (decide ((ksu K j).2.2.2.2.1 = 0) && (groK K i (nI (K.1 1)) && (!btwK K j i && !hrd (kws K j).2.1 i (kws K j).1))) = false
  · rw [if_pos e2] at hx; cases hx
  have e2 := bF e2
  simp only [Bool.and_eq_true, Bool.not_eq_true'] at e2
  obtain ⟨-, w2, w3⟩ := h.Su.2.2.2 j hj
  have hz : S.2.2.1 41 (40 * j + i) = 0 := Classical.byContradiction fun hh => by
    have := ((w3 i (by omega)).2.2).mpr hh
    rw [this] at e2
    exact absurd e2.2.2.2 (by decide)
  rw [w2]
  exact (heardL_lt hz 40).2 (by omega)
theorem p_testify (h : tie n K S) (hn : n < 512) (s p : Int32) (fo : Bool) : lcal tie n K (x_testify K s p) [1, 3] (k_testify K s p fo) (o_testify S s p fo).1 (nI ((kws K s.toNatClampNeg).1 + 1) = (o_testify S s p fo).2) := by
  have h40 := t_lt40 h s p
  unfold x_testify at h40 ⊢
  unfold o_testify
  have h13 := h.N.2.2.2.2.1
  have h33 := h.N.2.2.2.2.2.2.1
  have hb5 := h.bd.2.2.2.2.1
  have hb7 := h.bd.2.2.2.2.2.2
  rw [h13, h33] at h40 ⊢
  by_cases e1 : (zix s (S.1 33) && zix p (S.1 13)) = false
  · rw [if_pos e1, if_pos e1]
    exact lcal_thr h hn (okcd_2 (by decide)) 0 1 rfl
  rw [if_neg e1] at h40 ⊢
  rw [if_neg e1]
  have e1 := bF e1
  rw [Bool.and_eq_true] at e1
  obtain ⟨j, hj, rfl⟩ := zix_of e1.1 (by omega)
  obtain ⟨i, hi, rfl⟩ := zix_of e1.2 (by omega)
  have hj' : j < K.1 33 := by rw [h.N.2.2.2.2.2.2.1]; exact hj
  have hi' : i < K.1 13 := by rw [h.N.2.2.2.2.1]; exact hi
  rw [nI_clamp (by omega), nI_clamp (by omega)] at h40 ⊢
  obtain ⟨a1, a2, a3, a4, a5, -⟩ := h.Su.1 j hj'
  obtain ⟨d1, d2, d3⟩ := h.ik.2.2.1.2.1 j hj'
  obtain ⟨w1, w2, w3⟩ := h.Su.2.2.2 j hj'
  have hcan : canTest S j i = (decide ((ksu K j).2.2.2.2.1 = 0) && (groK K i (nI (K.1 1)) && (!btwK K j i && !hrd (kws K j).2.1 i (kws K j).1))) := by
    unfold canTest btwK
    rw [a1, a2, a5, t_gro h hi']
    have q1 : decide (nI (ksu K j).1 ≠ nI i) = !decide ((ksu K j).1 = i) := by
      rw [decide_not]; congr 1; rw [decide_eq_decide]; exact nI_eq (by omega) (by omega)
    have q2 : decide (nI (ksu K j).2.1 ≠ nI i) = !decide ((ksu K j).2.1 = i) := by
      rw [decide_not]; congr 1; rw [decide_eq_decide]; exact nI_eq (by omega) (by omega)
    have q3 : decide (S.2.2.1 41 (40 * j + i) = 0) = !hrd (kws K j).2.1 i (kws K j).1 := by
      have := (w3 i (by omega)).2.2
      cases hh : hrd (kws K j).2.1 i (kws K j).1 with
      | true => rw [decide_eq_false (this.mp hh)]; rfl
      | false => rw [decide_eq_true (Classical.byContradiction fun hq => by rw [this.mpr hq] at hh; cases hh)]; rfl
    rw [q1, q2, q3, Bool.not_or]
    simp only [Bool.and_assoc]
  rw [hcan]
  by_cases e2 : (decide ((ksu K j).2.2.2.2.1 = 0) && (groK K i (nI (K.1 1)) && (!btwK K j i && !hrd (kws K j).2.1 i (kws K j).1))) = false
  · rw [if_pos e2, if_pos e2]
    exact lcal_thr h hn (okcd_2 (by decide)) 1 3 rfl
  rw [if_neg e2] at h40 ⊢
  rw [if_neg e2]
  have h40 := h40 rfl
  have e2 := bF e2
  rw [← hcan] at e2
  have hz : S.2.2.1 41 (40 * j + i) = 0 := by
    unfold canTest at e2
    simp only [Bool.and_eq_true, decide_eq_true_eq] at e2
    exact e2.2.2.2.2
  have hno : hrd (kws K j).2.1 i (kws K j).1 = false := by
    cases hh : hrd (kws K j).2.1 i (kws K j).1 with
    | true => exact absurd hz ((w3 i (by omega)).2.2.mp hh)
    | false => rfl
  unfold k_testify
  rw [nI_clamp (by omega), nI_clamp (by omega)]
  have hcd : (if fo = true then (1 : Int32) else 2) = cdw fo := rfl
  rw [hcd]
  generalize hwn : ((kws K j).1 + 1, va_up (kws K j).2.1 (kws K j).1 i, va_up (kws K j).2.2 (kws K j).1 fo) = wn
  have hw1 : wn.1 = (kws K j).1 + 1 := by rw [← hwn]
  have hKn : newW K j i fo = sws K j wn := by unfold newW; rw [hwn]
  rw [hKn]
  have hne : ∀ q, ¬ q = j → va_up (kws K) j wn q = kws K q := fun q hq => up_ne hq
  have hrow : ∀ q k, ¬ q = j → k < 40 → upd (S.2.2.1 41) (40 * j + i) (cdw fo) (40 * q + k) = S.2.2.1 41 (40 * q + k) := fun q k hq hk => pk_un (by omega)
  obtain ⟨i1, i2, ⟨i3, i4, i5⟩, i6, i7, i8⟩ := h.ik
  refine lcal_ok (okcd_2 (by decide)) rfl ?_ ⟨⟨h.1.1.up hn, h.1.2.up⟩, ⟨⟨i1, i2, ⟨i3, i4, i5⟩, fun q k hq hk => ?_, fun q => ?_, i8⟩, h.2.1.2⟩, h.N, h.P, h.M, ⟨h.Su.1, h.Su.2.1, fun q hq h20 => ?_, fun q hq => ?_⟩, h.C⟩ (Nat.le_refl _)
  · show nI ((kws K j).1 + 1) = nI (heardL (upd (S.2.2.1 41) (40 * j + i) (cdw fo)) j 40)
    rw [heardL_up hz, ← w2, if_pos (by omega)]
  · have hk : k < (va_up (kws K) j wn q).1 := hk
    show (va_up (kws K) j wn q).2.1 k < K.1 13
    by_cases e : q = j
    · subst e
      rw [up_eq] at hk ⊢
      rw [hw1] at hk
      rw [← hwn]
      show va_up (kws K q).2.1 (kws K q).1 i k < _
      by_cases ek : k = (kws K q).1
      · rw [ek, up_eq]; exact hi'
      · rw [up_ne ek]; exact i6 q k hq (by omega)
    · rw [hne q e] at hk ⊢; exact i6 q k hq hk
  · show (va_up (kws K) j wn q).1 ≤ 40
    by_cases e : q = j
    · subst e; rw [up_eq, hw1]; omega
    · rw [hne q e]; exact i7 q
  · obtain ⟨c1, c2, c3, c4, c5⟩ := h.Su.2.2.1 q hq h20
    have hq : K.1 33 ≤ q := hq
    exact ⟨c1, c2, c3, c4, fun k hk => (hrow q k (by omega) hk).trans (c5 k hk)⟩
  · have hq : q < K.1 33 := hq
    show (∀ b g, sumI (va_up (kws K) j wn q) b g (va_up (kws K) j wn q).1 = sumK (upd (S.2.2.1 41) (40 * j + i) (cdw fo)) q b g 40) ∧ (va_up (kws K) j wn q).1 = heardL (upd (S.2.2.1 41) (40 * j + i) (cdw fo)) q 40 ∧ (∀ p, p < 40 → (upd (S.2.2.1 41) (40 * j + i) (cdw fo) (40 * q + p) = 0 ∨ upd (S.2.2.1 41) (40 * j + i) (cdw fo) (40 * q + p) = 1 ∨ upd (S.2.2.1 41) (40 * j + i) (cdw fo) (40 * q + p) = 2) ∧ (K.1 13 ≤ p → upd (S.2.2.1 41) (40 * j + i) (cdw fo) (40 * q + p) = 0) ∧ (hrd (va_up (kws K) j wn q).2.1 p (va_up (kws K) j wn q).1 = true ↔ upd (S.2.2.1 41) (40 * j + i) (cdw fo) (40 * q + p) ≠ 0))
    by_cases e : q = j
    · subst e
      rw [up_eq, hw1]
      refine ⟨fun b g => ?_, ?_, fun p hp => ?_⟩
      · show sumI wn b g (kws K q).1 + (if wn.2.2 (kws K q).1 = b then g (wn.2.1 (kws K q).1) else 0) = _
        rw [sumK_up hz, ← w1 b g, sumI_cong (w := kws K q) (kws K q).1 (fun k hk => by rw [← hwn]; exact ⟨up_ne (by omega), up_ne (by omega)⟩), ← hwn]
        show _ + (if va_up (kws K q).2.2 (kws K q).1 fo (kws K q).1 = b then g (va_up (kws K q).2.1 (kws K q).1 i (kws K q).1) else 0) = _
        rw [up_eq, up_eq]
        by_cases eb : fo = b
        · rw [if_pos eb, if_pos ⟨by omega, eb⟩]
        · rw [if_neg eb, if_neg (fun hh => eb hh.2)]
      · rw [heardL_up hz, ← w2, if_pos (by omega)]
      · obtain ⟨v1, v2, v3⟩ := w3 p hp
        have hh : hrd wn.2.1 p ((kws K q).1 + 1) = (hrd (kws K q).2.1 p (kws K q).1 || decide (i = p)) := by
          show (hrd wn.2.1 p (kws K q).1 || decide (wn.2.1 (kws K q).1 = p)) = _
          rw [hrd_cong (f := (kws K q).2.1) (kws K q).1 (fun k hk => by rw [← hwn]; exact up_ne (by omega)), ← hwn]
          show (_ || decide (va_up (kws K q).2.1 (kws K q).1 i (kws K q).1 = p)) = _
          rw [up_eq]
        rw [hh]
        by_cases ep : p = i
        · subst ep
          rw [pk_us]
          refine ⟨?_, fun hh => absurd hh (by omega), ?_⟩
          · cases fo
            · exact Or.inr (Or.inr rfl)
            · exact Or.inr (Or.inl rfl)
          · rw [decide_eq_true rfl, Bool.or_true]
            exact ⟨fun _ => by cases fo <;> decide, fun _ => rfl⟩
        · rw [pk_un (show 40 * q + p ≠ 40 * q + i by omega), decide_eq_false (fun e => ep e.symm), Bool.or_false]
          exact ⟨v1, v2, v3⟩
    · rw [hne q e]
      obtain ⟨u1, u2, u3⟩ := h.Su.2.2.2 q hq
      refine ⟨fun b g => ?_, ?_, fun p hp => ?_⟩
      · rw [u1 b g]; exact (sumK_ne (fun k hk => hrow q k e hk) b g 40 (Nat.le_refl _)).symm
      · rw [u2]; exact (heardL_ne (fun k hk => hrow q k e hk) 40 (Nat.le_refl _)).symm
      · rw [hrow q p e hp]; exact u3 p hp
end TIE14
