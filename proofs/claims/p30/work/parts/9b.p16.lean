/-! divorce -/
section TIE16
variable {n : Nat} {K K1 : zK} {S S1 : zS}
theorem ends_div (how : Int32) (b he she : Bool) (hhow : how = 0 ∨ how = 1 ∨ how = 2 ∨ (¬ how = 0 ∧ ¬ how = 1 ∧ ¬ how = 2)) : endsB how b (if b = true then true else he) (if b = true then she else true) = divB how b (if b = true then she else he) := by
  unfold endsB divB
  rcases hhow with rfl | rfl | rfl | ⟨h0, h1, h2⟩
  · cases b <;> cases he <;> cases she <;> rfl
  · cases b <;> cases he <;> cases she <;> rfl
  · cases b <;> cases he <;> cases she <;> rfl
  · rw [if_neg h0, if_neg h1, if_neg h2, decide_eq_false h0, decide_eq_false h1, decide_eq_false h2]
    simp
theorem b2i_ne (b : Bool) : decide (b2i b ≠ 0) = b := by cases b <;> rfl
theorem tie_dv1 (h : tie n K S) {m : Nat} (hm : m < K.1 25) (b : Bool) : tie n (dv1 K m b) (divA (th S 0) m b) := by
  obtain ⟨r1, r2, r3, r4, r5, r6, r7⟩ := h.M.1 m hm
  have hK : dv1 K m b = sma K m (if b = true then maHe (kma K m) true else maSh (kma K m) true) := by unfold dv1; split <;> rfl
  rw [hK]
  generalize hX : (if b = true then maHe (kma K m) true else maSh (kma K m) true) = Xm
  have hX1 : Xm.1 = (kma K m).1 ∧ Xm.2.1 = (kma K m).2.1 ∧ Xm.2.2.1 = (kma K m).2.2.1 ∧ Xm.2.2.2.1 = (kma K m).2.2.2.1 ∧ Xm.2.2.2.2.1 = (kma K m).2.2.2.2.1 ∧ Xm.2.2.2.2.2.1 = ((kma K m).2.2.2.2.2.1 || b) ∧ Xm.2.2.2.2.2.2 = ((kma K m).2.2.2.2.2.2 || !b) := by
    subst hX
    cases b
    · exact ⟨rfl, rfl, rfl, rfl, rfl, by rw [Bool.or_false]; rfl, by rw [Bool.not_false, Bool.or_true]; rfl⟩
    · exact ⟨rfl, rfl, rfl, rfl, rfl, by rw [Bool.or_true]; rfl, by rw [Bool.not_true, Bool.or_false]; rfl⟩
  obtain ⟨k1, k2, k3, k4, k5, k6, k7⟩ := hX1
  refine tie_ma h (f := va_up (kma K) m Xm) rfl (fun i hi => up_ne hi) rfl (fun i _ _ i3 i4 => ?_) rfl (fun q hq => ?_) (fun q hq => ?_) (fun q hq => ?_) (fun q hq h30 => ?_)
  · show va_up (va_up _ _ _) _ _ i = _
    rw [up_ne i4, up_ne i3]
    rfl
  · by_cases e : q = m
    · subst e; rw [up_eq]; exact ⟨k1, k2⟩
    · rw [up_ne e]; exact ⟨rfl, rfl⟩
  · obtain ⟨d1, d2, d3, d4, d5, d6, d7⟩ := h.M.1 q hq
    by_cases e : q = m
    · subst e
      rw [up_eq, k1, k2, k3, k4, k5, k6, k7]
      refine ⟨d1, d2, d3, d4, d5, ?_, ?_⟩
      · show upd _ _ _ _ = _
        rw [pk_us]
        show b2i (decide (S.2.2.1 31 q ≠ 0) || b) = _
        rw [d6, b2i_ne]
      · show upd _ _ _ _ = _
        rw [pk_us]
        show b2i (decide (S.2.2.1 32 q ≠ 0) || !b) = _
        rw [d7, b2i_ne]
    · rw [up_ne e]
      refine ⟨d1, d2, d3, d4, d5, ?_, ?_⟩
      · show upd _ _ _ _ = _; rw [pk_un e]; exact d6
      · show upd _ _ _ _ = _; rw [pk_un e]; exact d7
  · by_cases e : q = m
    · subst e; rw [up_eq, k5]; exact h.M.2.1 q hq
    · rw [up_ne e]; exact h.M.2.1 q hq
  · obtain ⟨z1, z2, z3⟩ := h.M.2.2 q hq h30
    exact ⟨z1, by show upd _ _ _ _ = _; rw [pk_un (by omega)]; exact z2, by show upd _ _ _ _ = _; rw [pk_un (by omega)]; exact z3⟩
theorem tie_st (h : tie n K S) {m : Nat} (hm : m < K.1 25) (v : Int32) : tie n (sma K m (maSt (kma K m) v)) (zsA S 28 (upd (S.2.2.1 28) m v)) := by
  refine tie_ma h (f := va_up (kma K) m (maSt (kma K m) v)) rfl (fun i hi => rfl) rfl (fun i i1 _ _ _ => up_ne i1) rfl (fun q hq => ?_) (fun q hq => ?_) (fun q hq => ?_) (fun q hq h30 => ?_)
  · by_cases e : q = m
    · subst e; rw [up_eq]; exact ⟨rfl, rfl⟩
    · rw [up_ne e]; exact ⟨rfl, rfl⟩
  · obtain ⟨d1, d2, d3, d4, d5, d6, d7⟩ := h.M.1 q hq
    by_cases e : q = m
    · subst e; rw [up_eq]; exact ⟨d1, d2, by show upd _ _ _ _ = _; rw [pk_us]; rfl, d4, d5, d6, d7⟩
    · rw [up_ne e]; exact ⟨d1, d2, by show upd _ _ _ _ = _; rw [pk_un e]; exact d3, d4, d5, d6, d7⟩
  · by_cases e : q = m
    · subst e; rw [up_eq]; exact h.M.2.1 q hq
    · rw [up_ne e]; exact h.M.2.1 q hq
  · obtain ⟨z1, z2, z3⟩ := h.M.2.2 q hq h30
    exact ⟨by show upd _ _ _ _ = _; rw [pk_un (by omega)]; exact z1, z2, z3⟩
theorem dow_ch (K : zK) (m : Nat) : kch (dowK K m) = kch K ∧ (dowK K m).1 = K.1 := ⟨rfl, rfl⟩
theorem p_divorce (h : tie n K S) (hn : n < 512) (m : Int32) (b : Bool) : lcal tie n K (x_divorce K m) [1, 3] (k_divorce K m b) (o_divorce S m b).1 (b2i (dvE K m.toNatClampNeg b) = (o_divorce S m b).2) := by
  unfold x_divorce o_divorce
  have h25 := h.N.2.2.2.2.2.1
  have hb1 := h.bd.1
  have hb2 := h.bd.2.1
  have hb5 := h.bd.2.2.2.2.1
  have hb6 := h.bd.2.2.2.2.2.1
  rw [h25]
  by_cases e1 : zix m (S.1 25) = false
  · rw [if_pos e1, if_pos e1]
    exact lcal_thr h hn (okcd_2 (by decide)) 0 1 rfl
  rw [if_neg e1, if_neg e1]
  obtain ⟨j, hj, rfl⟩ := zix_of (bF e1) (by omega)
  have hj' : j < K.1 25 := by omega
  obtain ⟨r1, r2, r3, r4, r5, r6, r7⟩ := h.M.1 j hj'
  obtain ⟨c1, c2, c3⟩ := h.ik.2.2.1.1 j hj'
  unfold k_divorce
  rw [nI_clamp (by omega), r3]
  by_cases e2 : (kma K j).2.2.2.1 ≠ 0
  · rw [if_pos e2, if_pos e2]
    exact lcal_thr h hn (okcd_2 (by decide)) 1 3 rfl
  rw [if_neg e2, if_neg e2]
  have hdv : divB (divHow S j) b (decide ((if b = true then S.2.2.1 32 j else S.2.2.1 31 j) ≠ 0)) = dvE K j b := by
    have hcl := t_now h (m := 1) (by decide) c1 c2
    obtain ⟨l, l1, l2⟩ := t_cl h (m := 1) c1 c2
    have hhow : divHow S j = dvH K j := by
      unfold divHow dvH
      rw [r1, r2, nI_clamp (by omega), nI_clamp (by omega), show (1 : Int32) = nI 1 from rfl, ← hcl, l2, lixN_l (by omega), ← h.N.1, t_law h l1 (by decide) hb1]
    unfold dvE
    have hbo : decide ((if b = true then S.2.2.1 32 j else S.2.2.1 31 j) ≠ 0) = (if b = true then (kma K j).2.2.2.2.2.2 else (kma K j).2.2.2.2.2.1) := by
      cases b
      · rw [if_neg (by decide), if_neg (by decide), r6, b2i_ne]
      · rw [if_pos rfl, if_pos rfl, r7, b2i_ne]
    rw [hhow, hbo, ends_div]
    by_cases q0 : dvH K j = 0
    · exact Or.inl q0
    by_cases q1 : dvH K j = 1
    · exact Or.inr (Or.inl q1)
    by_cases q2 : dvH K j = 2
    · exact Or.inr (Or.inr (Or.inl q2))
    exact Or.inr (Or.inr (Or.inr ⟨q0, q1, q2⟩))
  rw [hdv]
  have h1 := tie_dv1 h hj' b
  have hma : kma (dv1 K j b) j = if b = true then maHe (kma K j) true else maSh (kma K j) true := by unfold dv1; split <;> exact up_eq
  have hma1 : (kma (dv1 K j b) j).1 = (kma K j).1 ∧ (kma (dv1 K j b) j).2.1 = (kma K j).2.1 := by rw [hma]; cases b <;> exact ⟨rfl, rfl⟩
  have h251 : j < (dv1 K j b).1 25 := by unfold dv1; split <;> exact hj'
  by_cases e3 : dvE K j b = true
  · rw [if_pos e3, if_pos e3, e3]
    have h2 := tie_st h1 h251 1
    have h3 := tie_dow h2 (m := j) h251
    have hk : kma (sma (dv1 K j b) j (maSt (kma (dv1 K j b) j) 1)) j = maSt (kma (dv1 K j b) j) 1 := up_eq
    rw [hk] at h3
    have hx1 : (maSt (kma (dv1 K j b) j) 1).1 = (kma K j).1 := hma1.1
    have hx2 : (maSt (kma (dv1 K j b) j) 1).2.1 = (kma K j).2.1 := hma1.2
    rw [hx1, hx2] at h3
    refine lcal_ok (okcd_2 (by decide)) rfl rfl ?_ ?_
    · unfold divE
      have q26 : (divA (th S 0) j b).2.2.1 26 j = nI (kma K j).1 := r1
      have q27 : (divA (th S 0) j b).2.2.1 27 j = nI (kma K j).2.1 := r2
      rw [q26, q27, nI_clamp (by omega), nI_clamp (by omega)]
      exact h3.up hn
    · unfold dv1; split <;> exact Nat.le_refl _
  · rw [if_neg e3, if_neg e3, (by cases hh : dvE K j b <;> simp_all : dvE K j b = false)]
    refine lcal_ok (okcd_2 (by decide)) rfl rfl (h1.up hn) ?_
    unfold dv1; split <;> exact Nat.le_refl _
end TIE16
