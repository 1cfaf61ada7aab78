/-! turn, recant -/
section TIE6
variable {n : Nat} {K K1 : zK} {S S1 : zS}
theorem min_N {td b : Nat} (h1 : td ≤ 30000) (h2 : b ≤ td) : decide (nI td - nI b < 5000) = decide (td < b + 5000) := by
  rw [decide_eq_decide, Int32.lt_iff_toInt_lt, pk_sub_toInt (by omega) (by omega)]
  rw [show (5000 : Int32).toInt = 5000 from rfl]
  omega
theorem t_canW (h : tie n K S) {p : Nat} (hp : p < K.1 13) (c : Int32) : canW K p c = canWit S p c := by
  unfold canW canWit
  rw [t_gro h hp, t_new h hp]
theorem p_turn (h : tie n K S) (hn : n < 512) (p c a b : Int32) : lcal tie n K (x_turn K p c a b) [1, 2, 3] (k_turn K p c) (o_turn S p c a b).1 (nI (K.1 1) + 30 = (o_turn S p c a b).2) := by
  unfold x_turn o_turn
  rw [h.N.2.2.2.2.1, h.N.2.1]
  by_cases e1 : (zix p (S.1 13) && (zix c (S.1 2) && (zix a (S.1 13) && zix b (S.1 13)))) = false
  · rw [if_pos e1, if_pos e1]
    exact lcal_thr h hn (okcd_3 (by decide)) 0 1 rfl
  rw [if_neg e1, if_neg e1]
  have e1 := bF e1
  simp only [Bool.and_eq_true] at e1
  obtain ⟨z1, z2, z3, z4⟩ := e1
  have hb1 := h.bd.1
  have hb2 := h.bd.2.1
  have hb5 := h.bd.2.2.2.2.1
  have h13 := h.N.2.2.2.2.1
  have hN1 := h.N.1
  have hN2 := h.N.2.1
  obtain ⟨j, hj, rfl⟩ := zix_of z1 (by omega)
  obtain ⟨v, hv, rfl⟩ := zix_of z2 (by omega)
  obtain ⟨ja, hja, rfl⟩ := zix_of z3 (by omega)
  obtain ⟨jb, hjb, rfl⟩ := zix_of z4 (by omega)
  have hj' : j < K.1 13 := by omega
  by_cases e2 : (decide (nI ja ≠ nI jb) && (decide (nI ja ≠ nI j) && decide (nI jb ≠ nI j))) = false
  · rw [if_pos e2, if_pos e2]
    exact lcal_thr h hn (okcd_3 (by decide)) 1 2 rfl
  rw [if_neg e2, if_neg e2]
  unfold k_turn
  rw [nI_clamp (by omega), nI_clamp (by omega), nI_clamp (by omega), t_canW h (by omega), t_canW h (by omega), t_gro h hj', t_new h hj']
  obtain ⟨bj, q1, q2, q3⟩ := h.P.2.1 j hj'
  obtain ⟨a1, a2, a3, a4, a5, a6, a7, a8⟩ := h.P.1 j hj'
  have hto : decide (S.2.2.1 22 j = -1) = decide ((kpe K j).2.2.2.2.2.2.2.1 = -1) := by
    rw [a7, decide_eq_decide]
    rcases q3 with ⟨r1, r2⟩ | ⟨-, -, cc, ee, r1, r2, r3, r4, r5⟩
    · rw [r1, r2]
    · rw [r2, r5]
      exact ⟨fun hh => absurd hh (nI_m1 (by omega)), fun hh => absurd hh (nI_m1 (by omega))⟩
  rw [hto]
  by_cases e3 : ((isGrown S j && (decide (faithAt S j (nI (S.1 1)) ≠ nI v) && decide ((kpe K j).2.2.2.2.2.2.2.1 = -1))) && (canWit S ja (nI v) && canWit S jb (nI v))) = false
  · rw [if_pos e3, if_pos e3]
    exact lcal_thr h hn (okcd_3 (by decide)) 2 3 rfl
  rw [if_neg e3, if_neg e3]
  have e3 := bF e3
  simp only [Bool.and_eq_true, decide_eq_true_eq] at e3
  obtain ⟨⟨g1, g2, g3⟩, -⟩ := e3
  have g1' := g1
  rw [← t_gro h hj'] at g1'
  unfold groK minK at g1'
  rw [q2, min_N hb1 q1, Bool.and_eq_true, Bool.not_eq_true', decide_eq_false_iff_not] at g1'
  have e30 : nI (K.1 1) + 30 = nI (K.1 1 + 30) := nI_add (K.1 1) 30
  refine lcal_ok (okcd_3 (by decide)) rfl (by rw [e30, hN1]) (tie_pe h (f := va_up (kpe K) j (peTurn (kpe K j) (nI v) (nI (K.1 1) + 30))) rfl (fun p hp => ?_) (fun i hi => up_ne hi) rfl (fun i i1 i2 i3 => ?_) (fun i hi => rfl) (fun p hp => ?_) (fun p hp h40 => ⟨rfl, rfl⟩) (fun p hp => ?_) ?_ ⟨fun p hp => ?_, ?_⟩) (Nat.le_refl _)
  · by_cases e : p = j
    · subst e; rw [up_eq]; exact ⟨rfl, rfl, rfl, rfl⟩
    · rw [up_ne e]; exact ⟨rfl, rfl, rfl, rfl⟩
  · show va_up (va_up _ _ _) _ _ i = _
    rw [up_ne i3, up_ne i2]
    rfl
  · obtain ⟨c1, c2, c3, c4, c5, c6, c7, c8⟩ := h.P.1 p hp
    by_cases e : p = j
    · subst e
      rw [up_eq]
      exact ⟨c5, c6, by show upd _ _ _ _ = _; rw [pk_us]; rfl, by show upd _ _ _ _ = _; rw [pk_us, e30, hN1]; rfl⟩
    · rw [up_ne e]
      exact ⟨c5, c6, by show upd _ _ _ _ = _; rw [pk_un e, c7], by show upd _ _ _ _ = _; rw [pk_un e, c8]⟩
  · by_cases e : p = j
    · subst e
      rw [up_eq]
      refine ⟨bj, q1, q2, Or.inr ⟨g1'.1, by omega, v, K.1 1 + 30, by omega, rfl, by omega, by omega, e30⟩⟩
    · rw [up_ne e]; exact h.P.2.1 p hp
  · obtain ⟨r1, r2, r3, r4⟩ := h.1.1
    have hp0 := pdK_up (f := kpe K) (j := j) (x := peTurn (kpe K j) (nI v) (nI (K.1 1) + 30)) (K.1 13)
    exact ⟨hn, fun i => Nat.le_succ_of_le (r2 i), by show pdK (va_up (kpe K) j _) (K.1 13) ≤ _; omega, fun q hq => by have := r4 q hq; show (kch K (100 + q)).2.1 + pdK (va_up (kpe K) j (peTurn (kpe K j) (nI v) (nI (K.1 1) + 30))) (K.1 13) ≤ _; omega⟩
  · show 0 ≤ (va_up (kpe K) j (peTurn (kpe K j) (nI v) (nI (K.1 1) + 30)) p).2.2.2.2.2.1.toInt
    by_cases e : p = j
    · subst e; rw [up_eq]; exact h.1.2.1 p hp
    · rw [up_ne e]; exact h.1.2.1 p hp
  · have := sumG_up (f := kpe K) (j := j) (x := peTurn (kpe K j) (nI v) (nI (K.1 1) + 30)) (K.1 13) hj'
    have e : (peTurn (kpe K j) (nI v) (nI (K.1 1) + 30)).2.2.2.2.2.1.toInt = (kpe K j).2.2.2.2.2.1.toInt := rfl
    rw [e] at this
    have := h.1.2.2
    show sumG (va_up (kpe K) j (peTurn (kpe K j) (nI v) (nI (K.1 1) + 30))) (K.1 13) ≤ _
    omega
theorem p_recant (h : tie n K S) (hn : n < 512) (p : Int32) : lcal tie n K (x_recant K p) [1, 3] (k_recant K p) (o_recant S p).1 ((kpe K p.toNatClampNeg).2.2.2.2.2.2.1 = (o_recant S p).2) := by
  unfold x_recant o_recant
  rw [h.N.2.2.2.2.1]
  by_cases e1 : zix p (S.1 13) = false
  · rw [if_pos e1, if_pos e1]
    exact lcal_thr h hn (okcd_2 (by decide)) 0 1 rfl
  rw [if_neg e1, if_neg e1]
  have hb1 := h.bd.1
  have hb2 := h.bd.2.1
  have hb5 := h.bd.2.2.2.2.1
  have h13 := h.N.2.2.2.2.1
  obtain ⟨j, hj, rfl⟩ := zix_of (bF e1) (by omega)
  have hj' : j < K.1 13 := by omega
  unfold k_recant
  rw [nI_clamp (by omega)]
  obtain ⟨bj, q1, q2, q3⟩ := h.P.2.1 j hj'
  obtain ⟨a1, a2, a3, a4, a5, a6, a7, a8⟩ := h.P.1 j hj'
  by_cases e2 : (kpe K j).2.2.2.2.2.2.2.1 = -1
  · rw [if_pos e2, if_pos (by
      rw [a7]
      rcases q3 with ⟨r1, r2⟩ | ⟨-, -, cc, ee, r1, r2, r3, r4, r5⟩
      · exact r1
      · rw [r5] at e2; exact absurd e2 (nI_m1 (by omega)))]
    exact lcal_thr h hn (okcd_2 (by decide)) 1 3 rfl
  rw [if_neg e2, if_neg (by
      rw [a7]
      rcases q3 with ⟨r1, r2⟩ | ⟨-, -, cc, ee, r1, r2, r3, r4, r5⟩
      · exact absurd r2 e2
      · rw [r2]; exact nI_m1 (by omega))]
  refine lcal_ok (okcd_2 (by decide)) rfl a7.symm (tie_pe h (f := va_up (kpe K) j (peTurn (kpe K j) (-1) (-1))) rfl (fun p hp => ?_) (fun i hi => up_ne hi) rfl (fun i i1 i2 i3 => ?_) (fun i hi => rfl) (fun p hp => ?_) (fun p hp h40 => ⟨rfl, rfl⟩) (fun p hp => ?_) ?_ ⟨fun p hp => ?_, ?_⟩) (Nat.le_refl _)
  · by_cases e : p = j
    · subst e; rw [up_eq]; exact ⟨rfl, rfl, rfl, rfl⟩
    · rw [up_ne e]; exact ⟨rfl, rfl, rfl, rfl⟩
  · show va_up (va_up _ _ _) _ _ i = _
    rw [up_ne i3, up_ne i2]
    rfl
  · obtain ⟨c1, c2, c3, c4, c5, c6, c7, c8⟩ := h.P.1 p hp
    by_cases e : p = j
    · subst e
      rw [up_eq]
      exact ⟨c5, c6, by show upd _ _ _ _ = _; rw [pk_us]; rfl, by show upd _ _ _ _ = _; rw [pk_us]; rfl⟩
    · rw [up_ne e]
      exact ⟨c5, c6, by show upd _ _ _ _ = _; rw [pk_un e]; exact c7, by show upd _ _ _ _ = _; rw [pk_un e]; exact c8⟩
  · by_cases e : p = j
    · subst e
      rw [up_eq]
      exact ⟨bj, q1, q2, Or.inl ⟨rfl, rfl⟩⟩
    · rw [up_ne e]; exact h.P.2.1 p hp
  · obtain ⟨r1, r2, r3, r4⟩ := h.1.1.up hn
    have hp0 := pdK_sm (f := kpe K) (j := j) (x := peTurn (kpe K j) (-1) (-1)) (Or.inl rfl) (K.1 13)
    exact ⟨r1, r2, Nat.le_trans hp0 r3, fun q hq => Nat.le_trans (Nat.add_le_add_left hp0 _) (r4 q hq)⟩
  · show 0 ≤ (va_up (kpe K) j (peTurn (kpe K j) (-1) (-1)) p).2.2.2.2.2.1.toInt
    by_cases e : p = j
    · subst e; rw [up_eq]; exact h.1.2.1 p hp
    · rw [up_ne e]; exact h.1.2.1 p hp
  · have := sumG_up (f := kpe K) (j := j) (x := peTurn (kpe K j) (-1) (-1)) (K.1 13) hj'
    have e : (peTurn (kpe K j) (-1) (-1)).2.2.2.2.2.1.toInt = (kpe K j).2.2.2.2.2.1.toInt := rfl
    rw [e] at this
    have := h.1.2.2
    show sumG (va_up (kpe K) j (peTurn (kpe K j) (-1) (-1))) (K.1 13) ≤ _
    omega
end TIE6
