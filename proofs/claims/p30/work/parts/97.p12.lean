/-! marry -/
section TIE12
variable {n : Nat} {K K1 : zK} {S S1 : zS}
theorem t_cl (h : tie n K S) {m p q : Nat} (hp : p < K.1 13) (hq : q < K.1 13) : ∃ l, l ≤ K.1 2 ∧ crtK K m p q (nI (K.1 1)) = lcode l := by
  obtain ⟨v, f0, v1, v2, -⟩ := t_newv h hp
  obtain ⟨u, g0, u1, u2, -⟩ := t_newv h hq
  rw [t_newN h hp] at v2
  rw [t_newN h hq] at u2
  have kv : ∀ f, (f = -1 ∨ ∃ c, c < K.1 2 ∧ f = nI c) → ∃ l, l ≤ K.1 2 ∧ crtF K f (nI (K.1 1)) = lcode l := by
    intro f hf
    unfold crtF
    split
    · exact ⟨0, Nat.zero_le _, rfl⟩
    · split
      · exact ⟨0, Nat.zero_le _, rfl⟩
      · rcases hf with hf | ⟨c, c1, c2⟩
        · rename_i h1 _; exact absurd hf h1
        · exact ⟨c + 1, c1, c2⟩
  apply kv
  unfold fthR
  rw [v2, u2]
  split
  · exact Or.inr ⟨v, v1, rfl⟩
  · split
    · exact Or.inr ⟨u, u1, rfl⟩
    · split
      · split
        · exact Or.inr ⟨v, v1, rfl⟩
        · exact Or.inl rfl
      · exact Or.inl rfl
theorem hml_b (K : zK) (p : Nat) : ∀ k, hmlL K p k ≤ k
  | 0 => Nat.le_refl _
  | k + 1 => by
    have := hml_b K p k
    unfold hmlL
    split <;> omega
theorem t_may (h : tie n K S) {a w : Nat} (ha : a < K.1 13) (hw : w < K.1 13) : canMarry S a w = ((groK K a (nI (K.1 1)) && groK K w (nI (K.1 1))) && (mayK K a w (lixN (crtK K 0 a w (nI (K.1 1)))) && decide (K.1 25 < 30))) := by
  have h25 := h.N.2.2.2.2.2.1
  have hb6 := h.bd.2.2.2.2.2.1
  have hb2 := h.bd.2.1
  have hb1 := h.bd.1
  have hN1 := h.N.1
  have hc := t_now h (m := 0) (by decide) ha hw
  obtain ⟨l, l1, l2⟩ := t_cl h (m := 0) ha hw
  have hc' : courtOn S 0 a w (S.1 1) = lcode l := hc.symm.trans l2
  unfold canMarry mayK
  rw [← t_gro h ha, ← t_gro h hw, t_hml h ha, t_hml h hw, hc', l2, lixN_l (by omega), ← t_new h ha, ← t_new h hw]
  have e2 : lawOf S (lcode l) 2 (nI (S.1 1)) = lawK K l 2 (nI (K.1 1)) := by rw [← hN1, t_law h l1 (by decide) hb1]; rfl
  have e4 : lawOf S (lcode l) 4 (nI (S.1 1)) = lawK K l 4 (nI (K.1 1)) := by rw [← hN1, t_law h l1 (by decide) hb1]; rfl
  rw [e2, e4]
  have e0 : decide (hml K w = 0) = decide (nI (hml K w) = 0) := by
    rw [decide_eq_decide, show (0 : Int32) = nI 0 from rfl]
    have : hml K w ≤ K.1 25 := hml_b K w _
    exact (nI_eq (by omega) (by decide)).symm
  have e5 : decide (S.1 25 ≠ 30) = decide (K.1 25 < 30) := by
    rw [decide_eq_decide]; omega
  rw [e0, e5]
  cases groK K a (nI (K.1 1)) <;> cases groK K w (nI (K.1 1)) <;> cases decide (K.1 25 < 30) <;> simp
theorem p_marry (h : tie n K S) (hn : n < 512) (a w d : Int32) : lcal tie n K (x_marry K a w d) [1, 2, 3] (k_marry K a w d) (o_marry S a w d).1 (nI (K.1 25) = (o_marry S a w d).2) := by
  unfold x_marry o_marry
  have h13 := h.N.2.2.2.2.1
  have h25 := h.N.2.2.2.2.2.1
  have hb1 := h.bd.1
  have hb2 := h.bd.2.1
  have hb5 := h.bd.2.2.2.2.1
  have hb6 := h.bd.2.2.2.2.2.1
  have hN1 := h.N.1
  rw [h13]
  by_cases e1 : (zix a (S.1 13) && zix w (S.1 13)) = false
  · rw [if_pos e1, if_pos e1]
    exact lcal_thr h hn (okcd_3 (by decide)) 0 1 rfl
  rw [if_neg e1, if_neg e1]
  have e1 := bF e1
  rw [Bool.and_eq_true] at e1
  obtain ⟨i, hi, rfl⟩ := zix_of e1.1 (by omega)
  obtain ⟨j, hj, rfl⟩ := zix_of e1.2 (by omega)
  have hi' : i < K.1 13 := by omega
  have hj' : j < K.1 13 := by omega
  rw [nI_clamp (by omega), nI_clamp (by omega), t_may h hi' hj', rng_w]
  have em : (decide (S.2.2.1 14 i ≠ 0) && (decide (S.2.2.1 14 j = 0) && rng d 0 1000000)) = (((kpe K i).1 && !(kpe K j).1) && rng d 0 1000000) := by
    rw [decide_not, t_man h hi', t_man h hj', Bool.not_not, Bool.and_assoc]
  rw [em]
  by_cases e2 : (((kpe K i).1 && !(kpe K j).1) && rng d 0 1000000) = false
  · rw [if_pos e2, if_pos e2]
    exact lcal_thr h hn (okcd_3 (by decide)) 1 2 rfl
  rw [if_neg e2, if_neg e2]
  by_cases e3 : ((groK K i (nI (K.1 1)) && groK K j (nI (K.1 1))) && (mayK K i j (lixN (crtK K 0 i j (nI (K.1 1)))) && decide (K.1 25 < 30))) = false
  · rw [if_pos e3, if_pos e3]
    exact lcal_thr h hn (okcd_3 (by decide)) 2 3 rfl
  rw [if_neg e3, if_neg e3]
  have e2 := bF e2
  have e3 := bF e3
  simp only [Bool.and_eq_true, Bool.not_eq_true', decide_eq_true_eq] at e2 e3
  obtain ⟨⟨s1, s2⟩, s3⟩ := e2
  obtain ⟨-, -, s4⟩ := e3
  obtain ⟨d0, -, d1, rfl⟩ := rng_N (a := 0) (b := 1000000) (by decide) (by decide) s3
  have hij : i ≠ j := by rintro rfl; rw [s1] at s2; cases s2
  have hc := t_now h (m := 0) (by decide) hi' hj'
  unfold k_marry
  rw [nI_clamp (by omega), nI_clamp (by omega)]
  obtain ⟨z28, z31, z32⟩ := h.M.2.2 (S.1 25) (by omega) (by omega)
  have hne : ∀ q, q < K.1 25 → va_up (kma K) (K.1 25) (marX K i j (nI d0)) q = kma K q := fun q hq => up_ne (by omega)
  obtain ⟨i1, i2, ⟨i3, i4, i5⟩, i6, i7, i8⟩ := h.ik
  obtain ⟨b1, b2, b3, b4, b5, b6, b7⟩ := i1
  obtain ⟨a1, a2, a3, a4, a5, a6, a7, a8⟩ := h.N
  refine lcal_ok (okcd_3 (by decide)) rfl (by rw [h25]) ⟨⟨h.1.1.up hn, h.1.2.up⟩, ⟨⟨⟨b1, b2, b3, b4, b5, by show K.1 25 + 1 ≤ 30; omega, b7⟩, i2, ⟨fun m hm => ?_, i4, i5⟩, i6, i7, i8⟩, h.2.1.2⟩, ⟨a1, a2, a3, a4, a5, by show K.1 25 + 1 = S.1 25 + 1; omega, a7, a8⟩, h.P, ⟨fun m hm => ?_, fun m hm => ?_, fun m hm h30 => ?_⟩, h.Su, h.C⟩ (Nat.le_refl _)
  · have hm : m < K.1 25 + 1 := hm
    show (va_up (kma K) (K.1 25) (marX K i j (nI d0)) m).1 < K.1 13 ∧ (va_up (kma K) (K.1 25) (marX K i j (nI d0)) m).2.1 < K.1 13 ∧ (va_up (kma K) (K.1 25) (marX K i j (nI d0)) m).1 ≠ (va_up (kma K) (K.1 25) (marX K i j (nI d0)) m).2.1
    by_cases e : m = K.1 25
    · subst e; rw [up_eq]; exact ⟨hi', hj', hij⟩
    · rw [hne m (by omega)]; exact i3 m (by omega)
  · have hm : m < K.1 25 + 1 := hm
    show upd (S.2.2.1 26) (S.1 25) (nI i) m = nI (va_up (kma K) (K.1 25) (marX K i j (nI d0)) m).1 ∧ upd (S.2.2.1 27) (S.1 25) (nI j) m = nI (va_up (kma K) (K.1 25) (marX K i j (nI d0)) m).2.1 ∧ S.2.2.1 28 m = (va_up (kma K) (K.1 25) (marX K i j (nI d0)) m).2.2.2.1 ∧ upd (S.2.2.1 29) (S.1 25) (nI d0) m = (va_up (kma K) (K.1 25) (marX K i j (nI d0)) m).2.2.2.2.1 ∧ upd (S.2.2.1 30) (S.1 25) (courtOn S 0 i j (S.1 1)) m = (va_up (kma K) (K.1 25) (marX K i j (nI d0)) m).2.2.1 ∧ S.2.2.1 31 m = b2i (va_up (kma K) (K.1 25) (marX K i j (nI d0)) m).2.2.2.2.2.1 ∧ S.2.2.1 32 m = b2i (va_up (kma K) (K.1 25) (marX K i j (nI d0)) m).2.2.2.2.2.2
    by_cases e : m = K.1 25
    · subst e
      rw [up_eq, h25, pk_us, pk_us, pk_us, pk_us, z28, z31, z32]
      exact ⟨rfl, rfl, rfl, rfl, hc.symm, rfl, rfl⟩
    · rw [hne m (by omega), pk_un (by omega), pk_un (by omega), pk_un (by omega), pk_un (by omega)]
      exact h.M.1 m (by omega)
  · have hm : m < K.1 25 + 1 := hm
    show ∃ x, x ≤ 1000000 ∧ (va_up (kma K) (K.1 25) (marX K i j (nI d0)) m).2.2.2.2.1 = nI x
    by_cases e : m = K.1 25
    · subst e; rw [up_eq]; exact ⟨d0, d1, rfl⟩
    · rw [hne m (by omega)]; exact h.M.2.1 m (by omega)
  · have hm : K.1 25 + 1 ≤ m := hm
    exact h.M.2.2 m (by omega) h30
end TIE12
