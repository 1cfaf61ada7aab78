/-! dies -/
section TIE30
variable {n : Nat} {K K1 A : zK} {S S1 T : zS}
/-- the widow's part is a part -/
def iL3 (K : zK) : Prop := ∀ l, l ≤ K.1 2 → ∀ i, i ≤ (kch K (lch l 3)).2.1 → ∃ j, j ≤ 100 ∧ (kch K (lch l 3)).2.2.2 i = nI j
theorem iL3_of (h : iL3 K) {l : Nat} (hl : l ≤ K.1 2) (d : Int32) : ∃ j, j ≤ 100 ∧ lawK K l 3 d = nI j :=
  chOn_some (P := fun x => ∃ j, j ≤ 100 ∧ x = nI j) _ (h l hl)
theorem part_le {H : Int64} {x : Nat} (h0 : 0 ≤ H.toInt) (h1 : H.toInt ≤ 1000000000) (hx : x ≤ 100) : 0 ≤ (H * (nI x).toInt64 / 100).toInt ∧ (H * (nI x).toInt64 / 100).toInt ≤ H.toInt := by
  have m1 : H.toInt * (x : Int) ≤ H.toInt * 100 := Int.mul_le_mul_of_nonneg_left (by omega) h0
  have m2 : 0 ≤ H.toInt * (x : Int) := Int.mul_nonneg h0 (by omega)
  have e1 : (H * (nI x).toInt64).toInt = H.toInt * (x : Int) := i64_mul rfl (nI64 (by omega)) m2 (by omega)
  have e2 : (H * (nI x).toInt64 / 100).toInt = (H * (nI x).toInt64).toInt / ((100 : Nat) : Int) := i64_div (by omega) rfl (by decide)
  rw [e2, e1]
  omega
theorem di_tie (h : tie n K S) {j : Nat} (hj : j < K.1 13) : tie n (di0 K j) (dieS0 S j) := by
  obtain ⟨bj, q1, q2, q3⟩ := h.P.2.1 j hj
  have h13 := h.N.2.2.2.2.1
  refine tie_pe h (f := va_up (kpe K) j (peTurn (peDie (kpe K j)) (-1) (-1))) rfl (fun p hp => ?_) (fun i hi => up_ne hi) rfl (fun i i1 i2 i3 => ?_) (fun i hi => rfl) (fun p hp => ?_) (fun p hp h40 => ⟨?_, rfl⟩) (fun p hp => ?_) ?_ ⟨fun p hp => ?_, ?_⟩
  · by_cases e : p = j
    · subst e; rw [up_eq]; exact ⟨rfl, rfl, rfl, rfl⟩
    · rw [up_ne e]; exact ⟨rfl, rfl, rfl, rfl⟩
  · show va_up (va_up (va_up S.2.2.1 18 _) 22 _) 23 _ i = _
    rw [up_ne i3, up_ne i2, up_ne i1]
  · obtain ⟨c1, c2, c3, c4, c5, c6, c7, c8⟩ := h.P.1 p hp
    by_cases e : p = j
    · subst e
      rw [up_eq]
      exact ⟨by show upd (S.2.2.1 18) p 1 p = _; rw [pk_us]; rfl, c6, by show upd _ _ _ _ = _; rw [pk_us]; rfl, by show upd _ _ _ _ = _; rw [pk_us]; rfl⟩
    · rw [up_ne e]
      exact ⟨by show upd (S.2.2.1 18) j 1 p = _; rw [pk_un e]; exact c5, c6, by show upd _ _ _ _ = _; rw [pk_un e]; exact c7, by show upd _ _ _ _ = _; rw [pk_un e]; exact c8⟩
  · show upd (S.2.2.1 18) j 1 p = _
    exact pk_un (by omega)
  · by_cases e : p = j
    · subst e
      rw [up_eq]
      exact ⟨bj, q1, q2, Or.inl ⟨rfl, rfl⟩⟩
    · rw [up_ne e]; exact h.P.2.1 p hp
  · obtain ⟨r1, r2, r3, r4⟩ := h.1.1
    have hp0 := pdK_sm (f := kpe K) (j := j) (x := peTurn (peDie (kpe K j)) (-1) (-1)) (Or.inl rfl) (K.1 13)
    exact ⟨r1, r2, Nat.le_trans hp0 r3, fun q hq => Nat.le_trans (Nat.add_le_add_left hp0 _) (r4 q hq)⟩
  · show 0 ≤ (va_up (kpe K) j (peTurn (peDie (kpe K j)) (-1) (-1)) p).2.2.2.2.2.1.toInt
    by_cases e : p = j
    · subst e; rw [up_eq]; exact h.1.2.1 p hp
    · rw [up_ne e]; exact h.1.2.1 p hp
  · have := sumG_up (f := kpe K) (j := j) (x := peTurn (peDie (kpe K j)) (-1) (-1)) (K.1 13) hj
    have e : (peTurn (peDie (kpe K j)) (-1) (-1)).2.2.2.2.2.1.toInt = (kpe K j).2.2.2.2.2.1.toInt := rfl
    rw [e] at this
    have := h.1.2.2
    show sumG (va_up (kpe K) j (peTurn (peDie (kpe K j)) (-1) (-1))) (K.1 13) ≤ _
    omega
theorem zero_tie (h : tie n K S) {j : Nat} (hj : j < K.1 13) : tie n (lv1 K j) (zsL S 19 (vp_updL (S.2.2.2 19) j 0)) ∧ sumG (kpe (lv1 K j)) (K.1 13) + (kpe K j).2.2.2.2.2.1.toInt = sumG (kpe K) (K.1 13) := by
  have h13 := h.N.2.2.2.2.1
  have hs := sumG_up (f := kpe K) (j := j) (x := peGoo (kpe K j) 0) (K.1 13) hj
  have e : (peGoo (kpe K j) 0).2.2.2.2.2.1.toInt = 0 := rfl
  rw [e, Int.add_zero] at hs
  have g0 := h.1.2.1 j hj
  have hs2 : sumG (kpe (lv1 K j)) (K.1 13) + (kpe K j).2.2.2.2.2.1.toInt = sumG (kpe K) (K.1 13) := hs
  refine ⟨tie_pe h (f := va_up (kpe K) j (peGoo (kpe K j) 0)) rfl (fun p hp => ?_) (fun i hi => rfl) rfl (fun i i1 i2 i3 => rfl) (fun i hi => up_ne hi) (fun p hp => ?_) (fun p hp h40 => ⟨rfl, ?_⟩) (fun p hp => ?_) ?_ ⟨fun p hp => ?_, ?_⟩, hs2⟩
  · by_cases e : p = j
    · subst e; rw [up_eq]; exact ⟨rfl, rfl, rfl, rfl⟩
    · rw [up_ne e]; exact ⟨rfl, rfl, rfl, rfl⟩
  · obtain ⟨c1, c2, c3, c4, c5, c6, c7, c8⟩ := h.P.1 p hp
    by_cases e : p = j
    · subst e
      rw [up_eq]
      exact ⟨c5, by show vp_updL _ _ _ _ = _; rw [pk_uLs]; rfl, c7, c8⟩
    · rw [up_ne e]
      exact ⟨c5, by show vp_updL _ _ _ _ = _; rw [pk_uLn e]; exact c6, c7, c8⟩
  · show vp_updL _ _ _ _ = _
    exact pk_uLn (by omega)
  · by_cases e : p = j
    · subst e; rw [up_eq]; exact h.P.2.1 p hp
    · rw [up_ne e]; exact h.P.2.1 p hp
  · obtain ⟨r1, r2, r3, r4⟩ := h.1.1
    have hp0 := pdK_sm (f := kpe K) (j := j) (x := peGoo (kpe K j) 0) (Or.inr rfl) (K.1 13)
    exact ⟨r1, r2, Nat.le_trans hp0 r3, fun q hq => Nat.le_trans (Nat.add_le_add_left hp0 _) (r4 q hq)⟩
  · show 0 ≤ (va_up (kpe K) j (peGoo (kpe K j) 0) p).2.2.2.2.2.1.toInt
    by_cases e : p = j
    · subst e; rw [up_eq]; exact Int.le_refl _
    · rw [up_ne e]; exact h.1.2.1 p hp
  · have := h.1.2.2
    show sumG (kpe (lv1 K j)) (K.1 13) ≤ _
    omega
theorem give_opt (h : tie n K S) {q : zTl} {gds : Int64} (b : Bool) (hls : lsP q.1 q.2.2.2 (K.1 13) (fun k => decide (S.2.2.1 47 k ≠ 0))) (hg0 : 0 ≤ gds.toInt) (hgs : sumG (kpe K) (K.1 13) + gds.toInt ≤ 1000000 * n) : tie n (dvK K q gds b) (if 0 < units S (if b = true then 2 else 1) then givesS S gds (if b = true then 2 else 1) else S) ∧ sumG (kpe (dvK K q gds b)) (K.1 13) = sumG (kpe K) (K.1 13) + (if q.1 = 0 then 0 else gds.toInt) ∧ (0 < units S (if b = true then 2 else 1) ↔ ¬ q.1 = 0) := by
  have hu := t_units h b hls
  obtain ⟨u1, u2⟩ := shT_le K b q.2.2.2 q.1
  by_cases e : q.1 = 0
  · have e0 : units S (if b = true then 2 else 1) = 0 := by omega
    have ed : dvK K q gds b = K := by unfold dvK; rw [if_pos e]
    rw [if_pos e, ed, e0, if_neg (Nat.lt_irrefl 0), Int.add_zero]
    exact ⟨h, rfl, fun hh => absurd hh (Nat.lt_irrefl 0), fun hh => absurd e hh⟩
  · have e0 : 0 < units S (if b = true then 2 else 1) := by omega
    rw [if_neg e, if_pos e0]
    obtain ⟨g1, g2⟩ := tie_give h b hls (by omega) hg0 hgs
    exact ⟨g1, g2, fun _ => e, fun _ => e0⟩
theorem dvK_one {l c : Nat} {m : Int32} {R : Int64} : dvK A (1, c, m, fun _ => l) R false = gooA A l R := by
  have e1 : (nI 1).toInt64 = 1 := rfl
  have es : svT A (1, c, m, fun _ => l) R false = R := by
    show R / (nI (0 + 1)).toInt64 = R
    exact Int64.div_one
  unfold dvK
  rw [if_neg (show ¬ (1 : Nat) = 0 by decide), es]
  show gooA (gooA A l (R * (nI 1).toInt64)) l (R - R * (nI (0 + 1)).toInt64) = gooA A l R
  rw [e1, Int64.mul_one, Int64.sub_self]
  unfold gooA
  show spe (spe A l _) l (peGoo (va_up (kpe A) l _ l) ((va_up (kpe A) l _ l).2.2.2.2.2.1 + 0)) = _
  rw [up_eq, Int64.add_zero]
  show (A.1, A.2.1, A.2.2.1, va_up (va_up (kpe A) l _) l _, A.2.2.2.2) = (A.1, A.2.1, A.2.2.1, va_up (kpe A) l _, A.2.2.2.2)
  rw [up2]
  rfl
theorem dies_end (h : tie n A T) {q : zTl} {R : Int64} (Sh : Int32) (hls : lsP q.1 q.2.2.2 (A.1 13) (fun k => decide (T.2.2.1 47 k ≠ 0))) (hR0 : 0 ≤ R.toInt) (hR : sumG (kpe A) (A.1 13) + R.toInt ≤ 1000000 * n) :
    (lowest T = -1 ↔ q.1 = 0) ∧ (tie n (sC A (A.2.1 + R)) (zsC T (A.2.1 + R))) ∧ (¬ q.1 = 0 → tie n (if Sh = 2 then gooA A (lowT q.2.2.2 (q.1 - 1)) R else dvK A q R (decide (Sh = 1))) (givesS (if Sh = 2 then zsA T 47 (oneL (lowest T) (T.2.2.1 47) (T.1 13)) else T) R (if Sh = 1 then 2 else 1))) := by
  have h13 := h.N.2.2.2.2.1
  have hb5 := h.bd.2.2.2.2.1
  have hlow : lowest T = if q.1 = 0 then -1 else nI (lowT q.2.2.2 (q.1 - 1)) := by
    unfold lowest
    rw [← h13]
    exact low_eq hls
  refine ⟨?_, ?_, fun hq => ?_⟩
  · rw [hlow]
    by_cases e : q.1 = 0
    · rw [if_pos e]; exact ⟨fun _ => e, fun _ => rfl⟩
    · rw [if_neg e]
      have := (low_ls hls (by omega)).1.1
      exact ⟨fun hh => absurd hh (nI_m1 (by omega)), fun hh => absurd hh e⟩
  · obtain ⟨a1, a2, a3, a4, a5, a6, a7, a8⟩ := h.N
    exact ⟨h.1, h.2.1, ⟨a1, a2, a3, a4, a5, a6, a7, rfl⟩, h.P, h.M, h.Su, h.C⟩
  · obtain ⟨⟨l1, l2⟩, l3⟩ := low_ls hls (by omega)
    by_cases e : Sh = 2
    · subst e
      rw [if_pos rfl, if_pos rfl, if_neg (by decide), ← dvK_one (c := 10) (m := 0), hlow, if_neg hq]
      generalize lowT q.2.2.2 (q.1 - 1) = l at *
      have t := tie_47 h (oneL (nI l) (T.2.2.1 47) (T.1 13))
      have := tie_give t (q := (1, 10, 0, fun _ => l)) (gds := R) false ⟨fun i hi => ⟨l1, ?_⟩, fun p hp hP => ⟨0, Nat.zero_lt_one, ?_⟩, fun i k hi hk _ => by omega⟩ Nat.zero_lt_one hR0 hR
      · exact this.1
      · show decide ((zsA T 47 (oneL (nI l) (T.2.2.1 47) (T.1 13))).2.2.1 47 l ≠ 0) = true
        rw [zsA_s, oneL_at, if_pos (by omega), b2i_ne]
        exact decide_eq_true rfl
      · have hP : decide ((zsA T 47 (oneL (nI l) (T.2.2.1 47) (T.1 13))).2.2.1 47 p ≠ 0) = true := hP
        rw [zsA_s, oneL_at, if_pos (by omega), b2i_ne] at hP
        exact ((nI_eq (by omega) (by omega)).mp (of_decide_eq_true hP)).symm
    · rw [if_neg e, if_neg e]
      have := (tie_give h (decide (Sh = 1)) hls (by omega) hR0 hR).1
      simp only [decide_eq_true_eq] at this
      exact this
end TIE30
