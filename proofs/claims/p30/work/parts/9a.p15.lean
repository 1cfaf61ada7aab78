/-! goods that go over; divorce -/
section TIE15
variable {n : Nat} {K K1 : zK} {S S1 : zS}
theorem paid_N {g : Int64} {x0 : Nat} (hg : 0 ≤ g.toInt) (hx : x0 ≤ 1000000) : ∃ y, y ≤ x0 ∧ paidI g (nI x0) = nI y ∧ (y : Int) ≤ g.toInt ∧ (nI y).toInt64 = (if g < (nI x0).toInt64 then g else (nI x0).toInt64) := by
  have hx64 : (nI x0).toInt64.toInt = (x0 : Int) := by rw [Int32.toInt_toInt64, nI_toInt (by omega)]
  unfold paidI
  by_cases e : g < (nI x0).toInt64
  · have e' : g.toInt < x0 := by rw [Int64.lt_iff_toInt_lt, hx64] at e; exact e
    have hy : ((g.toInt.toNat : Nat) : Int) = g.toInt := Int.toNat_of_nonneg hg
    have k1 : g.toInt32 = nI g.toInt.toNat := by
      apply Int32.toInt_inj.mp
      rw [Int64.toInt_toInt32, nI_toInt (by omega), hy]
      apply Int.bmod_eq_of_le <;> omega
    refine ⟨g.toInt.toNat, by omega, ?_, by omega, ?_⟩
    · rw [if_neg (by rw [Int64.lt_iff_toInt_lt, hx64]; omega), k1]
    · rw [if_pos e]
      apply Int64.toInt_inj.mp
      rw [Int32.toInt_toInt64, nI_toInt (by omega), hy]
  · have e' : (x0 : Int) ≤ g.toInt := by rw [Int64.lt_iff_toInt_lt, hx64] at e; omega
    refine ⟨x0, Nat.le_refl _, ?_, e', by rw [if_neg e]⟩
    by_cases e2 : (nI x0).toInt64 < g
    · rw [if_pos e2, Int32.toInt32_toInt64]
    · have : g = (nI x0).toInt64 := by
        apply Int64.toInt_inj.mp
        rw [hx64]
        rw [Int64.lt_iff_toInt_lt, hx64] at e2
        omega
      rw [if_neg e2, this, Int32.toInt32_toInt64]
theorem tie_pay (h : tie n K S) {a b : Nat} {v : Int64} (ha : a < K.1 13) (hb : b < K.1 13) (hab : a ≠ b) (hv0 : 0 ≤ v.toInt) (hv : v.toInt ≤ (kpe K a).2.2.2.2.2.1.toInt) : tie n (payK K a b v) (move S a b v) := by
  have ga := h.1.2.1 a ha
  have gb := h.1.2.1 b hb
  have gs := h.1.2.2
  have hn := h.1.1.1
  have hba : ¬ b = a := fun e => hab e.symm
  have g2 := sumG_one (K := K) h.1.2.1 ha
  have sub : ((kpe K a).2.2.2.2.2.1 - v).toInt = (kpe K a).2.2.2.2.2.1.toInt - v.toInt := by
    rw [Int64.toInt_sub]
    apply Int.bmod_eq_of_le <;> omega
  have h1b := sumG_one (K := K) h.1.2.1 hb
  have add : ((kpe K b).2.2.2.2.2.1 + v).toInt = (kpe K b).2.2.2.2.2.1.toInt + v.toInt := by
    rw [Int64.toInt_add]
    apply Int.bmod_eq_of_le <;> omega
  have hf : ∀ p, va_up (va_up (kpe K) a (peGoo (kpe K a) ((kpe K a).2.2.2.2.2.1 - v))) b (peGoo (kpe K b) ((kpe K b).2.2.2.2.2.1 + v)) p = if p = b then peGoo (kpe K b) ((kpe K b).2.2.2.2.2.1 + v) else if p = a then peGoo (kpe K a) ((kpe K a).2.2.2.2.2.1 - v) else kpe K p := fun p => rfl
  have hK : payK K a b v = (K.1, K.2.1, K.2.2.1, va_up (va_up (kpe K) a (peGoo (kpe K a) ((kpe K a).2.2.2.2.2.1 - v))) b (peGoo (kpe K b) ((kpe K b).2.2.2.2.2.1 + v)), K.2.2.2.2) := by
    rfl
  have hgoo : ∀ p, (va_up (va_up (kpe K) a (peGoo (kpe K a) ((kpe K a).2.2.2.2.2.1 - v))) b (peGoo (kpe K b) ((kpe K b).2.2.2.2.2.1 + v)) p).2.2.2.2.2.1 = if p = b then (kpe K b).2.2.2.2.2.1 + v else if p = a then (kpe K a).2.2.2.2.2.1 - v else (kpe K p).2.2.2.2.2.1 := by
    intro p
    rw [hf]
    split
    · rfl
    · split <;> rfl
  have hoth : ∀ p, (va_up (va_up (kpe K) a (peGoo (kpe K a) ((kpe K a).2.2.2.2.2.1 - v))) b (peGoo (kpe K b) ((kpe K b).2.2.2.2.2.1 + v)) p).2.2.2.2.1 = (kpe K p).2.2.2.2.1 ∧ (va_up (va_up (kpe K) a (peGoo (kpe K a) ((kpe K a).2.2.2.2.2.1 - v))) b (peGoo (kpe K b) ((kpe K b).2.2.2.2.2.1 + v)) p).2.2.2.2.2.2 = (kpe K p).2.2.2.2.2.2 ∧ stat (va_up (va_up (kpe K) a (peGoo (kpe K a) ((kpe K a).2.2.2.2.2.1 - v))) b (peGoo (kpe K b) ((kpe K b).2.2.2.2.2.1 + v)) p) (kpe K p) := by
    intro p
    rw [hf]
    by_cases e1 : p = b
    · subst e1; rw [if_pos rfl]; exact ⟨rfl, rfl, rfl, rfl, rfl, rfl⟩
    · rw [if_neg e1]
      by_cases e2 : p = a
      · subst e2; rw [if_pos rfl]; exact ⟨rfl, rfl, rfl, rfl, rfl, rfl⟩
      · rw [if_neg e2]; exact ⟨rfl, rfl, rfl, rfl, rfl, rfl⟩
  generalize va_up (va_up (kpe K) a (peGoo (kpe K a) ((kpe K a).2.2.2.2.2.1 - v))) b (peGoo (kpe K b) ((kpe K b).2.2.2.2.2.1 + v)) = F at hK hgoo hoth
  have ra := (h.P.1 a ha).2.2.2.2.2.1
  have rb := (h.P.1 b hb).2.2.2.2.2.1
  have hrow : ∀ p, (move S a b v).2.2.2 19 p = if p = b then S.2.2.2 19 b + v else if p = a then S.2.2.2 19 a - v else S.2.2.2 19 p := by
    intro p
    show (if p = b then (if b = a then S.2.2.2 19 a - v else S.2.2.2 19 b) + v else if p = a then _ else _) = _
    rw [if_neg hba]
  have hpd : pdK F (K.1 13) = pdK (kpe K) (K.1 13) := pdK_congr _ (fun q _ => by rw [(hoth q).2.1])
  have hsum : ∀ m, sumG F m = sumG (kpe K) m + (if b < m then v.toInt else 0) - (if a < m then v.toInt else 0) := by
    intro m
    induction m with
    | zero => rfl
    | succ m ih =>
      rw [sumG_s, sumG_s, ih, hgoo]
      by_cases e1 : m = b
      · subst e1
        rw [if_pos rfl, add, if_neg (Nat.lt_irrefl m), if_pos (Nat.lt_succ_self m)]
        by_cases e2 : a < m
        · rw [if_pos e2, if_pos (show a < m + 1 by omega)]; omega
        · rw [if_neg e2, if_neg (show ¬ a < m + 1 by omega)]; omega
      · rw [if_neg e1]
        by_cases e2 : m = a
        · subst e2
          rw [if_pos rfl, sub, if_neg (Nat.lt_irrefl m), if_pos (Nat.lt_succ_self m)]
          by_cases e3 : b < m
          · rw [if_pos e3, if_pos (show b < m + 1 by omega)]; omega
          · rw [if_neg e3, if_neg (show ¬ b < m + 1 by omega)]; omega
        · rw [if_neg e2]
          have q1 : (if b < m + 1 then v.toInt else 0) = if b < m then v.toInt else 0 := by
            by_cases e3 : b < m
            · rw [if_pos e3, if_pos (show b < m + 1 by omega)]
            · rw [if_neg e3, if_neg (show ¬ b < m + 1 by omega)]
          have q2 : (if a < m + 1 then v.toInt else 0) = if a < m then v.toInt else 0 := by
            by_cases e3 : a < m
            · rw [if_pos e3, if_pos (show a < m + 1 by omega)]
            · rw [if_neg e3, if_neg (show ¬ a < m + 1 by omega)]
          rw [q1, q2]; omega
  rw [hK]
  refine tie_pe h (f := F) rfl (fun p _ => (hoth p).2.2) (fun i hi => rfl) rfl (fun i _ _ _ => rfl) (fun i hi => ?_) (fun p hp => ?_) (fun p hp h40 => ⟨rfl, ?_⟩) (fun p hp => ?_) ⟨h.1.1.1, h.1.1.2.1, ?_, fun q hq => ?_⟩ ⟨fun p hp => ?_, ?_⟩
  · show va_up (va_up _ _ _) _ _ i = _
    rw [up_ne hi, up_ne hi]
  · obtain ⟨c1, c2, c3, c4, c5, c6, c7, c8⟩ := h.P.1 p hp
    refine ⟨by rw [(hoth p).1]; exact c5, ?_, by rw [(hoth p).2.1]; exact c7, by rw [(hoth p).2.1]; exact c8⟩
    rw [hrow, hgoo, ra, rb, c6]
  · rw [hrow, if_neg (by omega), if_neg (by omega)]
  · obtain ⟨bb, p1, p2, p3⟩ := h.P.2.1 p hp
    refine ⟨bb, p1, (hoth p).2.2.2.2.2.trans p2, ?_⟩
    rw [(hoth p).1, (hoth p).2.1]
    exact p3
  · show pdK F (K.1 13) ≤ _; rw [hpd]; exact h.1.1.2.2.1
  · show _ + pdK F (K.1 13) ≤ _; rw [hpd]; exact h.1.1.2.2.2 q hq
  · show 0 ≤ (F p).2.2.2.2.2.1.toInt
    rw [hgoo]
    split
    · rw [add]; omega
    · split
      · rw [sub]; omega
      · exact h.1.2.1 p hp
  · show sumG F (K.1 13) ≤ _
    rw [hsum, if_pos hb, if_pos ha]; omega
/-- marriages' own things change -/
theorem tie_ma (h : tie n K S) {f : Nat → zMa} {K1 : zK} (hK : K1 = (K.1, K.2.1, K.2.2.1, K.2.2.2.1, f, K.2.2.2.2.2)) (h1 : ∀ i, ¬ i = 0 → S1.1 i = S.1 i) (h2 : S1.2.1 = S.2.1)
    (hA : ∀ i, ¬ i = 28 → ¬ i = 29 → ¬ i = 31 → ¬ i = 32 → S1.2.2.1 i = S.2.2.1 i) (hL : S1.2.2.2 = S.2.2.2) (hf : ∀ m, m < K.1 25 → (f m).1 = (kma K m).1 ∧ (f m).2.1 = (kma K m).2.1)
    (hm : cM (K.1 25) f S1.2.2.1) (hmi : cMi (K.1 25) f) (hm0 : cM0 (K.1 25) S1.2.2.1) : tie n K1 S1 := by
  subst hK
  refine ⟨h.1, ⟨?_, h.2.1.2⟩, tN_c h.N h1 h2, ⟨cP_c (fun i a b => hA i (by omega) (by omega) (by omega) (by omega)) (by rw [hL]) h.P.1, h.P.2.1, cP0_c (fun i a b => hA i (by omega) (by omega) (by omega) (by omega)) (by rw [hL]) h.P.2.2⟩, ⟨hm, hmi, hm0⟩,
    ⟨cS_c (fun i a b => hA i (by omega) (by omega) (by omega) (by omega)) (by rw [hL]) (by rw [hL]) h.Su.1, h.Su.2.1, cS0_c (fun i a b => hA i (by omega) (by omega) (by omega) (by omega)) (by rw [hL]) (by rw [hL]) h.Su.2.2.1, ?_⟩,
    cL_c (fun i a b => hA i (by omega) (by omega) (by omega) (by omega)) h.C.1, cR_c (fun i a b => hA i (by omega) (by omega) (by omega) (by omega)) h.C.2.1, ?_, cFt_c (fun i a b => hA i (by omega) (by omega) (by omega) (by omega)) (fun p hp => rfl) h.C.2.2.2⟩
  · obtain ⟨i1, i2, ⟨i3, i4, i5⟩, i6⟩ := h.ik
    refine ⟨i1, i2, ⟨fun m hm => ?_, i4, i5⟩, i6⟩
    obtain ⟨e1, e2⟩ := hf m hm
    show (f m).1 < _ ∧ (f m).2.1 < _ ∧ (f m).1 ≠ (f m).2.1
    rw [e1, e2]
    exact i3 m hm
  · have := h.Su.2.2.2
    rw [← hA 41 (by decide) (by decide) (by decide) (by decide)] at this
    exact this
  · have := h.C.2.2.1
    rw [← hA 3 (by decide) (by decide) (by decide) (by decide)] at this
    exact this
/-- the dower is paid, and nothing is owed -/
theorem tie_dow (h : tie n K S) {m : Nat} (hm : m < K.1 25) : tie n (dowK K m) (paysS S m (kma K m).1 (kma K m).2.1) := by
  obtain ⟨c1, c2, c3⟩ := h.ik.2.2.1.1 m hm
  obtain ⟨x0, x1, x2⟩ := h.M.2.1 m hm
  obtain ⟨r1, r2, r3, r4, r5, r6, r7⟩ := h.M.1 m hm
  have ga := h.1.2.1 _ c1
  obtain ⟨y, y1, y2, y3, y4⟩ := paid_N ga x1
  have rg := (h.P.1 _ c1).2.2.2.2.2.1
  have hpay : payI S m (kma K m).1 = (nI y).toInt64 := by
    unfold payI
    rw [y4, rg, r4, x2]
  have hy64 : (nI y).toInt64.toInt = (y : Int) := by rw [Int32.toInt_toInt64, nI_toInt (by omega)]
  have hp := tie_pay h (v := (nI y).toInt64) c1 c2 c3 (by rw [hy64]; omega) (by rw [hy64]; exact y3)
  unfold dowK paysS
  rw [hpay, x2, y2]
  refine tie_ma hp (f := va_up (kma K) m (maOw (kma K m) 0)) rfl (fun i hi => rfl) rfl (fun i _ i2 _ _ => up_ne i2) rfl (fun q hq => ?_) (fun q hq => ?_) (fun q hq => ?_) (fun q hq h30 => ?_)
  · by_cases e : q = m
    · subst e; rw [up_eq]; exact ⟨rfl, rfl⟩
    · rw [up_ne e]; exact ⟨rfl, rfl⟩
  · obtain ⟨d1, d2, d3, d4, d5, d6, d7⟩ := h.M.1 q hq
    by_cases e : q = m
    · subst e; rw [up_eq]; exact ⟨d1, d2, d3, by show upd _ _ _ _ = _; rw [pk_us]; rfl, d5, d6, d7⟩
    · rw [up_ne e]; exact ⟨d1, d2, d3, by show upd _ _ _ _ = _; rw [pk_un e]; exact d4, d5, d6, d7⟩
  · by_cases e : q = m
    · subst e; rw [up_eq]; exact ⟨0, by decide, rfl⟩
    · rw [up_ne e]; exact h.M.2.1 q hq
  · exact h.M.2.2 q hq h30
end TIE15
