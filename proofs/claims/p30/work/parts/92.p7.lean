/-! suits: appear, judge -/
section TIE7
variable {n : Nat} {K K1 : zK} {S S1 : zS}
theorem cP_c {np : Nat} {f : Nat → zPe} {A A1 : Nat → Nat → Int32} {g g1 : Nat → Int64} (hA : ∀ i, 14 ≤ i → i ≤ 24 → A1 i = A i) (hg : g1 = g) (h : cP np f A g) : cP np f A1 g1 := by
  subst hg
  intro p hp
  rw [hA 14 (by decide) (by decide), hA 15 (by decide) (by decide), hA 16 (by decide) (by decide), hA 17 (by decide) (by decide), hA 18 (by decide) (by decide), hA 22 (by decide) (by decide), hA 23 (by decide) (by decide)]
  exact h p hp
theorem cP0_c {np : Nat} {A A1 : Nat → Nat → Int32} {g g1 : Nat → Int64} (hA : ∀ i, 14 ≤ i → i ≤ 24 → A1 i = A i) (hg : g1 = g) (h : cP0 np A g) : cP0 np A1 g1 := by
  subst hg
  intro p hp h40
  rw [hA 18 (by decide) (by decide), hA 20 (by decide) (by decide)]
  exact h p hp h40
theorem tN_c (h : tN K S) (h1 : ∀ i, ¬ i = 0 → S1.1 i = S.1 i) (h2 : S1.2.1 = S.2.1) : tN K S1 := by
  obtain ⟨a1, a2, a3, a4, a5, a6, a7, a8⟩ := h
  exact ⟨a1.trans (h1 1 (by decide)).symm, a2.trans (h1 2 (by decide)).symm, a3.trans (h1 4 (by decide)).symm, a4.trans (h1 9 (by decide)).symm, a5.trans (h1 13 (by decide)).symm, a6.trans (h1 25 (by decide)).symm, a7.trans (h1 33 (by decide)).symm, a8.trans h2.symm⟩
/-- suits' own things change -/
theorem tie_su (h : tie n K S) (hn : n < 512) {f : Nat → zSu} {K1 : zK} (hK : K1 = (K.1, K.2.1, K.2.2.1, K.2.2.2.1, K.2.2.2.2.1, f, K.2.2.2.2.2.2)) (h1 : ∀ i, ¬ i = 0 → S1.1 i = S.1 i) (h2 : S1.2.1 = S.2.1)
    (hA : ∀ i, ¬ i = 39 → ¬ i = 40 → ¬ i = 44 → ¬ i = 45 → S1.2.2.1 i = S.2.2.1 i) (hL : ∀ i, ¬ i = 42 → ¬ i = 43 → S1.2.2.2 i = S.2.2.2 i)
    (hf : ∀ s, s < K.1 33 → (f s).1 = (ksu K s).1 ∧ (f s).2.1 = (ksu K s).2.1 ∧ (f s).2.2.1 = (ksu K s).2.2.1)
    (hs : cS (K.1 33) f S1.2.2.1 (S1.2.2.2 42) (S1.2.2.2 43)) (hsi : cSi (K.1 1) (K.1 33) f) (hs0 : cS0 (K.1 33) S1.2.2.1 (S1.2.2.2 42) (S1.2.2.2 43)) : tie (n + 1) K1 S1 := by
  subst hK
  have h19 := hL 19 (by decide) (by decide)
  refine ⟨⟨h.1.1.up hn, h.1.2.up⟩, ⟨?_, h.2.1.2⟩, tN_c h.N h1 h2, ⟨cP_c (fun i a b => hA i (by omega) (by omega) (by omega) (by omega)) h19 h.P.1, h.P.2.1, cP0_c (fun i a b => hA i (by omega) (by omega) (by omega) (by omega)) h19 h.P.2.2⟩, ⟨cM_c (fun i a b => hA i (by omega) (by omega) (by omega) (by omega)) h.M.1, h.M.2.1, cM0_c (fun i a b => hA i (by omega) (by omega) (by omega) (by omega)) h.M.2.2⟩,
    ⟨hs, hsi, hs0, ?_⟩,
    cL_c (fun i a b => hA i (by omega) (by omega) (by omega) (by omega)) h.C.1, cR_c (fun i a b => hA i (by omega) (by omega) (by omega) (by omega)) h.C.2.1, ?_, cFt_c (fun i a b => hA i (by omega) (by omega) (by omega) (by omega)) (fun p hp => rfl) h.C.2.2.2⟩
  · obtain ⟨i1, i2, ⟨i3, i4, i5⟩, i6, i7, i8⟩ := h.ik
    refine ⟨i1, i2, ⟨i3, fun s hs => ?_, i5⟩, i6, i7, fun s hs => ?_⟩
    · obtain ⟨e1, e2, -⟩ := hf s hs
      show (f s).1 < _ ∧ (f s).2.1 < _ ∧ (f s).1 ≠ (f s).2.1
      rw [e1, e2]
      exact i4 s hs
    · obtain ⟨-, -, e3⟩ := hf s hs
      show ∃ l, l ≤ _ ∧ (f s).2.2.1 = _
      rw [e3]
      exact i8 s hs
  · have := h.Su.2.2.2
    rw [← hA 41 (by decide) (by decide) (by decide) (by decide)] at this
    exact this
  · have := h.C.2.2.1
    rw [← hA 3 (by decide) (by decide) (by decide) (by decide)] at this
    exact this
theorem p_appear (h : tie n K S) (hn : n < 512) (s : Int32) : lcal tie n K (x_appear K s) [1, 3] (k_appear K s) (o_appear S s).1 (b2i (!(ksu K s.toNatClampNeg).2.2.2.2.2.1) = (o_appear S s).2) := by
  unfold x_appear o_appear
  rw [h.N.2.2.2.2.2.2.1]
  by_cases e1 : zix s (S.1 33) = false
  · rw [if_pos e1, if_pos e1]
    exact lcal_thr h hn (okcd_2 (by decide)) 0 1 rfl
  rw [if_neg e1, if_neg e1]
  have hb7 := h.bd.2.2.2.2.2.2
  have hb5 := h.bd.2.2.2.2.1
  have h33 := h.N.2.2.2.2.2.2.1
  obtain ⟨j, hj, rfl⟩ := zix_of (bF e1) (by omega)
  have hj' : j < K.1 33 := by omega
  unfold k_appear
  rw [nI_clamp (by omega)]
  obtain ⟨a1, a2, a3, a4, a5, a6, a7, a8, a9, a10, a11⟩ := h.Su.1 j hj'
  obtain ⟨d1, d2, d3⟩ := h.ik.2.2.1.2.1 j hj'
  rw [a5, a2, nI_clamp (by omega), t_liv h d2]
  by_cases e2 : (decide ((ksu K j).2.2.2.2.1 = 0) && (kpe K (ksu K j).2.1).2.2.2.2.1) = false
  · rw [if_pos e2, if_pos e2]
    exact lcal_thr h hn (okcd_2 (by decide)) 1 3 rfl
  rw [if_neg e2, if_neg e2]
  refine lcal_ok (okcd_2 (by decide)) rfl (by show b2i _ = b2i (!canJudge S j); unfold canJudge; rw [a6]) (tie_su h hn (f := va_up (ksu K) j (suCa (ksu K j) true)) rfl (fun i hi => up_ne hi) rfl (fun i _ i2 _ _ => up_ne i2) (fun i _ _ => rfl) (fun s hs => ?_) (fun s hs => ?_) (fun s hs => ?_) (fun s hs h20 => ?_)) (Nat.le_refl _)
  · by_cases e : s = j
    · subst e; rw [up_eq]; exact ⟨rfl, rfl, rfl⟩
    · rw [up_ne e]; exact ⟨rfl, rfl, rfl⟩
  · by_cases e : s = j
    · subst e
      rw [up_eq]
      refine ⟨a1, a2, a3, a4, a5, ?_, a7, a8, a9, a10, a11⟩
      show (decide (upd (S.2.2.1 40) s 1 s ≠ 0) || _) = true
      rw [pk_us]
      rfl
    · rw [up_ne e]
      have := h.Su.1 s hs
      obtain ⟨c1, c2, c3, c4, c5, c6, c7⟩ := this
      refine ⟨c1, c2, c3, c4, c5, ?_, c7⟩
      show (decide (upd (S.2.2.1 40) j 1 s ≠ 0) || _) = _
      rw [pk_un e]
      exact c6
  · by_cases e : s = j
    · subst e; rw [up_eq]; exact h.Su.2.1 s hs
    · rw [up_ne e]; exact h.Su.2.1 s hs
  · obtain ⟨c1, c2⟩ := h.Su.2.2.1 s hs h20
    exact ⟨by show upd _ _ _ _ = _; rw [pk_un (by omega)]; exact c1, c2⟩
theorem p_judge (h : tie n K S) (hn : n < 512) (s : Int32) : lcal tie n K (x_judge K s) [1, 3] (k_judge K s) (o_judge S s).1 (b2i (a_judge K s) = (o_judge S s).2) := by
  unfold x_judge o_judge
  rw [h.N.2.2.2.2.2.2.1]
  by_cases e1 : zix s (S.1 33) = false
  · rw [if_pos e1, if_pos e1]
    exact lcal_thr h hn (okcd_2 (by decide)) 0 1 rfl
  rw [if_neg e1, if_neg e1]
  have hb7 := h.bd.2.2.2.2.2.2
  have hb2 := h.bd.2.1
  have h33 := h.N.2.2.2.2.2.2.1
  obtain ⟨j, hj, rfl⟩ := zix_of (bF e1) (by omega)
  have hj' : j < K.1 33 := by omega
  unfold k_judge a_judge canJudge
  rw [nI_clamp (by omega)]
  obtain ⟨a1, a2, a3, a4, a5, a6, a7, a8, a9, a10, a11⟩ := h.Su.1 j hj'
  rw [a5, a6]
  by_cases e2 : (decide ((ksu K j).2.2.2.2.1 = 0) && (ksu K j).2.2.2.2.2.1) = false
  · rw [if_pos e2, if_pos e2]
    exact lcal_thr h hn (okcd_2 (by decide)) 1 3 rfl
  rw [if_neg e2, if_neg e2]
  have e2 := bF e2
  rw [Bool.and_eq_true, decide_eq_true_eq] at e2
  obtain ⟨l, l1, l2⟩ := h.ik.2.2.2.2.2 j hj'
  obtain ⟨x, y, x1, x2, x3, x4, x5, x6, x7⟩ := h.Su.2.1 j hj'
  have hy0 : y = 0 := x5 (by rw [e2.1]; decide)
  subst hy0
  have h43 : S.2.2.2 43 j = 0 := a11 (by rw [e2.1]; decide)
  rw [a3, l2, t_won h hj' l1, lixN_l (by omega)]
  generalize hw : wonK K j l = W
  have main : tie (n + 1) (if W = true then ssu K j (suOw (jdgK K j true) (ksu K j).2.2.2.1) else ssu K j (jdgK K j false)) (judS (th S 0) j W) := by
    have hKe : (if W = true then ssu K j (suOw (jdgK K j true) (ksu K j).2.2.2.1) else ssu K j (jdgK K j false)) = ssu K j (if W = true then suOw (jdgK K j true) (ksu K j).2.2.2.1 else jdgK K j false) := by split <;> rfl
    rw [hKe]
    generalize hX : (if W = true then suOw (jdgK K j true) (ksu K j).2.2.2.1 else jdgK K j false) = Xs
    refine tie_su h hn (f := va_up (ksu K) j Xs) rfl (fun i hi => up_ne hi) rfl (fun i i1 _ i3 _ => ?_) (fun i i1 _ => up_ne i1) (fun s hs => ?_) (fun s hs => ?_) (fun s hs => ?_) (fun s hs h20 => ?_)
    · show va_up (va_up _ _ _) _ _ i = _
      rw [up_ne i3, up_ne i1]
      rfl
    · by_cases e : s = j
      · subst e; rw [up_eq, ← hX]; cases W <;> exact ⟨rfl, rfl, rfl⟩
      · rw [up_ne e]; exact ⟨rfl, rfl, rfl⟩
    · by_cases e : s = j
      · subst e
        rw [up_eq, ← hX]
        cases W with
        | true =>
          refine ⟨a1, a2, a3, a4, ?_, a6, ?_, ?_, a9, fun _ => ?_, fun hh => absurd rfl hh⟩
          · show upd _ _ _ _ = _; rw [pk_us]; rfl
          · show vp_updL _ _ _ _ = _; rw [pk_uLs]; show (S.2.2.1 37 s).toInt64 = _; rw [a4]; rfl
          · show upd _ _ _ _ = _; rw [pk_us]; show nI (S.1 1) = nI (K.1 1); rw [h.N.1]
          · show S.2.2.2 43 s = _
            rw [h43]
            show (0 : Int64) = ((ksu K s).2.2.2.1 - (ksu K s).2.2.2.1).toInt64
            rw [Int32.sub_self]; rfl
        | false =>
          refine ⟨a1, a2, a3, a4, ?_, a6, ?_, ?_, a9, fun hh => absurd hh (show ¬ (3 : Int32) = 2 by decide), fun _ => h43⟩
          · show upd _ _ _ _ = _; rw [pk_us]; rfl
          · show vp_updL _ _ _ _ = _; rw [pk_uLs]; show (0 : Int64) = (ksu K s).2.2.2.2.2.2.1.toInt64; rw [x4]; rfl
          · show upd _ _ _ _ = _; rw [pk_us]; show nI (S.1 1) = nI (K.1 1); rw [h.N.1]
      · rw [up_ne e]
        obtain ⟨c1, c2, c3, c4, c5, c6, c7, c8, c9⟩ := h.Su.1 s hs
        refine ⟨c1, c2, c3, c4, ?_, c6, ?_, ?_, c9⟩
        · show upd _ _ _ _ = _; rw [pk_un e]; exact c5
        · show vp_updL _ _ _ _ = _; rw [pk_uLn e]; exact c7
        · show upd _ _ _ _ = _; rw [pk_un e]; exact c8
    · by_cases e : s = j
      · subst e
        rw [up_eq, ← hX]
        cases W with
        | true => exact ⟨x, x, x1, Nat.le_refl _, x3, x3, fun hh => absurd rfl hh, Or.inr (Or.inr (Or.inl rfl)), fun _ => ⟨K.1 1, Nat.le_refl _, rfl⟩⟩
        | false => exact ⟨x, 0, x1, x2, x3, x4, fun _ => rfl, Or.inr (Or.inr (Or.inr rfl)), fun _ => ⟨K.1 1, Nat.le_refl _, rfl⟩⟩
      · rw [up_ne e]; exact h.Su.2.1 s hs
    · obtain ⟨c1, c2, c3, c4⟩ := h.Su.2.2.1 s hs h20
      exact ⟨c1, c2, by show vp_updL _ _ _ _ = _; rw [pk_uLn (by omega)]; exact c3, c4⟩
  refine lcal_ok (okcd_2 (by decide)) rfl rfl main ?_
  cases W <;> exact Nat.le_refl _
end TIE7
