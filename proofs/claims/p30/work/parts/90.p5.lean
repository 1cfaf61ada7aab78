/-! a person's own things change: goods, turn, recant -/
section TIE5
variable {n : Nat} {K K1 : zK} {S S1 : zS} {A A1 : Nat → Nat → Int32} {g42 g43 h42 h43 : Nat → Int64}
theorem cM_c {nm : Nat} {f : Nat → zMa} (hA : ∀ i, 26 ≤ i → i ≤ 32 → A1 i = A i) (h : cM nm f A) : cM nm f A1 := by
  intro m hm
  rw [hA 26 (by decide) (by decide), hA 27 (by decide) (by decide), hA 28 (by decide) (by decide), hA 29 (by decide) (by decide), hA 30 (by decide) (by decide), hA 31 (by decide) (by decide), hA 32 (by decide) (by decide)]
  exact h m hm
theorem cM0_c {nm : Nat} (hA : ∀ i, 26 ≤ i → i ≤ 32 → A1 i = A i) (h : cM0 nm A) : cM0 nm A1 := by
  intro m hm h30
  rw [hA 28 (by decide) (by decide), hA 31 (by decide) (by decide), hA 32 (by decide) (by decide)]
  exact h m hm h30
theorem cS_c {ns : Nat} {f : Nat → zSu} (hA : ∀ i, 34 ≤ i → i ≤ 45 → A1 i = A i) (e42 : h42 = g42) (e43 : h43 = g43) (h : cS ns f A g42 g43) : cS ns f A1 h42 h43 := by
  subst e42
  subst e43
  intro s hs
  rw [hA 34 (by decide) (by decide), hA 35 (by decide) (by decide), hA 36 (by decide) (by decide), hA 37 (by decide) (by decide), hA 38 (by decide) (by decide), hA 39 (by decide) (by decide), hA 40 (by decide) (by decide), hA 44 (by decide) (by decide), hA 45 (by decide) (by decide)]
  exact h s hs
theorem cS0_c {ns : Nat} (hA : ∀ i, 34 ≤ i → i ≤ 45 → A1 i = A i) (e42 : h42 = g42) (e43 : h43 = g43) (h : cS0 ns A g42 g43) : cS0 ns A1 h42 h43 := by
  subst e42
  subst e43
  intro s hs h20
  rw [hA 40 (by decide) (by decide), hA 41 (by decide) (by decide), hA 45 (by decide) (by decide)]
  exact h s hs h20
theorem cL_c {td nc n4 : Nat} {ch : Nat → zCh} (hA : ∀ i, 5 ≤ i → i ≤ 8 → A1 i = A i) (h : cL td nc n4 ch A) : cL td nc n4 ch A1 := by
  unfold cL
  rw [hA 5 (by decide) (by decide), hA 6 (by decide) (by decide), hA 7 (by decide) (by decide), hA 8 (by decide) (by decide)]
  exact h
theorem cR_c {td n9 : Nat} {ch : Nat → zCh} (hA : ∀ i, 10 ≤ i → i ≤ 12 → A1 i = A i) (h : cR td n9 ch A) : cR td n9 ch A1 := by
  unfold cR
  rw [hA 10 (by decide) (by decide), hA 11 (by decide) (by decide), hA 12 (by decide) (by decide)]
  exact h
theorem cFt_c {td nc np : Nat} {ch : Nat → zCh} {f f1 : Nat → zPe} (hA : ∀ i, 20 ≤ i → i ≤ 21 → A1 i = A i) (hf : ∀ p, p < np → (f1 p).2.2.2.1 = (f p).2.2.2.1) (h : cFt td nc np ch f A) : cFt td nc np ch f1 A1 := by
  intro p hp
  rw [hA 20 (by decide) (by decide), hA 21 (by decide) (by decide), hf p hp]
  exact h p hp
/-- the same static part of a person -/
def stat (x y : zPe) : Prop := x.1 = y.1 ∧ x.2.1 = y.2.1 ∧ x.2.2.1 = y.2.2.1 ∧ x.2.2.2.1 = y.2.2.2.1
theorem iK_pe {f : Nat → zPe} (h : iK K) (hf : ∀ p, p < K.1 13 → stat (f p) (kpe K p)) : iK (K.1, K.2.1, K.2.2.1, f, K.2.2.2.2) := by
  obtain ⟨h1, h2, ⟨h3, h4, h5⟩, h6⟩ := h
  refine ⟨h1, h2, ⟨h3, h4, fun p hp => ?_⟩, h6⟩
  obtain ⟨-, e2, e3, -⟩ := hf p hp
  have := h5 p hp
  exact ⟨fun q hq => this.1 q (e2.symm.trans hq), fun q hq => this.2 q (e3.symm.trans hq)⟩
/-- persons' own things change (f, and the rows 18, 19, 22, 23) -/
theorem tie_pe (h : tie n K S) {n1 : Nat} {f : Nat → zPe} {K1 : zK} (hK : K1 = (K.1, K.2.1, K.2.2.1, f, K.2.2.2.2)) (hf : ∀ p, p < K.1 13 → stat (f p) (kpe K p)) (h1 : ∀ i, ¬ i = 0 → S1.1 i = S.1 i) (h2 : S1.2.1 = S.2.1)
    (hA : ∀ i, ¬ i = 18 → ¬ i = 22 → ¬ i = 23 → S1.2.2.1 i = S.2.2.1 i) (hL : ∀ i, ¬ i = 19 → S1.2.2.2 i = S.2.2.2 i)
    (hr : ∀ p, p < K.1 13 → S1.2.2.1 18 p = b2i (!(f p).2.2.2.2.1) ∧ S1.2.2.2 19 p = (f p).2.2.2.2.2.1 ∧ S1.2.2.1 22 p = (f p).2.2.2.2.2.2.1 ∧ S1.2.2.1 23 p = (f p).2.2.2.2.2.2.2.1)
    (h0 : ∀ p, K.1 13 ≤ p → p < 40 → S1.2.2.1 18 p = S.2.2.1 18 p ∧ S1.2.2.2 19 p = S.2.2.2 19 p)
    (hpi : cPi (K.1 1) (K.1 2) (K.1 13) f) (hnb : cNb n1 K1) (hg : cG n1 K1) : tie n1 K1 S1 := by
  subst hK
  refine ⟨⟨hnb, hg⟩, ⟨iK_pe h.ik hf, h.2.1.2⟩, ?_, ⟨fun p hp => ?_, hpi, fun p hp h40 => ?_⟩, ⟨cM_c (fun i a b => hA i (by omega) (by omega) (by omega)) h.M.1, h.M.2.1, cM0_c (fun i a b => hA i (by omega) (by omega) (by omega)) h.M.2.2⟩,
    ⟨cS_c (fun i a b => hA i (by omega) (by omega) (by omega)) (hL 42 (by decide)) (hL 43 (by decide)) h.Su.1, h.Su.2.1, cS0_c (fun i a b => hA i (by omega) (by omega) (by omega)) (hL 42 (by decide)) (hL 43 (by decide)) h.Su.2.2.1, ?_⟩,
    cL_c (fun i a b => hA i (by omega) (by omega) (by omega)) h.C.1, cR_c (fun i a b => hA i (by omega) (by omega) (by omega)) h.C.2.1, ?_, cFt_c (fun i a b => hA i (by omega) (by omega) (by omega)) (fun p hp => (hf p hp).2.2.2) h.C.2.2.2⟩
  · obtain ⟨a1, a2, a3, a4, a5, a6, a7, a8⟩ := h.N
    exact ⟨a1.trans (h1 1 (by decide)).symm, a2.trans (h1 2 (by decide)).symm, a3.trans (h1 4 (by decide)).symm, a4.trans (h1 9 (by decide)).symm, a5.trans (h1 13 (by decide)).symm, a6.trans (h1 25 (by decide)).symm, a7.trans (h1 33 (by decide)).symm, a8.trans h2.symm⟩
  · obtain ⟨b1, b2, b3, b4, -⟩ := h.P.1 p hp
    obtain ⟨e1, e2, e3, e4⟩ := hf p hp
    obtain ⟨r1, r2, r3, r4⟩ := hr p hp
    refine ⟨?_, ?_, ?_, ?_, r1, r2, r3, r4⟩
    · rw [hA 14 (by decide) (by decide) (by decide), b1, ← e1]
    · rw [hA 15 (by decide) (by decide) (by decide), b2, ← e2]
    · rw [hA 16 (by decide) (by decide) (by decide), b3, ← e3]
    · rw [hA 17 (by decide) (by decide) (by decide), b4, ← e4]
  · obtain ⟨b1, b2, b3⟩ := h.P.2.2 p hp h40
    obtain ⟨c1, c2⟩ := h0 p hp h40
    exact ⟨c1.trans b1, c2.trans b2, by rw [hA 20 (by decide) (by decide) (by decide), b3]⟩
  · have := h.Su.2.2.2
    rw [← hA 41 (by decide) (by decide) (by decide)] at this
    exact this
  · have := h.C.2.2.1
    rw [← hA 3 (by decide) (by decide) (by decide)] at this
    exact this
theorem sumG_up {f : Nat → zPe} {j : Nat} {x : zPe} : ∀ m, j < m → sumG (va_up f j x) m + (f j).2.2.2.2.2.1.toInt = sumG f m + x.2.2.2.2.2.1.toInt
  | m + 1, h => by
    unfold sumG
    by_cases e : j = m
    · subst e
      have : ∀ r, r ≤ j → sumG (va_up f j x) r = sumG f r := by
        intro r
        induction r with
        | zero => intro _; rfl
        | succ r ih => intro hr; unfold sumG; rw [ih (by omega), up_ne (show r ≠ j by omega)]
      rw [this j (Nat.le_refl _), up_eq]
      omega
    · rw [up_ne (show m ≠ j by omega)]
      have := sumG_up (f := f) (x := x) m (show j < m by omega)
      omega
theorem sumG_one {f : Nat → zPe} (h0 : ∀ p, p < K.1 13 → 0 ≤ (f p).2.2.2.2.2.1.toInt) {j : Nat} (hj : j < K.1 13) : (f j).2.2.2.2.2.1.toInt ≤ sumG f (K.1 13) := by
  have key : ∀ m, m ≤ K.1 13 → 0 ≤ sumG f m ∧ (j < m → (f j).2.2.2.2.2.1.toInt ≤ sumG f m) := by
    intro m
    induction m with
    | zero => intro _; exact ⟨Int.le_refl _, fun h => absurd h (Nat.not_lt_zero _)⟩
    | succ m ih =>
      intro hm
      obtain ⟨i1, i2⟩ := ih (by omega)
      have := h0 m (by omega)
      unfold sumG
      refine ⟨by omega, fun h => ?_⟩
      by_cases e : j = m
      · subst e; omega
      · have := i2 (by omega); omega
  exact (key _ (Nat.le_refl _)).2 hj
theorem pdK_up {f : Nat → zPe} {j : Nat} {x : zPe} : ∀ m, pdK (va_up f j x) m ≤ pdK f m + 1
  | 0 => Nat.zero_le _
  | m + 1 => by
    unfold pdK
    by_cases e : m = j
    · subst e
      have : pdK (va_up f m x) m = pdK f m := pdK_congr m (fun q hq => by rw [up_ne (show q ≠ m by omega)])
      rw [this]
      split <;> split <;> omega
    · rw [up_ne e]
      have := pdK_up (f := f) (j := j) (x := x) m
      omega
theorem pdK_sm {f : Nat → zPe} {j : Nat} {x : zPe} (hx : x.2.2.2.2.2.2.2.1 = -1 ∨ x.2.2.2.2.2.2.2.1 = (f j).2.2.2.2.2.2.2.1) : ∀ m, pdK (va_up f j x) m ≤ pdK f m
  | 0 => Nat.le_refl _
  | m + 1 => by
    unfold pdK
    have := pdK_sm hx m
    by_cases e : m = j
    · subst e
      rw [up_eq]
      rcases hx with hx | hx
      · rw [if_pos hx]; omega
      · rw [hx]; omega
    · rw [up_ne e]; omega
theorem p_goods (h : tie n K S) (hn : n < 512) (p x : Int32) : lcal tie n K (x_goods K p x) [1, 2, 3] (k_goods K p x) (o_goods S p x).1 ((kpe K p.toNatClampNeg).2.2.2.2.2.1 + x.toInt64 = (o_goods S p x).2) := by
  unfold x_goods o_goods
  rw [rng_w, h.N.2.2.2.2.1]
  by_cases e1 : zix p (S.1 13) = false
  · rw [if_pos e1, if_pos e1]
    exact lcal_thr h hn (okcd_3 (by decide)) 0 1 rfl
  rw [if_neg e1, if_neg e1]
  have hb5 := h.bd.2.2.2.2.1
  have h13 := h.N.2.2.2.2.1
  obtain ⟨j, hj, rfl⟩ := zix_of (bF e1) (by omega)
  have hj' : j < K.1 13 := by omega
  by_cases e2 : rng x 1 1000000 = false
  · rw [if_pos e2, if_pos e2]
    exact lcal_thr h hn (okcd_3 (by decide)) 1 2 rfl
  rw [if_neg e2, if_neg e2]
  unfold k_goods
  rw [nI_clamp (by omega)]
  have hl := t_liv h hj'
  by_cases e3 : (kpe K j).2.2.2.2.1 = false
  · rw [if_pos e3, if_pos (by rw [e3] at hl; exact of_decide_eq_false hl)]
    exact lcal_thr h hn (okcd_3 (by decide)) 2 3 rfl
  have e3 := bF e3
  rw [if_neg (by simp [e3]), if_neg (by rw [e3] at hl; simpa using of_decide_eq_true hl)]
  obtain ⟨x0, x1, x2, rfl⟩ := rng_N (a := 1) (b := 1000000) (by decide) (by decide) (bF e2)
  obtain ⟨a1, a2, a3, a4, a5, a6, a7, a8⟩ := h.P.1 j hj'
  have g0 := h.1.2.1 j hj'
  have gs := sumG_one h.1.2.1 hj'
  have gt := h.1.2.2
  have hx64 : (nI x0).toInt64.toInt = (x0 : Int) := by rw [Int32.toInt_toInt64, nI_toInt (by omega)]
  have hsum : ((kpe K j).2.2.2.2.2.1 + (nI x0).toInt64).toInt = (kpe K j).2.2.2.2.2.1.toInt + x0 := by
    rw [Int64.toInt_add, hx64]
    apply Int.bmod_eq_of_le <;> omega
  refine lcal_ok (okcd_3 (by decide)) rfl (by rw [a6]) (tie_pe h (f := va_up (kpe K) j (peGoo (kpe K j) ((kpe K j).2.2.2.2.2.1 + (nI x0).toInt64))) rfl (fun p hp => ?_) (fun i hi => up_ne hi) rfl (fun i _ _ _ => rfl) (fun i hi => up_ne hi) (fun p hp => ?_) (fun p hp h40 => ⟨rfl, ?_⟩) (fun p hp => ?_) ?_ ⟨fun p hp => ?_, ?_⟩) (Nat.le_refl _)
  · by_cases e : p = j
    · subst e; rw [up_eq]; exact ⟨rfl, rfl, rfl, rfl⟩
    · rw [up_ne e]; exact ⟨rfl, rfl, rfl, rfl⟩
  · obtain ⟨c1, c2, c3, c4, c5, c6, c7, c8⟩ := h.P.1 p hp
    by_cases e : p = j
    · subst e
      rw [up_eq]
      exact ⟨c5, by show vp_updL _ _ _ _ = _; rw [pk_uLs, c6]; rfl, c7, c8⟩
    · rw [up_ne e]
      exact ⟨c5, by show vp_updL _ _ _ _ = _; rw [pk_uLn e, c6], c7, c8⟩
  · show vp_updL _ _ _ _ = _
    exact pk_uLn (by omega)
  · by_cases e : p = j
    · subst e; rw [up_eq]; exact h.P.2.1 p hp
    · rw [up_ne e]; exact h.P.2.1 p hp
  · obtain ⟨q1, q2, q3, q4⟩ := h.1.1.up hn
    have hp0 := pdK_sm (f := kpe K) (j := j) (x := peGoo (kpe K j) ((kpe K j).2.2.2.2.2.1 + (nI x0).toInt64)) (Or.inr rfl) (K.1 13)
    exact ⟨q1, q2, Nat.le_trans hp0 q3, fun q hq => Nat.le_trans (Nat.add_le_add_left hp0 _) (q4 q hq)⟩
  · show 0 ≤ (va_up (kpe K) j (peGoo (kpe K j) ((kpe K j).2.2.2.2.2.1 + (nI x0).toInt64)) p).2.2.2.2.2.1.toInt
    by_cases e : p = j
    · subst e
      rw [up_eq]
      show 0 ≤ ((kpe K p).2.2.2.2.2.1 + (nI x0).toInt64).toInt
      omega
    · rw [up_ne e]; exact h.1.2.1 p hp
  · have := sumG_up (f := kpe K) (j := j) (x := peGoo (kpe K j) ((kpe K j).2.2.2.2.2.1 + (nI x0).toInt64)) (K.1 13) hj'
    show sumG (va_up (kpe K) j (peGoo (kpe K j) ((kpe K j).2.2.2.2.2.1 + (nI x0).toInt64))) (K.1 13) ≤ _
    have e : (peGoo (kpe K j) ((kpe K j).2.2.2.2.2.1 + (nI x0).toInt64)).2.2.2.2.2.1.toInt = (kpe K j).2.2.2.2.2.1.toInt + x0 := hsum
    rw [e] at this
    omega
end TIE5
