/-! person -/
section TIE11
variable {n : Nat} {K K1 : zK} {S S1 : zS}
theorem omo_oc {c : Int32} {m : Nat} (hm : m ≤ 40) (h : (decide (c = -1) || zix c m) = true) : ocode (omo c) = c ∧ ∀ q, omo c = some q → q < m := by
  rw [Bool.or_eq_true, decide_eq_true_eq] at h
  unfold omo
  rcases h with rfl | h
  · exact ⟨rfl, fun q hq => by cases hq⟩
  · obtain ⟨j, hj, rfl⟩ := zix_of h (by omega)
    rw [if_neg (nI_m1 (by omega)), nI_clamp (by omega)]
    exact ⟨rfl, fun q hq => by cases hq; exact hj⟩
theorem t_newv (h : tie n K S) {p : Nat} (hp : p < K.1 13) : ∃ v f0, v < K.1 2 ∧ newK K p = nI v ∧ (kch K (rch v)).2.2.1 0 = nI f0 ∧ f0 ≤ K.1 1 := by
  obtain ⟨-, -, h3, -⟩ := h.C.2.2.2 p hp
  obtain ⟨e, v, f0, a1, a2, a3, a4, a5, a6, a7⟩ := h3 _ (Nat.le_refl _)
  exact ⟨v, f0, a4, a3, a6, by omega⟩
theorem t_man (h : tie n K S) {p : Nat} (hp : p < K.1 13) : decide (S.2.2.1 14 p = 0) = !(kpe K p).1 := by
  rw [(h.P.1 p hp).1]
  cases (kpe K p).1 <;> rfl
theorem t_brn (h : tie n K S) {mo fa its : Int32} (hmo : (decide (mo = -1) || zix mo (K.1 13)) = true) (hfa : (decide (fa = -1) || zix fa (K.1 13)) = true) (hok : okK K its = true) (hx : (decide (mo = -1 ∧ fa = -1) == decide (its ≠ -1)) = true) : ∃ v f0, v < K.1 2 ∧ brnK K (omo mo) (omo fa) its = nI v ∧ bornF S mo fa its = nI v ∧ (kch K (rch v)).2.2.1 0 = nI f0 ∧ f0 ≤ K.1 1 := by
  have hb5 := h.bd.2.2.2.2.1
  have hb2 := h.bd.2.1
  unfold bornF
  rw [Bool.or_eq_true, decide_eq_true_eq] at hmo hfa
  rcases hfa with rfl | hfa
  · rcases hmo with rfl | hmo
    · rw [if_pos ⟨rfl, rfl⟩]
      obtain ⟨l, l1, rfl, -⟩ := okK_of hok hb2
      have hl : ¬ l = 0 := by
        rintro rfl
        exact absurd hx (by decide)
      obtain ⟨f0, t, q1, q2, q3, -⟩ := h.C.2.2.1 (l - 1) (by omega)
      refine ⟨l - 1, f0, by omega, ?_, ?_, q3, by omega⟩
      · show lcode l = _
        unfold lcode; rw [if_neg hl]
      · unfold lcode; rw [if_neg hl]
    · obtain ⟨j, hj, rfl⟩ := zix_of hmo (by omega)
      obtain ⟨v, f0, v1, v2, v3, v4⟩ := t_newv h hj
      rw [if_neg (fun hh => nI_m1 (by omega) hh.1), if_pos rfl, nI_clamp (by omega), ← t_new h hj]
      refine ⟨v, f0, v1, ?_, v2, v3, v4⟩
      show (match omo (-1) with | some q => newK K q | none => match omo (nI j) with | some q => newK K q | none => its) = _
      rw [show omo (-1) = none from rfl, show omo (nI j) = some j by unfold omo; rw [if_neg (nI_m1 (by omega)), nI_clamp (by omega)]]
      exact v2
  · obtain ⟨j, hj, rfl⟩ := zix_of hfa (by omega)
    obtain ⟨v, f0, v1, v2, v3, v4⟩ := t_newv h hj
    rw [if_neg (fun hh => nI_m1 (by omega) hh.2), if_neg (nI_m1 (by omega)), nI_clamp (by omega), ← t_new h hj]
    refine ⟨v, f0, v1, ?_, v2, v3, v4⟩
    unfold brnK
    rw [show omo (nI j) = some j by unfold omo; rw [if_neg (nI_m1 (by omega)), nI_clamp (by omega)]]
    exact v2
theorem pdK_s (f : Nat → zPe) (k : Nat) : pdK f (k + 1) = pdK f k + (if (f k).2.2.2.2.2.2.2.1 = -1 then 0 else 1) := rfl
theorem sumG_s (f : Nat → zPe) (k : Nat) : sumG f (k + 1) = sumG f k + (f k).2.2.2.2.2.1.toInt := rfl
theorem capF_s (f : Nat → zCh) (k : Nat) : capF f (k + 1) = capF f k + (f (100 + k)).1 := rfl
theorem p_person (h : tie n K S) (hn : n < 512) (man : Bool) (mo fa its : Int32) : lcal tie n K (x_person K mo fa its) [1, 2, 3] (k_person K man mo fa its) (o_person S (b2i man) mo fa its).1 (nI (K.1 13) = (o_person S (b2i man) mo fa its).2) := by
  unfold x_person o_person
  rw [okc_K h]
  have h13 := h.N.2.2.2.2.1
  have hb1 := h.bd.1
  have hb2 := h.bd.2.1
  have hb5 := h.bd.2.2.2.2.1
  have hN1 := h.N.1
  rw [h13]
  by_cases e1 : ((decide (mo = -1) || zix mo (S.1 13)) && ((decide (fa = -1) || zix fa (S.1 13)) && okK K its)) = false
  · rw [if_pos e1, if_pos e1]
    exact lcal_thr h hn (okcd_3 (by decide)) 0 1 rfl
  rw [if_neg e1, if_neg e1]
  have e1 := bF e1
  simp only [Bool.and_eq_true] at e1
  obtain ⟨z1, z2, z3⟩ := e1
  rw [← h13] at z1 z2
  have m1 : (decide (mo = -1) || decide (S.2.2.1 14 mo.toNatClampNeg = 0)) = (decide (mo = -1) || !(kpe K mo.toNatClampNeg).1) := by
    by_cases e : mo = -1
    · simp [e]
    · have z := z1
      rw [decide_eq_false e, Bool.false_or] at z
      obtain ⟨j, hj, rfl⟩ := zix_of z (by omega)
      rw [nI_clamp (by omega), t_man h hj]
  have m2 : (decide (fa = -1) || decide (S.2.2.1 14 fa.toNatClampNeg ≠ 0)) = (decide (fa = -1) || (kpe K fa.toNatClampNeg).1) := by
    by_cases e : fa = -1
    · simp [e]
    · have z := z2
      rw [decide_eq_false e, Bool.false_or] at z
      obtain ⟨j, hj, rfl⟩ := zix_of z (by omega)
      rw [nI_clamp (by omega)]
      congr 1
      have := t_man h hj
      rw [decide_not, this, Bool.not_not]
  rw [m1, m2]
  by_cases e2 : ((decide (mo = -1) || !(kpe K mo.toNatClampNeg).1) && ((decide (fa = -1) || (kpe K fa.toNatClampNeg).1) && (decide (mo = -1 ∧ fa = -1) == decide (its ≠ -1)))) = false
  · rw [if_pos e2, if_pos e2]
    exact lcal_thr h hn (okcd_3 (by decide)) 1 2 rfl
  rw [if_neg e2, if_neg e2]
  by_cases e3 : S.1 13 = 40
  · rw [if_pos (decide_eq_false (by omega)), if_pos e3]
    exact lcal_thr h hn (okcd_3 (by decide)) 2 3 rfl
  rw [if_neg (by simp; omega), if_neg e3]
  have e2 := bF e2
  simp only [Bool.and_eq_true] at e2
  obtain ⟨v, f0, v1, v2, v3, v4, v5⟩ := t_brn h z1 z2 z3 e2.2.2
  obtain ⟨om1, om2⟩ := omo_oc hb5 z1
  obtain ⟨of1, of2⟩ := omo_oc hb5 z2
  have h20 : S.2.2.1 20 (S.1 13) = 0 := (h.P.2.2 (S.1 13) (by omega) (by omega)).2.2
  have h18 : S.2.2.1 18 (S.1 13) = 0 := (h.P.2.2 (S.1 13) (by omega) (by omega)).1
  have h19 : S.2.2.2 19 (S.1 13) = 0 := (h.P.2.2 (S.1 13) (by omega) (by omega)).2.1
  unfold k_person
  rw [v2]
  generalize hx : ((man, omo mo, omo fa, nI (K.1 1), true, (0 : Int64), (-1 : Int32), (-1 : Int32), (0 : Int32)) : zPe) = x
  generalize hc : ((2, 0, upd (fun _ => 0) 0 (nI (K.1 1)), upd (fun _ => 0) 0 (nI v)) : zCh) = cc
  have hne : ∀ q, q < K.1 13 → va_up (kpe K) (K.1 13) x q = kpe K q := fun q hq => up_ne (by omega)
  have hce : ∀ i, ¬ i = 100 + K.1 13 → va_up (kch K) (100 + K.1 13) cc i = kch K i := fun i hi => up_ne hi
  have hcc : chW cc ∧ cc.2.1 = 0 ∧ cc.2.2.1 0 = nI (K.1 1) ∧ cc.2.2.2 0 = nI v ∧ cc.1 = 2 := by subst hc; exact ⟨⟨by show 0 + 1 ≤ 2; decide, Nat.le_refl 2, by show 2 ≤ 4096; decide⟩, rfl, rfl, rfl, rfl⟩
  have pd : pdK (va_up (kpe K) (K.1 13) x) (K.1 13 + 1) = pdK (kpe K) (K.1 13) := by
    rw [pdK_s, pdK_congr (f := va_up (kpe K) (K.1 13) x) (h := kpe K) (K.1 13) (fun q hq => by rw [hne q hq]), up_eq, if_pos (by rw [← hx])]
    rfl
  have sg : sumG (va_up (kpe K) (K.1 13) x) (K.1 13 + 1) = sumG (kpe K) (K.1 13) := by
    have key : ∀ r, r ≤ K.1 13 → sumG (va_up (kpe K) (K.1 13) x) r = sumG (kpe K) r := by
      intro r
      induction r with
      | zero => intro _; rfl
      | succ r ih => intro hr; rw [sumG_s, sumG_s, ih (by omega), hne r (by omega)]
    rw [sumG_s, key _ (Nat.le_refl _), up_eq, ← hx]
    show _ + (0 : Int64).toInt = _
    rw [Int64.toInt_zero]; omega
  obtain ⟨q1, q2, q3, q4⟩ := h.1.1.up hn
  obtain ⟨i1, ⟨i2, i2'⟩, ⟨i3, i4, i5⟩, i6, i7, i8⟩ := h.ik
  obtain ⟨b1, b2, b3, b4, b5, b6, b7⟩ := i1
  obtain ⟨a1, a2, a3, a4, a5, a6, a7, a8⟩ := h.N
  refine lcal_ok (okcd_3 (by decide)) rfl rfl ⟨⟨⟨q1, fun i => ?_, ?_, fun q hq => ?_⟩, fun q hq => ?_, ?_⟩, ⟨⟨⟨b1, b2, b3, b4, by show K.1 13 + 1 ≤ 40; omega, b6, b7⟩, ⟨fun i => ?_, fun p i hp hi => ?_⟩, ⟨fun m hm => ?_, fun s hs => ?_, fun p hp => ?_⟩, fun s i hs hi => ?_, i7, i8⟩, h.2.1.2⟩, ⟨a1, a2, a3, a4, by show K.1 13 + 1 = S.1 13 + 1; omega, a6, a7, a8⟩, ⟨fun p hp => ?_, fun p hp => ?_, fun p hp h40 => ?_⟩, h.M, ⟨h.Su.1, h.Su.2.1, h.Su.2.2.1, fun s hs => ?_⟩, ⟨fun l w hl hw => ?_, h.C.1.2⟩, fun m hm => ?_, fun c hc => ?_, fun p hp => ?_⟩ ?_
  · show (va_up (kch K) (100 + K.1 13) cc i).2.1 ≤ _
    by_cases e : i = 100 + K.1 13
    · subst e; rw [up_eq, hcc.2.1]; exact Nat.zero_le _
    · rw [hce i e]; exact q2 i
  · show pdK (va_up (kpe K) (K.1 13) x) (K.1 13 + 1) ≤ _
    rw [pd]; exact q3
  · have hq : q < K.1 13 + 1 := hq
    show (va_up (kch K) (100 + K.1 13) cc (100 + q)).2.1 + pdK (va_up (kpe K) (K.1 13) x) (K.1 13 + 1) ≤ _
    rw [pd]
    by_cases e : q = K.1 13
    · subst e; rw [up_eq, hcc.2.1]; omega
    · rw [hce _ (by omega)]; exact q4 q (by omega)
  · have hq : q < K.1 13 + 1 := hq
    show 0 ≤ (va_up (kpe K) (K.1 13) x q).2.2.2.2.2.1.toInt
    by_cases e : q = K.1 13
    · subst e; rw [up_eq, ← hx]; show 0 ≤ (0 : Int64).toInt; rw [Int64.toInt_zero]; exact Int.le_refl _
    · rw [hne q (by omega)]; exact h.1.2.1 q (by omega)
  · show sumG (va_up (kpe K) (K.1 13) x) (K.1 13 + 1) ≤ _
    rw [sg]; exact h.1.2.up.2
  · show chW (va_up (kch K) (100 + K.1 13) cc i)
    by_cases e : i = 100 + K.1 13
    · subst e; rw [up_eq]; exact hcc.1
    · rw [hce i e]; exact i2 i
  · have hp : p < K.1 13 + 1 := hp
    have hi : i ≤ (va_up (kch K) (100 + K.1 13) cc (100 + p)).2.1 := hi
    show ∃ c, c < K.1 2 ∧ (va_up (kch K) (100 + K.1 13) cc (100 + p)).2.2.2 i = nI c
    by_cases e : p = K.1 13
    · subst e
      rw [up_eq, hcc.2.1] at hi
      obtain rfl : i = 0 := by omega
      rw [up_eq]
      exact ⟨v, v1, hcc.2.2.2.1⟩
    · rw [hce _ (by omega)] at hi ⊢
      exact i2' p i (by omega) hi
  · obtain ⟨c1, c2, c3⟩ := i3 m hm
    exact ⟨Nat.lt_succ_of_lt c1, Nat.lt_succ_of_lt c2, c3⟩
  · obtain ⟨c1, c2, c3⟩ := i4 s hs
    exact ⟨Nat.lt_succ_of_lt c1, Nat.lt_succ_of_lt c2, c3⟩
  · have hp : p < K.1 13 + 1 := hp
    show (∀ q, (va_up (kpe K) (K.1 13) x p).2.1 = some q → q < p) ∧ ∀ q, (va_up (kpe K) (K.1 13) x p).2.2.1 = some q → q < p
    by_cases e : p = K.1 13
    · subst e
      rw [up_eq, ← hx]
      exact ⟨om2, of2⟩
    · rw [hne p (by omega)]; exact i5 p (by omega)
  · exact Nat.lt_succ_of_lt (i6 s i hs hi)
  · have hp : p < K.1 13 + 1 := hp
    show upd (S.2.2.1 14) (S.1 13) (b2i man) p = b2i (va_up (kpe K) (K.1 13) x p).1 ∧ upd (S.2.2.1 15) (S.1 13) mo p = ocode (va_up (kpe K) (K.1 13) x p).2.1 ∧ upd (S.2.2.1 16) (S.1 13) fa p = ocode (va_up (kpe K) (K.1 13) x p).2.2.1 ∧ upd (S.2.2.1 17) (S.1 13) (nI (S.1 1)) p = (va_up (kpe K) (K.1 13) x p).2.2.2.1 ∧ S.2.2.1 18 p = b2i (!(va_up (kpe K) (K.1 13) x p).2.2.2.2.1) ∧ S.2.2.2 19 p = (va_up (kpe K) (K.1 13) x p).2.2.2.2.2.1 ∧ upd (S.2.2.1 22) (S.1 13) (-1) p = (va_up (kpe K) (K.1 13) x p).2.2.2.2.2.2.1 ∧ upd (S.2.2.1 23) (S.1 13) (-1) p = (va_up (kpe K) (K.1 13) x p).2.2.2.2.2.2.2.1
    by_cases e : p = K.1 13
    · subst e
      rw [up_eq, h13, pk_us, pk_us, pk_us, pk_us, pk_us, pk_us, h18, h19, ← hx]
      exact ⟨rfl, om1.symm, of1.symm, by rw [hN1], rfl, rfl, rfl, rfl⟩
    · rw [hne p (by omega), pk_un (by omega), pk_un (by omega), pk_un (by omega), pk_un (by omega), pk_un (by omega), pk_un (by omega)]
      exact h.P.1 p (by omega)
  · have hp : p < K.1 13 + 1 := hp
    show ∃ b, b ≤ K.1 1 ∧ (va_up (kpe K) (K.1 13) x p).2.2.2.1 = nI b ∧ (((va_up (kpe K) (K.1 13) x p).2.2.2.2.2.2.1 = -1 ∧ (va_up (kpe K) (K.1 13) x p).2.2.2.2.2.2.2.1 = -1) ∨ ((va_up (kpe K) (K.1 13) x p).2.2.2.2.1 = true ∧ b + 5000 ≤ K.1 1 ∧ ∃ c e, c < K.1 2 ∧ (va_up (kpe K) (K.1 13) x p).2.2.2.2.2.2.1 = nI c ∧ K.1 1 < e ∧ e ≤ K.1 1 + 30 ∧ (va_up (kpe K) (K.1 13) x p).2.2.2.2.2.2.2.1 = nI e))
    by_cases e : p = K.1 13
    · subst e
      rw [up_eq, ← hx]
      exact ⟨K.1 1, Nat.le_refl _, rfl, Or.inl ⟨rfl, rfl⟩⟩
    · rw [hne p (by omega)]; exact h.P.2.1 p (by omega)
  · have hp : K.1 13 + 1 ≤ p := hp
    obtain ⟨c1, c2, c3⟩ := h.P.2.2 p (by omega) h40
    exact ⟨c1, c2, by show upd (S.2.2.1 20) (S.1 13) _ p = 0; rw [pk_un (by omega)]; exact c3⟩
  · obtain ⟨c1, c2, c3⟩ := h.Su.2.2.2 s hs
    exact ⟨c1, c2, fun p hp => ⟨(c3 p hp).1, fun hh => (c3 p hp).2.1 (by have : K.1 13 + 1 ≤ p := hh; omega), (c3 p hp).2.2⟩⟩
  · have hl : l ≤ K.1 2 := hl
    show (∀ d, d ≤ 30000 → chV (va_up (kch K) (100 + K.1 13) cc (lch l w)) (nI d) = _) ∧ (va_up (kch K) (100 + K.1 13) cc (lch l w)).2.2.1 0 = _ ∧ ∃ t, t ≤ K.1 1 ∧ (va_up (kch K) (100 + K.1 13) cc (lch l w)).2.2.1 (va_up (kch K) (100 + K.1 13) cc (lch l w)).2.1 = _
    rw [hce _ (by unfold lch; omega)]
    exact h.C.1.1 l w hl hw
  · show (∀ d, d ≤ 30000 → chV (va_up (kch K) (100 + K.1 13) cc m) (nI d) = _) ∧ (va_up (kch K) (100 + K.1 13) cc m).2.2.1 0 = _ ∧ (∃ t, t ≤ K.1 1 ∧ (va_up (kch K) (100 + K.1 13) cc m).2.2.1 (va_up (kch K) (100 + K.1 13) cc m).2.1 = _) ∧ ∀ i, i ≤ (va_up (kch K) (100 + K.1 13) cc m).2.1 → ∃ j, j < 4 ∧ (va_up (kch K) (100 + K.1 13) cc m).2.2.2 i = _
    rw [hce _ (by omega)]
    exact h.C.2.1 m hm
  · have hc : c < K.1 2 := hc
    show ∃ f0 t, f0 ≤ t ∧ t ≤ K.1 1 ∧ (va_up (kch K) (100 + K.1 13) cc (rch c)).2.2.1 0 = _ ∧ (va_up (kch K) (100 + K.1 13) cc (rch c)).2.2.1 (va_up (kch K) (100 + K.1 13) cc (rch c)).2.1 = _ ∧ ∀ d, f0 ≤ d → d ≤ 30000 → chV (va_up (kch K) (100 + K.1 13) cc (rch c)) (nI d) = _
    rw [hce _ (by unfold rch; omega)]
    exact h.C.2.2.1 c hc
  · have hp : p < K.1 13 + 1 := hp
    have hrch : ∀ u, u < K.1 2 → va_up (kch K) (100 + K.1 13) cc (rch u) = kch K (rch u) := fun u hu => hce _ (by unfold rch; omega)
    show upd (S.2.2.1 20) (S.1 13) (S.2.2.1 20 (S.1 13) + 1) p = nI ((va_up (kch K) (100 + K.1 13) cc (100 + p)).2.1 + 1) ∧ (va_up (kch K) (100 + K.1 13) cc (100 + p)).2.2.1 0 = (va_up (kpe K) (K.1 13) x p).2.2.2.1 ∧ (∀ i, i ≤ (va_up (kch K) (100 + K.1 13) cc (100 + p)).2.1 → ∃ e v f0, (va_up (kch K) (100 + K.1 13) cc (100 + p)).2.2.1 i = nI e ∧ e ≤ K.1 1 ∧ (va_up (kch K) (100 + K.1 13) cc (100 + p)).2.2.2 i = nI v ∧ v < K.1 2 ∧ upd (S.2.2.1 21) (1024 * S.1 13 + (S.2.2.1 20 (S.1 13)).toNatClampNeg) (8 * nI (S.1 1) + bornF S mo fa its) (1024 * p + i) = nI (8 * e + v) ∧ (va_up (kch K) (100 + K.1 13) cc (rch v)).2.2.1 0 = nI f0 ∧ f0 ≤ e) ∧ ∀ i, i < (va_up (kch K) (100 + K.1 13) cc (100 + p)).2.1 → (va_up (kch K) (100 + K.1 13) cc (100 + p)).2.2.1 i < (va_up (kch K) (100 + K.1 13) cc (100 + p)).2.2.1 (i + 1)
    by_cases e : p = K.1 13
    · subst e
      rw [up_eq, up_eq, hcc.2.1, hcc.2.2.1, h13, pk_us, h20, ← hx]
      refine ⟨rfl, rfl, fun i hi => ?_, fun i hi => absurd hi (Nat.not_lt_zero _)⟩
      obtain rfl : i = 0 := by omega
      refine ⟨K.1 1, v, f0, hcc.2.2.1, Nat.le_refl _, hcc.2.2.2.1, v1, ?_, by rw [← h13, hrch v v1]; exact v4, v5⟩
      rw [show (0 : Int32).toNatClampNeg = 0 from rfl, pk_us, v3, ← hN1, show (8 : Int32) = nI 8 from rfl, pk_mul, nI_add]
    · rw [hne p (by omega), hce _ (by omega), pk_un (by omega)]
      obtain ⟨w1, w2, w3, w4⟩ := h.C.2.2.2 p (by omega)
      refine ⟨w1, w2, fun i hi => ?_, w4⟩
      obtain ⟨e', u, g0, d1, d2, d3, d4, d5, d6, d7⟩ := w3 i hi
      have hc0 : chW (kch K (100 + p)) := i2 _
      refine ⟨e', u, g0, d1, d2, d3, d4, ?_, by rw [hrch u d4]; exact d6, d7⟩
      rw [h20, show (0 : Int32).toNatClampNeg = 0 from rfl, pk_un ?_, d5]
      have := q2 (100 + p)
      omega
  · show cF K ≤ capF (va_up (kch K) (100 + K.1 13) cc) (K.1 13 + 1)
    rw [capF_s]
    have : capF (va_up (kch K) (100 + K.1 13) cc) (K.1 13) = cF K := by
      have key : ∀ r, r ≤ K.1 13 → capF (va_up (kch K) (100 + K.1 13) cc) r = capF (kch K) r := by
        intro r
        induction r with
        | zero => intro _; rfl
        | succ r ih => intro hr; rw [capF_s, capF_s, ih (by omega), hce _ (by omega)]
      exact key _ (Nat.le_refl _)
    omega
end TIE11
