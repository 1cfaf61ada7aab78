/-! deaths: goods are kept, the dead have none -/
section INV3
variable {n : Nat} {B : Int} {K K1 : zK} {S : zS}
theorem dow_eq (A : zK) (m : Nat) (v : Int32) : dowK (sma A m (maSt (kma A m) v)) m = sma (payK A (kma A m).1 (kma A m).2.1 (paidI (kpe A (kma A m).1).2.2.2.2.2.1 (kma A m).2.2.2.2.1).toInt64) m (maOw (maSt (kma A m) v) 0) := by
  have hkE : kma (sma A m (maSt (kma A m) v)) m = maSt (kma A m) v := up_eq
  unfold dowK
  rw [hkE]
  show (A.1, A.2.1, A.2.2.1, _, va_up (va_up (kma A) m (maSt (kma A m) v)) m (maOw (maSt (kma A m) v) 0), A.2.2.2.2.2) = _
  rw [up2]
  rfl
theorem en_sum (h : tie n K S) {d : Nat} (hd : d < K.1 13) (hM : iMS K) : ∀ m, m ≤ K.1 25 → sumG (kpe (enK K d m).1) (K.1 13) = sumG (kpe K) (K.1 13)
  | 0, _ => rfl
  | m + 1, hm => by
    have ih := en_sum h hd hM m (by omega)
    have tA := (en_tie h hd hM m (by omega)).1
    have fr := (enK_fr d h.ik.2.2.1.1 m (by omega)).1
    have e1 : (enK K d m).1.1 = K.1 := fr.1
    rw [enK]
    generalize enK K d m = E at *
    obtain ⟨A, l⟩ := E
    dsimp only at *
    have hmA : m < A.1 25 := by rw [e1]; exact hm
    by_cases c : lasK A m d = true
    · rw [if_pos c]
      by_cases c2 : (kma A m).1 = d
      · rw [if_pos c2]
        show sumG (kpe (dowK (sma A m (maSt (kma A m) 2)) m)) (K.1 13) = _
        rw [dow_eq]
        obtain ⟨c1, c3, c4⟩ := tA.ik.2.2.1.1 m hmA
        obtain ⟨x0, x1, x2⟩ := tA.M.2.1 m hmA
        have hv := paid_of (gdB_t tA) (a := (kma A m).1) (o := (kma A m).2.2.2.2.1) c1 x2 x1
        have := pay_sum (gdB_t tA) c1 c3 c4 hv.1 hv.2
        rw [e1] at this
        exact this.trans ih
      · rw [if_neg c2]; exact ih
    · rw [if_neg c]; exact ih
/-- the dead but this one are left alone -/
theorem en_dead {d : Nat} (hma : iMa K) (hDd : ∀ m, m < K.1 25 → (kma K m).2.2.2.1 = 0 → (kma K m).1 = d → (kpe K (kma K m).2.1).2.2.2.2.1 = true) {p : Nat} (hpd : p ≠ d) (hp : (kpe K p).2.2.2.2.1 = false) : ∀ m, m ≤ K.1 25 → kpe (enK K d m).1 p = kpe K p
  | 0, _ => rfl
  | m + 1, hm => by
    have ih := en_dead hma hDd hpd hp m (by omega)
    have fr := (enK_fr d hma m (by omega)).1
    have hst := en_st K d m m
    have hpar := fr.2.2.2.2.1 m
    rw [enK]
    generalize enK K d m = E at *
    obtain ⟨A, l⟩ := E
    dsimp only at *
    by_cases c : lasK A m d = true
    · rw [if_pos c]
      by_cases c2 : (kma A m).1 = d
      · rw [if_pos c2]
        show kpe (dowK (sma A m (maSt (kma A m) 2)) m) p = _
        rw [dow_eq]
        show kpe (payK A _ _ _) p = _
        have hlw := hDd m hm (hst (las_cs c).1) (hpar.1.symm.trans c2)
        rw [pay_ot A _ _ _ (by rw [c2]; exact hpd) (fun e => by rw [e, hpar.2.1, hlw] at hp; cases hp)]
        exact ih
      · rw [if_neg c2]; exact ih
    · rw [if_neg c]; exact ih
/-- none of its marriages lasts -/
theorem en_done (hma : iMa K) (d : Nat) : ∀ m, m ≤ K.1 25 → ∀ q, q < m → (kma (enK K d m).1 q).2.2.2.1 = 0 → ¬ ((kma K q).1 = d ∨ (kma K q).2.1 = d)
  | 0, _, q, hq, _ => absurd hq (Nat.not_lt_zero _)
  | m + 1, hm, q, hq, hs => by
    have ih := en_done hma d m (by omega)
    have fr := (enK_fr d hma m (by omega)).1
    have hpar := fr.2.2.2.2.1 m
    rw [enK] at hs
    generalize enK K d m = E at *
    obtain ⟨A, l⟩ := E
    dsimp only at *
    have hx : ¬ (2 : Int32) = 0 := by decide
    by_cases c : lasK A m d = true
    · rw [if_pos c] at hs
      have hs2 : q ≠ m ∧ (kma A q).2.2.2.1 = 0 := by
        by_cases c2 : (kma A m).1 = d
        · rw [if_pos c2] at hs
          have hs : (kma (dowK (sma A m (maSt (kma A m) 2)) m) q).2.2.2.1 = 0 := hs
          rw [dow_eq] at hs
          have hs : (va_up (kma A) m (maOw (maSt (kma A m) 2) 0) q).2.2.2.1 = 0 := hs
          by_cases e : q = m
          · subst e; rw [up_eq] at hs; exact absurd hs hx
          · rw [up_ne e] at hs; exact ⟨e, hs⟩
        · rw [if_neg c2] at hs
          have hs : (va_up (kma A) m (maOw (maSt (kma A m) 2) 0) q).2.2.2.1 = 0 := hs
          by_cases e : q = m
          · subst e; rw [up_eq] at hs; exact absurd hs hx
          · rw [up_ne e] at hs; exact ⟨e, hs⟩
      exact ih q (by omega) hs2.2
    · rw [if_neg c] at hs
      by_cases e : q = m
      · subst e
        intro hh
        apply c
        unfold lasK
        rw [hpar.1, hpar.2.1, decide_eq_true hs, Bool.true_and, Bool.or_eq_true, decide_eq_true_eq, decide_eq_true_eq]
        exact hh
      · exact ih q (by omega) hs
theorem en_mt (h : iMt K) (d : Nat) : ∀ m q, q < K.1 25 → ((kma (enK K d m).1 q).2.2.2.1 = 0 ∨ (kma (enK K d m).1 q).2.2.2.1 = 1 ∨ (kma (enK K d m).1 q).2.2.2.1 = 2) ∧ (¬ (kma (enK K d m).1 q).2.2.2.1 = 0 → (kma (enK K d m).1 q).2.2.2.2.1 = 0)
  | 0, q, hq => h q hq
  | m + 1, q, hq => by
    have ih := en_mt h d m q hq
    rw [enK]
    generalize enK K d m = E at *
    obtain ⟨A, l⟩ := E
    dsimp only at *
    have key : (fun y : zMa => (y.2.2.2.1 = 0 ∨ y.2.2.2.1 = 1 ∨ y.2.2.2.1 = 2) ∧ (¬ y.2.2.2.1 = 0 → y.2.2.2.2.1 = 0)) (va_up (kma A) m (maOw (maSt (kma A m) 2) 0) q) := by
      by_cases e : q = m
      · subst e; rw [up_eq]; exact ⟨Or.inr (Or.inr rfl), fun _ => rfl⟩
      · rw [up_ne e]; exact ih
    by_cases c : lasK A m d = true
    · rw [if_pos c]
      by_cases c2 : (kma A m).1 = d
      · rw [if_pos c2]
        show (fun y : zMa => (y.2.2.2.1 = 0 ∨ y.2.2.2.1 = 1 ∨ y.2.2.2.1 = 2) ∧ (¬ y.2.2.2.1 = 0 → y.2.2.2.2.1 = 0)) (kma (dowK (sma A m (maSt (kma A m) 2)) m) q)
        rw [dow_eq]
        exact key
      · rw [if_neg c2]; exact key
    · rw [if_neg c]; exact ih
/-- shares leave those alone who are none of the list -/
theorem dv_not {A : zK} {q : zTl} {gds : Int64} {b : Bool} {np : Nat} {P : Nat → Bool} (h : lsP q.1 q.2.2.2 np P) {p : Nat} (hp : p < np) (hP : P p = false) : kpe (dvK A q gds b) p = kpe A p := by
  by_cases e : q.1 = 0
  · unfold dvK; rw [if_pos e]
  · rw [dv_pt h (by omega) hp, hP, if_neg (by decide)]
/-- shares give what they were given -/
theorem dv_sum (h : tie n K S) {q : zTl} {gds : Int64} (b : Bool) {P : Nat → Bool} (hls : lsP q.1 q.2.2.2 (K.1 13) P) (h0 : 0 < q.1) (hg0 : 0 ≤ gds.toInt) (hgs : sumG (kpe K) (K.1 13) + gds.toInt ≤ 1000000 * n) : sumG (kpe (dvK K q gds b)) (K.1 13) = sumG (kpe K) (K.1 13) + gds.toInt ∧ ∃ S1, tie n (dvK K q gds b) S1 := by
  have h1 := tie_47 h (fun k => b2i (P k))
  have hls1 : lsP q.1 q.2.2.2 (K.1 13) (fun k => decide ((zsA S 47 (fun k => b2i (P k))).2.2.1 47 k ≠ 0)) := ls_cg hls (fun k hk => by
    show P k = decide ((zsA S 47 (fun k => b2i (P k))).2.2.1 47 k ≠ 0)
    rw [zsA_s, b2i_ne])
  obtain ⟨a1, a2⟩ := tie_give h1 b hls1 h0 hg0 hgs
  exact ⟨a2, _, a1⟩
theorem j_dies (h : iJ B K) (hB : B ≤ 600000000) (ht : tie n K S) (hM : iMS K) (hL : iL3 K) {j : Nat} (hj : j < K.1 13) : iJ B (k_dies K j) ∧ 0 ≤ (a_dies K j).toInt := by
  obtain ⟨⟨g11, g12⟩, g2, g3, g4, g5⟩ := h
  have hb1 := ht.bd.1
  have hb2 := ht.bd.2.1
  have hb5 := ht.bd.2.2.2.2.1
  have h13 := ht.N.2.2.2.2.1
  have h25 := ht.N.2.2.2.2.2.1
  have hN1 := ht.N.1
  have hn := ht.1.1.1
  have hma := ht.ik.2.2.1.1
  have hc : dieC S j = crtK K 2 j j (nI (K.1 1)) := (t_now ht (m := 2) (by decide) hj hj).symm
  obtain ⟨l, l1, l2⟩ := t_cl ht (m := 2) hj hj
  have hdl : diL K j = l := by unfold diL; rw [l2, lixN_l (by omega)]
  obtain ⟨x, x1, x2⟩ := iL3_of hL l1 (nI (K.1 1))
  have t0 := di_tie ht hj
  obtain ⟨t2, ls2⟩ := en_tie t0 (d := j) hj (iMS_di hM) (K.1 25) (Nat.le_refl _)
  have t2 : tie n (diB K j) (dieL (dieS0 S j) j (K.1 25)) := t2
  have ls2 : lsP (diS K j).1 (diS K j).2 (K.1 13) (widB (di0 K j) j (K.1 25)) := ls2
  have fr : mfr (di0 K j) (diB K j) := (enK_fr j t0.ik.2.2.1.1 (K.1 25) (Nat.le_refl _)).1
  have f1 : (diB K j).1 = K.1 := fr.1
  have f2 : (diB K j).2.1 = K.2.1 := fr.2.1
  have f3 : kch (diB K j) = kch K := fr.2.2.1
  have f6 : (diB K j).2.2.2.2.2 = K.2.2.2.2.2 := fr.2.2.2.2.2
  -- who is told of in the lists
  have hb := (rfl : decide (lawK K (diL K j) 5 (nI (K.1 1)) = 1) = decide (lawK K (diL K j) 5 (nI (K.1 1)) = 1))
  have ls0 := diQ_ls ls2 hb
  have ls1 := diQ_ls (chS_ls (diB K j) j (K.1 13)) hb
  have hdl0 : ∀ p, (kpe (di0 K j) p).2.2.2.2.1 = if p = j then false else (kpe K p).2.2.2.2.1 := fun p => by
    show (va_up (kpe K) j (peTurn (peDie (kpe K j)) (-1) (-1)) p).2.2.2.2.1 = _
    by_cases e : p = j
    · subst e; rw [up_eq, if_pos rfl]; rfl
    · rw [up_ne e, if_neg e]
  have hdlB : ∀ p, (kpe (diB K j) p).2.2.2.2.1 = if p = j then false else (kpe K p).2.2.2.2.1 := fun p => (fr.2.2.2.1 p).2.2.2.2.1.trans (hdl0 p)
  have hP0 : ∀ p, p < K.1 13 → (p = j ∨ (kpe K p).2.2.2.2.1 = false) → (widB (di0 K j) j (K.1 25) p && !(decide (lawK K (diL K j) 5 (nI (K.1 1)) = 1) && !decide (newK K p = newK K j))) = false := fun p hp hd => by
    cases hw : widB (di0 K j) j (K.1 25) p with
    | false => rfl
    | true =>
      obtain ⟨i, i1, i2, i3⟩ := (widB_t _).mp hw
      obtain ⟨s1, s2⟩ := las_cs i2
      have s1 : (kma K i).2.2.2.1 = 0 := s1
      have s2 : (kma K i).1 = j ∨ (kma K i).2.1 = j := s2
      have i3 : (if (kma K i).1 = j then (kma K i).2.1 else (kma K i).1) = p := i3
      obtain ⟨c1, c2, c3⟩ := hma i i1
      obtain ⟨d1, d2⟩ := g2.2 i i1 s1
      exfalso
      by_cases c : (kma K i).1 = j
      · rw [if_pos c] at i3
        rcases hd with e | e
        · exact c3 (c.trans (e.symm.trans i3.symm))
        · rw [← i3, d2] at e; cases e
      · rw [if_neg c] at i3
        rcases hd with e | e
        · exact c (i3.trans e)
        · rw [← i3, d1] at e; cases e
  have hP1 : ∀ p, p < K.1 13 → (p = j ∨ (kpe K p).2.2.2.2.1 = false) → (chlK (diB K j) p j && !(decide (lawK K (diL K j) 5 (nI (K.1 1)) = 1) && !decide (newK K p = newK K j))) = false := fun p hp hd => by
    have : chlK (diB K j) p j = false := by
      unfold chlK
      rw [hdlB p]
      rcases hd with e | e
      · rw [if_pos e]; rfl
      · rw [e]; split <;> rfl
    rw [this]
    rfl
  -- goods of the dead
  have hlive0 : ∀ m, m < (di0 K j).1 25 → (kma (di0 K j) m).2.2.2.1 = 0 → (kma (di0 K j) m).1 = j → (kpe (di0 K j) (kma (di0 K j) m).2.1).2.2.2.2.1 = true := fun m hm hs hh => by
    have hm : m < K.1 25 := hm
    have hs : (kma K m).2.2.2.1 = 0 := hs
    have hh : (kma K m).1 = j := hh
    obtain ⟨c1, c2, c3⟩ := hma m hm
    have := (g2.2 m hm hs).2
    show (kpe (di0 K j) (kma K m).2.1).2.2.2.2.1 = true
    rw [hdl0, if_neg (fun e => c3 (hh.trans e.symm))]
    exact this
  have hB1 : ∀ p, p ≠ j → (kpe K p).2.2.2.2.1 = false → kpe (diB K j) p = kpe K p := fun p hp hl => by
    have e0 : kpe (di0 K j) p = kpe K p := up_ne hp
    exact (en_dead (d := j) t0.ik.2.2.1.1 hlive0 hp (by rw [e0]; exact hl) (K.1 25) (Nat.le_refl _)).trans e0
  -- sums
  have hsB : sumG (kpe (diB K j)) (K.1 13) = sumG (kpe K) (K.1 13) := by
    have e1 := en_sum t0 (d := j) hj (iMS_di hM) (K.1 25) (Nat.le_refl _)
    have e1 : sumG (kpe (diB K j)) (K.1 13) = sumG (kpe (di0 K j)) (K.1 13) := e1
    rw [e1]
    refine sumG_cg _ (fun p hp => ?_)
    show (va_up (kpe K) j (peTurn (peDie (kpe K j)) (-1) (-1)) p).2.2.2.2.2.1 = _
    by_cases e : p = j
    · subst e; rw [up_eq]; rfl
    · rw [up_ne e]
  have hjB : j < (diB K j).1 13 := by rw [f1]; exact hj
  obtain ⟨t3, s3⟩ := zero_tie t2 hjB
  have hlB : lawK (diB K j) l 3 (nI ((diB K j).1 1)) = nI x := by unfold lawK; rw [f3, f1]; exact x2
  have hPx : lvP (diB K j) j l = lvG (diB K j) j * (nI x).toInt64 / 100 := by unfold lvP; rw [hlB]
  have g0 : 0 ≤ (lvG (diB K j) j).toInt := t2.1.2.1 j hjB
  have gt : (lvG (diB K j) j).toInt ≤ sumG (kpe (diB K j)) ((diB K j).1 13) := sumG_one t2.1.2.1 hjB
  have gs := t2.1.2.2
  have s3 : sumG (kpe (lv1 (diB K j) j)) ((diB K j).1 13) + (lvG (diB K j) j).toInt = sumG (kpe (diB K j)) ((diB K j).1 13) := s3
  rw [f1] at s3 gt gs
  rw [hsB] at s3 gt gs
  obtain ⟨p0, p1⟩ := part_le (x := x) g0 (by omega) x1
  rw [← hPx] at p0 p1
  have e1 : (lv1 (diB K j) j).1 = K.1 := f1
  unfold k_dies a_dies
  rw [hdl]
  have km : ∀ q0 q1, kma (lvK (diB K j) j l q0 q1) = kma (diB K j) := fun q0 q1 => congrArg Prod.fst (lvK_fr (diB K j) j l q0 q1).2.2.1
  have kr : ∀ q0 q1, (lvK (diB K j) j l q0 q1).2.2.2.2.2 = K.2.2.2.2.2 := fun q0 q1 => (congrArg Prod.snd (lvK_fr (diB K j) j l q0 q1).2.2.1).trans f6
  have k1 : ∀ q0 q1, (lvK (diB K j) j l q0 q1).1 = K.1 := fun q0 q1 => (lvK_fr (diB K j) j l q0 q1).1.trans f1
  have kc : ∀ q0 q1, kch (lvK (diB K j) j l q0 q1) = kch K := fun q0 q1 => (lvK_fr (diB K j) j l q0 q1).2.1.trans f3
  have hv2 : ∀ q0, (lv2 (diB K j) j l q0).1 = K.1 ∧ (lv2 (diB K j) j l q0).2.1 = K.2.1 := fun q0 => ⟨(lv2_fr (diB K j) j l q0).1.trans f1, (lv2_fr (diB K j) j l q0).2.1.trans f2⟩
  generalize hq0 : diQ K j (diS K j) = q0 at *
  generalize hq1 : diQ K j (diC K j) = q1 at *
  have ls0 : lsP q0.1 q0.2.2.2 (K.1 13) (fun q => widB (di0 K j) j (K.1 25) q && !(decide (lawK K (diL K j) 5 (nI (K.1 1)) = 1) && !decide (newK K q = newK K j))) := ls0
  have ls1 : lsP q1.1 q1.2.2.2 (K.1 13) (fun q => chlK (diB K j) q j && !(decide (lawK K (diL K j) 5 (nI (K.1 1)) = 1) && !decide (newK K q = newK K j))) := by rw [← hq1]; exact ls1
  have hlv1 : ∀ p, kpe (lv1 (diB K j) j) p = if p = j then peGoo (kpe (diB K j) j) 0 else kpe (diB K j) p := fun p => rfl
  have hpg1 : ∀ p, ∃ g, kpe (lv1 (diB K j) j) p = peGoo (kpe (diB K j) p) g := fun p => by
    rw [hlv1]
    by_cases e : p = j
    · rw [if_pos e, e]; exact ⟨0, rfl⟩
    · rw [if_neg e]; exact ⟨(kpe (diB K j) p).2.2.2.2.2.1, rfl⟩
  have hpg2 : ∀ p, p < K.1 13 → ∃ g, kpe (lv2 (diB K j) j l q0) p = peGoo (kpe (diB K j) p) g := fun p hp => by
    obtain ⟨g, hg⟩ := dv_pg (A := lv1 (diB K j) j) (gds := lvP (diB K j) j l) (b := false) ls0 hp
    obtain ⟨g1, hg1⟩ := hpg1 p
    exact ⟨g, hg.trans (by rw [hg1]; rfl)⟩
  have hno2 : ∀ p, p < K.1 13 → (p = j ∨ (kpe K p).2.2.2.2.1 = false) → kpe (lv2 (diB K j) j l q0) p = kpe (lv1 (diB K j) j) p := fun p hp hd => dv_not (A := lv1 (diB K j) j) (gds := lvP (diB K j) j l) (b := false) ls0 hp (hP0 p hp hd)
  have s4 : sumG (kpe (lv2 (diB K j) j l q0)) (K.1 13) = sumG (kpe (lv1 (diB K j) j)) (K.1 13) + (if q0.1 = 0 then 0 else (lvP (diB K j) j l).toInt) ∧ ∃ S1, tie n (lv2 (diB K j) j l q0) S1 := by
    by_cases e : q0.1 = 0
    · have e2 : lv2 (diB K j) j l q0 = lv1 (diB K j) j := by unfold lv2 dvK; rw [if_pos e]
      rw [e2, if_pos e, Int.add_zero]
      exact ⟨rfl, _, t3⟩
    · rw [if_neg e]
      have := dv_sum t3 (q := q0) (gds := lvP (diB K j) j l) false (by rw [e1]; exact ls0) (by omega) p0 (by rw [e1]; omega)
      rw [e1] at this
      exact this
  obtain ⟨s4, S4, t4⟩ := s4
  have hRt : (lvR (diB K j) j l q0).toInt = (lvG (diB K j) j).toInt - (if q0.1 = 0 then 0 else (lvP (diB K j) j l).toInt) := by
    unfold lvR
    by_cases e : q0.1 = 0
    · rw [if_pos e, if_pos e, Int.sub_zero]
    · rw [if_neg e, if_neg e, Int64.toInt_sub]
      apply Int.bmod_eq_of_le <;> omega
  have hR0 : 0 ≤ (lvR (diB K j) j l q0).toInt := by rw [hRt]; split <;> omega
  obtain ⟨v1, v2⟩ := hv2 q0
  have gd4 := gdB_t t4
  have hs4p := sumG_0 (f := kpe (lv2 (diB K j) j l q0)) (K.1 13) (fun p hp => gd4.1 p (by rw [v1]; exact hp))
  -- what lies behind
  have fin : (((lvK (diB K j) j l q0 q1).2.1.toInt + sumG (kpe (lvK (diB K j) j l q0 q1)) (K.1 13) = B ∧ 0 ≤ (lvK (diB K j) j l q0 q1).2.1.toInt) ∧ (∀ p, p < K.1 13 → ∃ g, kpe (lvK (diB K j) j l q0 q1) p = peGoo (kpe (diB K j) p) g)) ∧ ∀ p, p < K.1 13 → (p = j ∨ (kpe K p).2.2.2.2.1 = false) → kpe (lvK (diB K j) j l q0 q1) p = kpe (lv1 (diB K j) j) p := by
    unfold lvK
    by_cases e : q1.1 = 0
    · rw [if_pos e]
      refine ⟨⟨?_, hpg2⟩, hno2⟩
      have hadd : ((lv2 (diB K j) j l q0).2.1 + lvR (diB K j) j l q0).toInt = K.2.1.toInt + (lvR (diB K j) j l q0).toInt := by
        rw [v2, Int64.toInt_add]
        apply Int.bmod_eq_of_le <;> omega
      show ((lv2 (diB K j) j l q0).2.1 + lvR (diB K j) j l q0).toInt + sumG (kpe (lv2 (diB K j) j l q0)) (K.1 13) = B ∧ 0 ≤ ((lv2 (diB K j) j l q0).2.1 + lvR (diB K j) j l q0).toInt
      rw [hadd]
      constructor <;> omega
    · rw [if_neg e]
      by_cases e2 : lvS (diB K j) l = 2
      · rw [if_pos e2]
        obtain ⟨⟨lw1, lw2⟩, -⟩ := low_ls ls1 (by omega)
        generalize lowT q1.2.2.2 (q1.1 - 1) = low at *
        have hg : ∀ p, kpe (gooA (lv2 (diB K j) j l q0) low (lvR (diB K j) j l q0)) p = if p = low then peGoo (kpe (lv2 (diB K j) j l q0) low) ((kpe (lv2 (diB K j) j l q0) low).2.2.2.2.2.1 + lvR (diB K j) j l q0) else kpe (lv2 (diB K j) j l q0) p := fun p => rfl
        have hgl := gd4.1 low (by rw [v1]; exact lw1)
        have hgs := sumG_one (K := lv2 (diB K j) j l q0) gd4.1 (j := low) (by rw [v1]; exact lw1)
        rw [v1] at hgs
        have hadd : ((kpe (lv2 (diB K j) j l q0) low).2.2.2.2.2.1 + lvR (diB K j) j l q0).toInt = (kpe (lv2 (diB K j) j l q0) low).2.2.2.2.2.1.toInt + (lvR (diB K j) j l q0).toInt := by
          rw [Int64.toInt_add]
          apply Int.bmod_eq_of_le <;> omega
        have hup := sumG_up (f := kpe (lv2 (diB K j) j l q0)) (j := low) (x := peGoo (kpe (lv2 (diB K j) j l q0) low) ((kpe (lv2 (diB K j) j l q0) low).2.2.2.2.2.1 + lvR (diB K j) j l q0)) (K.1 13) lw1
        have e5 : (peGoo (kpe (lv2 (diB K j) j l q0) low) ((kpe (lv2 (diB K j) j l q0) low).2.2.2.2.2.1 + lvR (diB K j) j l q0)).2.2.2.2.2.1.toInt = (kpe (lv2 (diB K j) j l q0) low).2.2.2.2.2.1.toInt + (lvR (diB K j) j l q0).toInt := hadd
        rw [e5] at hup
        refine ⟨⟨⟨?_, ?_⟩, fun p hp => ?_⟩, fun p hp hd => ?_⟩
        · show (lv2 (diB K j) j l q0).2.1.toInt + sumG (va_up (kpe (lv2 (diB K j) j l q0)) low _) (K.1 13) = B
          rw [v2]
          omega
        · show 0 ≤ (lv2 (diB K j) j l q0).2.1.toInt
          rw [v2]; exact g12
        · obtain ⟨g, hgg⟩ := hpg2 p hp
          rw [hg]
          by_cases c : p = low
          · rw [if_pos c, ← c, hgg]; exact ⟨_, rfl⟩
          · rw [if_neg c]; exact ⟨g, hgg⟩
        · rw [hg, if_neg (fun c => by
            have := hP1 p hp hd
            rw [c, lw2] at this; cases this)]
          exact hno2 p hp hd
      · rw [if_neg e2]
        obtain ⟨d1, -⟩ := dv_sum t4 (q := q1) (gds := lvR (diB K j) j l q0) (decide (lvS (diB K j) l = 1)) (by rw [v1]; exact ls1) (by omega) hR0 (by rw [v1, s4, hRt]; omega)
        rw [v1] at d1
        obtain ⟨b1, b2, -⟩ := dvK_fr (lv2 (diB K j) j l q0) q1 (lvR (diB K j) j l q0) (decide (lvS (diB K j) l = 1))
        refine ⟨⟨⟨?_, ?_⟩, fun p hp => ?_⟩, fun p hp hd => ?_⟩
        · rw [b2, v2, d1]; omega
        · rw [b2, v2]; exact g12
        · obtain ⟨g, hgg⟩ := dv_pg (A := lv2 (diB K j) j l q0) (gds := lvR (diB K j) j l q0) (b := decide (lvS (diB K j) l = 1)) ls1 hp
          obtain ⟨g1, hg1⟩ := hpg2 p hp
          exact ⟨g, hgg.trans (by rw [hg1]; rfl)⟩
        · exact (dv_not ls1 hp (hP1 p hp hd)).trans (hno2 p hp hd)
  obtain ⟨⟨hsum, hpgF⟩, hnoF⟩ := fin
  have hlF : ∀ p, p < K.1 13 → (kpe (lvK (diB K j) j l q0 q1) p).2.2.2.2.1 = if p = j then false else (kpe K p).2.2.2.2.1 := fun p hp => by
    obtain ⟨g, hg⟩ := hpgF p hp
    rw [hg]
    exact hdlB p
  refine ⟨⟨?_, ⟨fun p hp hl => ?_, fun m hm hs => ?_⟩, fun m hm => ?_, ?_, ?_⟩, ?_⟩
  · unfold iG
    rw [k1]
    exact hsum
  · rw [k1] at hp
    have hd : p = j ∨ (kpe K p).2.2.2.2.1 = false := by
      rw [hlF p hp] at hl
      by_cases c : p = j
      · exact Or.inl c
      · rw [if_neg c] at hl; exact Or.inr hl
    rw [hnoF p hp hd, hlv1]
    by_cases c : p = j
    · rw [if_pos c]; rfl
    · rw [if_neg c]
      have hl2 := hd.resolve_left c
      rw [hB1 p c hl2]
      exact g2.1 p hp hl2
  · rw [k1] at hm
    rw [km] at hs ⊢
    have hm0 : m < (di0 K j).1 25 := hm
    have hs0 : (kma K m).2.2.2.1 = 0 := en_st (di0 K j) j (K.1 25) m hs
    have hnp := en_done t0.ik.2.2.1.1 j (K.1 25) (Nat.le_refl _) m hm hs
    have hnp : ¬ ((kma K m).1 = j ∨ (kma K m).2.1 = j) := hnp
    obtain ⟨c1, c2, -⟩ := hma m hm
    obtain ⟨d1, d2⟩ := g2.2 m hm hs0
    obtain ⟨m1, m2, -⟩ := fr.2.2.2.2.1 m
    have m1 : (kma (diB K j) m).1 = (kma K m).1 := m1
    have m2 : (kma (diB K j) m).2.1 = (kma K m).2.1 := m2
    rw [m1, m2, hlF _ c1, hlF _ c2, if_neg (fun e => hnp (Or.inl e)), if_neg (fun e => hnp (Or.inr e))]
    exact ⟨d1, d2⟩
  · rw [k1] at hm
    rw [km]
    exact en_mt (K := di0 K j) g3 j (K.1 25) m hm
  · refine iSt_s g4 (congrFun (k1 q0 q1) 33) (fun s _ => ?_) (fun s _ => ?_)
    · have : ksu (lvK (diB K j) j l q0 q1) = ksu K := congrArg Prod.fst (kr q0 q1)
      rw [this]; exact ⟨rfl, rfl, fun h => ⟨h, rfl⟩⟩
    · have : kws (lvK (diB K j) j l q0 q1) = kws K := congrArg (fun x => x.2.1) (kr q0 q1)
      rw [this]
  · exact iL0_s g5 (congrFun (k1 q0 q1) 2) (fun l' w _ _ => by rw [kc])
  · unfold lvA
    split
    · exact hR0
    · exact Int.le_refl _
end INV3
