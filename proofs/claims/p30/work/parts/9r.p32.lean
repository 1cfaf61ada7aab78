/-! the tie with what marriages and laws keep; every call -/
section TIE32
variable {n : Nat} {K K1 K2 A : zK} {S S1 T : zS}
def inv2 (K : zK) : Prop := iMS K ∧ iL3 K
def tie2 (n : Nat) (K : zK) (S : zS) : Prop := tie n K S ∧ inv2 K
/-- what the two speak of is the same -/
def same2 (K K1 : zK) : Prop := K1.1 25 = K.1 25 ∧ K1.1 2 = K.1 2 ∧ kma K1 = kma K ∧ (∀ q, q < K.1 13 → (kpe K1 q).1 = (kpe K q).1) ∧ ∀ l, l ≤ 6 → kch K1 (lch l 3) = kch K (lch l 3)
theorem same2.rf : same2 K K := ⟨rfl, rfl, rfl, fun _ _ => rfl, fun _ _ => rfl⟩
theorem inv_same (h : tie2 n K S) (hs : same2 K K1) : inv2 K1 := by
  obtain ⟨ht, hM, hL⟩ := h
  obtain ⟨a1, a2, a3, a4, a5⟩ := hs
  refine ⟨iMS_k hM a1 (fun m hm => ?_), fun l hl => ?_⟩
  · obtain ⟨c1, c2, -⟩ := ht.ik.2.2.1.1 m hm
    rw [a3]
    exact ⟨⟨a4 _ c1, a4 _ c2⟩, rfl, rfl, id⟩
  · rw [a2] at hl
    have hb2 := ht.bd.2.1
    rw [a5 l (by omega)]
    exact hL l hl
theorem lc2 {x : Nat} {cds : List Nat} {e : Prop} (h : tie2 n K S) (hl : lcal tie n K x cds K1 S1 e) (hk : x = 0 → inv2 K1) : lcal tie2 n K x cds K1 S1 e := by
  refine ⟨fun hx => ?_, fun j c hj hx => ?_⟩
  · obtain ⟨a, b, c, d⟩ := hl.1 hx
    exact ⟨a, b, ⟨c, hk hx⟩, d⟩
  · obtain ⟨a, b⟩ := hl.2 j c hj hx
    exact ⟨a, b, h.2⟩
theorem pe1_up {f : Nat → zPe} {p : Nat} {x : zPe} (hx : x.1 = (f p).1) (q : Nat) : (va_up f p x q).1 = (f q).1 := by
  by_cases e : q = p
  · subst e; rw [up_eq]; exact hx
  · rw [up_ne e]
theorem pe1_go {f : Nat → zPe} {p : Nat} {v : Int64} (q : Nat) : (va_up f p (peGoo (f p) v) q).1 = (f q).1 := pe1_up (f := f) (p := p) (x := peGoo (f p) v) rfl q
theorem s2_spe {p : Nat} {x : zPe} (hx : x.1 = (kpe K p).1) : same2 K (spe K p x) := ⟨rfl, rfl, rfl, fun q _ => pe1_up hx q, fun _ _ => rfl⟩
theorem s2_trans (h1 : same2 K K1) (h13 : K1.1 13 = K.1 13) (h2 : same2 K1 K2) : same2 K K2 := by
  obtain ⟨a1, a2, a3, a4, a5⟩ := h1
  obtain ⟨b1, b2, b3, b4, b5⟩ := h2
  exact ⟨b1.trans a1, b2.trans a2, b3.trans a3, fun q hq => (b4 q (by omega)).trans (a4 q hq), fun l hl => (b5 l hl).trans (a5 l hl)⟩
theorem s2_pay (K : zK) (a b : Nat) (v : Int64) : same2 K (payK K a b v) ∧ (payK K a b v).1 = K.1 := by
  refine ⟨⟨rfl, rfl, rfl, fun q _ => ?_, fun _ _ => rfl⟩, rfl⟩
  show (va_up (va_up (kpe K) a _) b (peGoo (kpe K b) _) q).1 = _
  by_cases e : q = b
  · subst e; rw [up_eq]; rfl
  · rw [up_ne e]
    exact pe1_go q
theorem s2_su {s : Nat} {x : zSu} : same2 K (ssu K s x) := ⟨rfl, rfl, rfl, fun _ _ => rfl, fun _ _ => rfl⟩
theorem s2_back (K : zK) (s : Nat) : same2 K (bckK K s) := by
  unfold bckK
  split
  · exact s2_trans (s2_pay K _ _ _).1 rfl s2_su
  · exact s2_su
theorem s2_judge (K : zK) (s : Int32) : same2 K (k_judge K s) := by
  unfold k_judge
  split <;> exact s2_su
theorem s2_appeal (K : zK) (s : Int32) : same2 K (k_appeal K s) := by
  unfold k_appeal
  split
  · exact s2_trans (K1 := apK K s.toNatClampNeg (wonK K s.toNatClampNeg 0)) s2_su rfl (s2_back _ _)
  · split
    · exact s2_trans (K1 := apK K s.toNatClampNeg (wonK K s.toNatClampNeg 0)) s2_su rfl s2_su
    · exact s2_su
theorem s2_exec (K : zK) (s : Nat) : same2 K (k_execute K s) := by
  unfold k_execute
  exact s2_trans (s2_pay K _ _ _).1 rfl s2_su
theorem s2_rec (K : zK) (c : Int32) (on : Bool) : same2 K (k_recognise K c on) := ⟨rfl, rfl, rfl, fun _ _ => rfl, fun l _ => up_ne (by unfold lch rch; omega)⟩
theorem psKj (K : zK) {j : Nat} (hj : j ≠ 1) : ∀ d, (psK K d).1 j = K.1 j
  | 0 => rfl
  | d + 1 => by
    rw [psK, dyK, tfdK1]
    exact (up_ne hj).trans (psKj K hj d)
theorem s2_pass (K : zK) (d : Nat) : same2 K (psK K d) := by
  obtain ⟨a1, a2, a3, a4⟩ := psK_fr K d
  exact ⟨psKj K (by decide) d, psKj K (by decide) d, congrArg Prod.fst a2, fun q _ => (a3 q).1, fun l hl => a4 _ (by unfold lch; omega)⟩
theorem iv_rule (h : tie2 n K S) (m r : Int32) (hx : x_rule K m r = 0) : inv2 (k_rule K m r) := by
  refine inv_same h ⟨rfl, rfl, rfl, fun _ _ => rfl, fun l _ => ?_⟩
  unfold x_rule at hx
  by_cases e1 : (wthn m 0 3 && wthn r 0 3) = false
  · rw [if_pos e1] at hx; cases hx
  have e1 := bF e1
  rw [Bool.and_eq_true] at e1
  obtain ⟨d, d1, d2, rfl⟩ := rng_N (a := 0) (b := 3) (by decide) (by decide) e1.1
  show va_up (kch K) (nI d).toNatClampNeg _ (lch l 3) = _
  rw [nI_clamp (by omega)]
  exact up_ne (by unfold lch; omega)
theorem tell_v {c : zCh} {td x : Int32} {P : Int32 → Prop} (hx : P x) (h : ∀ i, i ≤ c.2.1 → P (c.2.2.2 i)) : ∀ i, i ≤ (tellS c td x).2.1 → P ((tellS c td x).2.2.2 i) := by
  unfold tellS
  split
  · intro i hi
    show P (upd c.2.2.2 c.2.1 x i)
    by_cases e : i = c.2.1
    · rw [e, pk_us]; exact hx
    · rw [pk_un e]; exact h i hi
  · split
    · intro i hi
      show P (upd c.2.2.2 (c.2.1 + 1) x i)
      by_cases e : i = c.2.1 + 1
      · rw [e, pk_us]; exact hx
      · rw [pk_un e]; exact h i (by have hi : i ≤ c.2.1 + 1 := hi; omega)
    · intro i hi
      show P (upd (ext (c.2.1 + 1) c.2.2.2) (c.2.1 + 1) x i)
      have hi : i ≤ c.2.1 + 1 := hi
      by_cases e : i = c.2.1 + 1
      · rw [e, pk_us]; exact hx
      · rw [pk_un e, show ext (c.2.1 + 1) c.2.2.2 i = c.2.2.2 i from if_pos (by omega)]
        exact h i (by omega)
theorem iv_decree (h : tie2 n K S) (c w x : Int32) (hx : x_decree K c w x = 0) : inv2 (k_decree K c w x) := by
  obtain ⟨ht, hM, hL⟩ := h
  unfold x_decree at hx
  by_cases e1 : okK K c = false
  · rw [if_pos e1] at hx; cases hx
  rw [if_neg e1] at hx
  by_cases e2 : (wthn w 0 6 && wthn x (zLL w.toNatClampNeg) (zLH w.toNatClampNeg)) = false
  · rw [if_pos e2] at hx; cases hx
  have e2 := bF e2
  rw [Bool.and_eq_true] at e2
  obtain ⟨e2, e3⟩ := e2
  obtain ⟨d, d1, d2, rfl⟩ := rng_N (a := 0) (b := 6) (by decide) (by decide) e2
  rw [nI_clamp (by omega)] at e3
  refine ⟨iMS_k hM rfl (fun m hm => ⟨⟨rfl, rfl⟩, rfl, rfl, id⟩), fun l hl => ?_⟩
  have hl : l ≤ K.1 2 := hl
  show ∀ i, i ≤ (va_up (kch K) (lch (lixN c) (nI d).toNatClampNeg) (tellS (kch K (lch (lixN c) (nI d).toNatClampNeg)) (nI (K.1 1)) x) (lch l 3)).2.1 → ∃ j, j ≤ 100 ∧ (va_up (kch K) (lch (lixN c) (nI d).toNatClampNeg) (tellS (kch K (lch (lixN c) (nI d).toNatClampNeg)) (nI (K.1 1)) x) (lch l 3)).2.2.2 i = nI j
  rw [nI_clamp (by omega)]
  by_cases e : lch l 3 = lch (lixN c) d
  · have hd : d = 3 := by unfold lch at e; omega
    subst hd
    rw [← e, up_eq]
    obtain ⟨v, v1, v2, v3⟩ := rng_N (x := x) (a := 0) (b := 100) (by decide) (by decide) e3
    exact tell_v (P := fun y => ∃ j, j ≤ 100 ∧ y = nI j) ⟨v, v2, v3⟩ (hL l hl)
  · rw [up_ne e]
    exact hL l hl
theorem iv_com (h : tie2 n K S) : inv2 (newC K (nI (K.1 1))) := by
  obtain ⟨ht, hM, hL⟩ := h
  refine ⟨iMS_k hM rfl (fun m hm => ⟨⟨rfl, rfl⟩, rfl, rfl, id⟩), fun l hl => ?_⟩
  have hl : l ≤ K.1 2 + 1 := hl
  show ∀ i, i ≤ (comF (kch K) (K.1 2) (nI (K.1 1)) (lch l 3)).2.1 → ∃ j, j ≤ 100 ∧ (comF (kch K) (K.1 2) (nI (K.1 1)) (lch l 3)).2.2.2 i = nI j
  unfold comF
  by_cases e : l = K.1 2 + 1
  · rw [if_pos (by unfold lch; omega), if_neg (by unfold lch; omega)]
    intro i hi
    have hi : i ≤ 0 := hi
    obtain rfl : i = 0 := by omega
    refine ⟨25, by decide, ?_⟩
    show upd (fun _ => 0) 0 (zLF (lch l 3 - (12 + 8 * K.1 2))) 0 = nI 25
    rw [pk_us, show lch l 3 - (12 + 8 * K.1 2) = 3 by unfold lch; omega]
    rfl
  · rw [if_neg (by unfold lch; omega)]
    exact hL l (by omega)
theorem iv_person (h : tie2 n K S) (man : Bool) (mo fa f : Int32) : inv2 (k_person K man mo fa f) := by
  refine inv_same h ⟨rfl, rfl, rfl, fun q hq => ?_, fun l hl => ?_⟩
  · show (va_up (kpe K) (K.1 13) _ q).1 = _
    rw [up_ne (by omega)]
  · show va_up (kch K) (100 + K.1 13) _ (lch l 3) = _
    exact up_ne (by unfold lch; omega)
theorem hml_0 {p : Nat} : ∀ k, hmlL K p k = 0 → ∀ m, m < k → lasK K m p = false
  | 0, _, m, hm => absurd hm (Nat.not_lt_zero _)
  | k + 1, h, m, hm => by
    unfold hmlL at h
    by_cases e : m = k
    · subst e
      cases hl : lasK K m p with
      | false => rfl
      | true => rw [hl, if_pos rfl] at h; omega
    · exact hml_0 k (by omega) m (by omega)
theorem iv_marry (h : tie2 n K S) (a w d : Int32) (hx : x_marry K a w d = 0) : inv2 (k_marry K a w d) := by
  obtain ⟨ht, hM, hL⟩ := h
  refine ⟨?_, hL⟩
  have hb6 := ht.bd.2.2.2.2.2.1
  unfold x_marry at hx
  by_cases e1 : (zix a (K.1 13) && zix w (K.1 13)) = false
  · rw [if_pos e1] at hx; cases hx
  rw [if_neg e1] at hx
  by_cases e2 : (((kpe K a.toNatClampNeg).1 && !(kpe K w.toNatClampNeg).1) && wthn d 0 1000000) = false
  · rw [if_pos e2] at hx; cases hx
  rw [if_neg e2] at hx
  by_cases e3 : ((groK K a.toNatClampNeg (nI (K.1 1)) && groK K w.toNatClampNeg (nI (K.1 1))) && (mayK K a.toNatClampNeg w.toNatClampNeg (lixN (crtK K 0 a.toNatClampNeg w.toNatClampNeg (nI (K.1 1)))) && decide (K.1 25 < 30))) = false
  · rw [if_pos e3] at hx; cases hx
  have e2 := bF e2
  have e3 := bF e3
  unfold mayK at e3
  simp only [Bool.and_eq_true, Bool.not_eq_true', decide_eq_true_eq] at e2 e3
  obtain ⟨⟨s1, s2⟩, s3⟩ := e2
  obtain ⟨-, ⟨s4, -⟩, -⟩ := e3
  unfold k_marry
  generalize a.toNatClampNeg = i at *
  generalize w.toNatClampNeg = j at *
  have h0 : hml K j = 0 := by
    have : hml K j ≤ K.1 25 := hml_b K j _
    exact (nI_eq (a := hml K j) (b := 0) (by omega) (by decide)).mp s4
  have hno := hml_0 (K.1 25) h0
  have hne : ∀ m, m < K.1 25 → (kma K m).2.2.2.1 = 0 → (kma K m).2.1 ≠ j := by
    intro m hm hs e
    have := hno m hm
    unfold lasK at this
    rw [decide_eq_true hs, decide_eq_true e, Bool.or_true] at this
    cases this
  obtain ⟨g1, g2⟩ := hM
  have hnew : ∀ q, kma (newM K (marX K i j d)) q = if q = K.1 25 then marX K i j d else kma K q := fun q => rfl
  have hp : ∀ q, kpe (newM K (marX K i j d)) q = kpe K q := fun q => rfl
  refine ⟨fun m hm => ?_, fun m m' hm hm' t1 t2 e => ?_⟩
  · have hm : m < K.1 25 + 1 := hm
    rw [hp, hp, hnew]
    by_cases e : m = K.1 25
    · rw [if_pos e]; exact ⟨s1, s2⟩
    · rw [if_neg e]; exact g1 m (by omega)
  · have hm : m < K.1 25 + 1 := hm
    have hm' : m' < K.1 25 + 1 := hm'
    rw [hnew] at t1 t2 e
    rw [hnew] at e
    by_cases c : m = K.1 25
    · by_cases c' : m' = K.1 25
      · omega
      · rw [if_neg c'] at t2 e
        rw [if_pos c] at e
        exact absurd e.symm (hne m' (by omega) t2)
    · by_cases c' : m' = K.1 25
      · rw [if_neg c] at t1 e
        rw [if_pos c'] at e
        exact absurd e (hne m (by omega) t1)
      · rw [if_neg c] at t1 e
        rw [if_neg c'] at t2 e
        exact g2 m m' (by omega) (by omega) t1 t2 e
/-- flags and statuses of marriages change -/
theorem iv_ma (h : tie2 n K S) (h25 : K1.1 25 = K.1 25) (h2 : K1.1 2 = K.1 2) (hc : kch K1 = kch K) (hp : ∀ q, (kpe K1 q).1 = (kpe K q).1) (hm : ∀ q, (kma K1 q).1 = (kma K q).1 ∧ (kma K1 q).2.1 = (kma K q).2.1 ∧ ((kma K1 q).2.2.2.1 = 0 → (kma K q).2.2.2.1 = 0)) : inv2 K1 := by
  obtain ⟨ht, hM, hL⟩ := h
  refine ⟨iMS_k hM h25 (fun m _ => ⟨⟨hp _, hp _⟩, hm m⟩), ?_⟩
  unfold iL3
  rw [h2, hc]
  exact hL
theorem ma_up {f : Nat → zMa} {m : Nat} {x : zMa} (h : x.1 = (f m).1 ∧ x.2.1 = (f m).2.1 ∧ (x.2.2.2.1 = 0 → (f m).2.2.2.1 = 0)) (q : Nat) : (va_up f m x q).1 = (f q).1 ∧ (va_up f m x q).2.1 = (f q).2.1 ∧ ((va_up f m x q).2.2.2.1 = 0 → (f q).2.2.2.1 = 0) := by
  by_cases e : q = m
  · subst e; rw [up_eq]; exact h
  · rw [up_ne e]; exact ⟨rfl, rfl, id⟩
theorem iv_divorce (h : tie2 n K S) (m : Int32) (b : Bool) : inv2 (k_divorce K m b) := by
  have hd : ∀ q, (kma (dv1 K m.toNatClampNeg b) q).1 = (kma K q).1 ∧ (kma (dv1 K m.toNatClampNeg b) q).2.1 = (kma K q).2.1 ∧ ((kma (dv1 K m.toNatClampNeg b) q).2.2.2.1 = 0 → (kma K q).2.2.2.1 = 0) := by
    intro q
    unfold dv1
    split
    · exact ma_up (f := kma K) (m := m.toNatClampNeg) (x := maHe (kma K m.toNatClampNeg) true) ⟨rfl, rfl, id⟩ q
    · exact ma_up (f := kma K) (m := m.toNatClampNeg) (x := maSh (kma K m.toNatClampNeg) true) ⟨rfl, rfl, id⟩ q
  have hd1 : (dv1 K m.toNatClampNeg b).1 = K.1 := by unfold dv1; split <;> rfl
  have hd3 : kch (dv1 K m.toNatClampNeg b) = kch K := by unfold dv1; split <;> rfl
  have hd4 : kpe (dv1 K m.toNatClampNeg b) = kpe K := by unfold dv1; split <;> rfl
  unfold k_divorce
  generalize dv1 K m.toNatClampNeg b = D at *
  generalize m.toNatClampNeg = i at *
  split
  · refine iv_ma h (by show D.1 25 = _; rw [hd1]) (by show D.1 2 = _; rw [hd1]) (by show kch D = _; exact hd3) (fun q => ?_) (fun q => ?_)
    · obtain ⟨⟨-, -, -, p4, -⟩, -⟩ := s2_pay (sma D i (maSt (kma D i) 1)) (kma (sma D i (maSt (kma D i) 1)) i).1 (kma (sma D i (maSt (kma D i) 1)) i).2.1 (paidI (kpe (sma D i (maSt (kma D i) 1)) (kma (sma D i (maSt (kma D i) 1)) i).1).2.2.2.2.2.1 (kma (sma D i (maSt (kma D i) 1)) i).2.2.2.2.1).toInt64
      show (va_up (va_up (kpe D) _ _) _ (peGoo (kpe D _) _) q).1 = _
      rw [← hd4]
      by_cases e : q = (kma (sma D i (maSt (kma D i) 1)) i).2.1
      · subst e; rw [up_eq]; rfl
      · rw [up_ne e]
        exact pe1_go q
    · have e1 : kma (dowK (sma D i (maSt (kma D i) 1)) i) q = va_up (va_up (kma D) i (maSt (kma D i) 1)) i (maOw (va_up (kma D) i (maSt (kma D i) 1) i) 0) q := rfl
      rw [e1, up_eq, up2]
      obtain ⟨x1, x2, x3⟩ := ma_up (f := kma D) (m := i) (x := maOw (maSt (kma D i) 1) 0) ⟨rfl, rfl, fun hh => absurd hh (show ¬ (1 : Int32) = 0 by decide)⟩ q
      obtain ⟨y1, y2, y3⟩ := hd q
      exact ⟨x1.trans y1, x2.trans y2, fun hh => y3 (x3 hh)⟩
  · exact iv_ma h (by rw [hd1]) (by rw [hd1]) hd3 (fun q => by rw [hd4]) hd
theorem iv_dies (h : tie2 n K S) (p : Int32) (hx : x_dies K p = 0) : inv2 (k_dies K p.toNatClampNeg) := by
  have hb5 := h.1.bd.2.2.2.2.1
  unfold x_dies at hx
  by_cases e1 : zix p (K.1 13) = false
  · rw [if_pos e1] at hx; cases hx
  obtain ⟨j, hj, rfl⟩ := zix_of (bF e1) (by omega)
  rw [nI_clamp (by omega)]
  exact ⟨iMS_dies h.1 h.2.1 hj, iL3_dies h.1 h.2.2 hj⟩
end TIE32
