/-! divorces and suits -/
section INV2
variable {n : Nat} {B : Int} {K K1 : zK} {S : zS}
theorem pay_at (K : zK) (a b : Nat) (v : Int64) (p : Nat) : kpe (payK K a b v) p = if p = b then peGoo (kpe K b) ((kpe K b).2.2.2.2.2.1 + v) else if p = a then peGoo (kpe K a) ((kpe K a).2.2.2.2.2.1 - v) else kpe K p := rfl
theorem pay_lv (K : zK) (a b : Nat) (v : Int64) (p : Nat) : (kpe (payK K a b v) p).2.2.2.2.1 = (kpe K p).2.2.2.2.1 := by
  rw [pay_at]
  by_cases e1 : p = b
  · rw [if_pos e1, e1]; rfl
  · rw [if_neg e1]
    by_cases e2 : p = a
    · rw [if_pos e2, e2]; rfl
    · rw [if_neg e2]
theorem pay_ot (K : zK) (a b : Nat) (v : Int64) {p : Nat} (h1 : p ≠ a) (h2 : p ≠ b) : kpe (payK K a b v) p = kpe K p := by
  rw [pay_at, if_neg h2, if_neg h1]
/-- goods' bounds -/
def gdB (K : zK) : Prop := (∀ p, p < K.1 13 → 0 ≤ (kpe K p).2.2.2.2.2.1.toInt) ∧ sumG (kpe K) (K.1 13) ≤ 600000000 ∧ iMa K
theorem gdB_t (h : tie n K S) : gdB K := ⟨h.1.2.1, by have := h.1.2.2; have := h.1.1.1; omega, h.ik.2.2.1.1⟩
theorem pay_sum (h : gdB K) {a b : Nat} {v : Int64} (ha : a < K.1 13) (hb : b < K.1 13) (hab : a ≠ b) (hv0 : 0 ≤ v.toInt) (hv : v.toInt ≤ (kpe K a).2.2.2.2.2.1.toInt) : sumG (kpe (payK K a b v)) (K.1 13) = sumG (kpe K) (K.1 13) := by
  have ga := h.1 a ha
  have gb := h.1 b hb
  have gs := h.2.1
  have g2 := sumG_one (K := K) h.1 ha
  have h1b := sumG_one (K := K) h.1 hb
  have sub : ((kpe K a).2.2.2.2.2.1 - v).toInt = (kpe K a).2.2.2.2.2.1.toInt - v.toInt := by
    rw [Int64.toInt_sub]
    apply Int.bmod_eq_of_le <;> omega
  have add : ((kpe K b).2.2.2.2.2.1 + v).toInt = (kpe K b).2.2.2.2.2.1.toInt + v.toInt := by
    rw [Int64.toInt_add]
    apply Int.bmod_eq_of_le <;> omega
  have s1 := sumG_up (f := kpe K) (j := a) (x := peGoo (kpe K a) ((kpe K a).2.2.2.2.2.1 - v)) (K.1 13) ha
  have s2 := sumG_up (f := va_up (kpe K) a (peGoo (kpe K a) ((kpe K a).2.2.2.2.2.1 - v))) (j := b) (x := peGoo (kpe K b) ((kpe K b).2.2.2.2.2.1 + v)) (K.1 13) hb
  have e1 : (peGoo (kpe K a) ((kpe K a).2.2.2.2.2.1 - v)).2.2.2.2.2.1.toInt = (kpe K a).2.2.2.2.2.1.toInt - v.toInt := sub
  have e2 : (peGoo (kpe K b) ((kpe K b).2.2.2.2.2.1 + v)).2.2.2.2.2.1.toInt = (kpe K b).2.2.2.2.2.1.toInt + v.toInt := add
  rw [e1] at s1
  rw [e2, up_ne hab.symm] at s2
  show sumG (va_up (va_up (kpe K) a (peGoo (kpe K a) ((kpe K a).2.2.2.2.2.1 - v))) b (peGoo (kpe K b) ((kpe K b).2.2.2.2.2.1 + v))) (K.1 13) = _
  omega
/-- goods go over between two who live -/
theorem iJ_pay (h : iJ B K) (ht : gdB K) {a b : Nat} {v : Int64} (ha : a < K.1 13) (hb : b < K.1 13) (hab : a ≠ b) (hv0 : 0 ≤ v.toInt) (hv : v.toInt ≤ (kpe K a).2.2.2.2.2.1.toInt) (la : (kpe K a).2.2.2.2.1 = true) (lb : (kpe K b).2.2.2.2.1 = true) : iJ B (payK K a b v) := by
  obtain ⟨g1, g2, g3, g4, g5⟩ := h
  refine ⟨⟨?_, g1.2⟩, iDd_s g2 ht.2.2 rfl rfl (fun p hp => ⟨pay_lv K a b v p, fun hl => ?_⟩) (fun _ _ => ⟨rfl, rfl, id⟩), g3, g4, g5⟩
  · show K.2.1.toInt + sumG (kpe (payK K a b v)) (K.1 13) = B
    rw [pay_sum ht ha hb hab hv0 hv]
    exact g1.1
  · rw [pay_ot K a b v (fun e => by rw [e, la] at hl; cases hl) (fun e => by rw [e, lb] at hl; cases hl)]
theorem paid_of (ht : gdB K) {a x0 : Nat} {o : Int32} (ha : a < K.1 13) (ho : o = nI x0) (hx : x0 ≤ 1000000) : 0 ≤ (paidI (kpe K a).2.2.2.2.2.1 o).toInt64.toInt ∧ (paidI (kpe K a).2.2.2.2.2.1 o).toInt64.toInt ≤ (kpe K a).2.2.2.2.2.1.toInt := by
  subst ho
  obtain ⟨y, y1, y2, y3, -⟩ := paid_N (ht.1 a ha) hx
  rw [y2, nI64i (by omega)]
  exact ⟨Int.natCast_nonneg y, y3⟩
/-- a marriage is over, nothing is owed -/
theorem iJ_ma (h : iJ B K) (hma : iMa K) {m : Nat} {x : zMa} (h1 : x.1 = (kma K m).1) (h2 : x.2.1 = (kma K m).2.1) (h3 : x.2.2.2.1 = 1 ∨ x.2.2.2.1 = 2) (h4 : x.2.2.2.2.1 = 0) : iJ B (sma K m x) := by
  obtain ⟨g1, g2, g3, g4, g5⟩ := h
  have hx : ¬ x.2.2.2.1 = 0 := by rcases h3 with h | h <;> rw [h] <;> decide
  have e : ∀ q, kma (sma K m x) q = if q = m then x else kma K q := fun q => rfl
  refine ⟨g1, iDd_s g2 hma rfl rfl (fun _ _ => ⟨rfl, fun _ => rfl⟩) (fun q _ => ?_), fun q hq => ?_, g4, g5⟩
  · rw [e]
    by_cases c : q = m
    · rw [if_pos c, c]; exact ⟨h1, h2, fun hh => absurd hh hx⟩
    · rw [if_neg c]; exact ⟨rfl, rfl, id⟩
  · rw [e]
    by_cases c : q = m
    · rw [if_pos c]; exact ⟨Or.inr h3, fun _ => h4⟩
    · rw [if_neg c]; exact g3 q hq
theorem j_divorce (h : iJ B K) (ht : tie n K S) (m : Int32) (b : Bool) (hx : x_divorce K m = 0) : iJ B (k_divorce K m b) := by
  obtain ⟨g1, g2, g3, g4, g5⟩ := h
  have hb6 := ht.bd.2.2.2.2.2.1
  unfold x_divorce at hx
  by_cases e1 : zix m (K.1 25) = false
  · rw [if_pos e1] at hx; cases hx
  rw [if_neg e1] at hx
  obtain ⟨j, hj, rfl⟩ := zix_of (bF e1) (by omega)
  rw [nI_clamp (by omega)] at hx
  have hst : (kma K j).2.2.2.1 = 0 := by
    apply Classical.byContradiction
    intro hh
    rw [if_pos hh] at hx; cases hx
  unfold k_divorce
  rw [nI_clamp (by omega)]
  have hd1 : ∀ q, (kma (dv1 K j b) q).1 = (kma K q).1 ∧ (kma (dv1 K j b) q).2.1 = (kma K q).2.1 ∧ (kma (dv1 K j b) q).2.2.2.1 = (kma K q).2.2.2.1 ∧ (kma (dv1 K j b) q).2.2.2.2.1 = (kma K q).2.2.2.2.1 := by
    intro q
    have key : ∀ x : zMa, (x.1 = (kma K j).1 ∧ x.2.1 = (kma K j).2.1 ∧ x.2.2.2.1 = (kma K j).2.2.2.1 ∧ x.2.2.2.2.1 = (kma K j).2.2.2.2.1) → (va_up (kma K) j x q).1 = (kma K q).1 ∧ (va_up (kma K) j x q).2.1 = (kma K q).2.1 ∧ (va_up (kma K) j x q).2.2.2.1 = (kma K q).2.2.2.1 ∧ (va_up (kma K) j x q).2.2.2.2.1 = (kma K q).2.2.2.2.1 := fun x hx => by
      by_cases e : q = j
      · subst e; rw [up_eq]; exact hx
      · rw [up_ne e]; exact ⟨rfl, rfl, rfl, rfl⟩
    unfold dv1
    split
    · exact key _ ⟨rfl, rfl, rfl, rfl⟩
    · exact key _ ⟨rfl, rfl, rfl, rfl⟩
  have hf : (dv1 K j b).1 = K.1 ∧ (dv1 K j b).2.1 = K.2.1 ∧ kch (dv1 K j b) = kch K ∧ kpe (dv1 K j b) = kpe K ∧ (dv1 K j b).2.2.2.2.2 = K.2.2.2.2.2 := by unfold dv1; split <;> exact ⟨rfl, rfl, rfl, rfl, rfl⟩
  have t1 := tie_dv1 ht hj b
  generalize hD : dv1 K j b = D at *
  obtain ⟨f1, f2, f3, f4, f5⟩ := hf
  have g4D : iSt D := iSt_s g4 (congrFun f1 33) (fun s _ => by have : ksu D = ksu K := congrArg Prod.fst f5; rw [this]; exact ⟨rfl, rfl, fun h => ⟨h, rfl⟩⟩) (fun s _ => by have : kws D = kws K := congrArg (fun x => x.2.1) f5; rw [this])
  have g5D : iL0 D := iL0_s g5 (congrFun f1 2) (fun l w _ _ => by rw [f3])
  have jD : iJ B D := by
    refine ⟨iG_s g1 f2 (congrFun f1 13) (fun p _ => by rw [f4]), iDd_s g2 ht.ik.2.2.1.1 (congrFun f1 13) (congrFun f1 25) (fun p _ => by rw [f4]; exact ⟨rfl, fun _ => rfl⟩) (fun q _ => ⟨(hd1 q).1, (hd1 q).2.1, fun hh => by rw [← (hd1 q).2.2.1]; exact hh⟩), iMt_s g3 (congrFun f1 25) (fun q _ => ⟨(hd1 q).2.2.1, (hd1 q).2.2.2⟩), g4D, g5D⟩
  split
  · have hjD : j < D.1 25 := by rw [f1]; exact hj
    have hsD : (kma D j).2.2.2.1 = 0 := (hd1 j).2.2.1.trans hst
    obtain ⟨l1, l2⟩ := jD.2.1.2 j hjD hsD
    obtain ⟨c1, c2, c3⟩ := t1.ik.2.2.1.1 j hjD
    have t2 := tie_st t1 hjD 1
    have hkE : kma (sma D j (maSt (kma D j) 1)) j = maSt (kma D j) 1 := up_eq
    obtain ⟨x0, x1, x2⟩ := t1.M.2.1 j hjD
    have jE : iJ B (sma D j (maSt (kma D j) 1)) → True := fun _ => trivial
    have hv := paid_of (gdB_t t2) (a := (kma D j).1) (o := (kma D j).2.2.2.2.1) c1 x2 x1
    have hv : 0 ≤ (paidI (kpe D (kma D j).1).2.2.2.2.2.1 (kma D j).2.2.2.2.1).toInt64.toInt ∧ (paidI (kpe D (kma D j).1).2.2.2.2.2.1 (kma D j).2.2.2.2.1).toInt64.toInt ≤ (kpe D (kma D j).1).2.2.2.2.2.1.toInt := hv
    have hp := iJ_pay jD (gdB_t t1) (v := (paidI (kpe D (kma D j).1).2.2.2.2.2.1 (kma D j).2.2.2.2.1).toInt64) c1 c2 c3 hv.1 hv.2 l1 l2
    have hdow : dowK (sma D j (maSt (kma D j) 1)) j = sma (payK D (kma D j).1 (kma D j).2.1 (paidI (kpe D (kma D j).1).2.2.2.2.2.1 (kma D j).2.2.2.2.1).toInt64) j (maOw (maSt (kma D j) 1) 0) := by
      unfold dowK
      rw [hkE]
      show (D.1, D.2.1, D.2.2.1, _, va_up (va_up (kma D) j (maSt (kma D j) 1)) j (maOw (maSt (kma D j) 1) 0), D.2.2.2.2.2) = _
      rw [up2]
      rfl
    rw [hdow]
    exact iJ_ma hp t1.ik.2.2.1.1 (m := j) (x := maOw (maSt (kma D j) 1) 0) rfl rfl (Or.inl rfl) rfl
  · exact jD
theorem j_sue (h : iJ B K) (p q c x : Int32) : iJ B (k_sue K p q c x) := by
  obtain ⟨g1, g2, g3, g4, g5⟩ := h
  refine ⟨g1, g2, g3, fun s hs => ?_, g5⟩
  have hs : s < K.1 33 + 1 := hs
  unfold k_sue
  generalize p.toNatClampNeg = i
  generalize q.toNatClampNeg = j
  have e1 : ksu (newS K (suX K i j c x)) s = if s = K.1 33 then suX K i j c x else ksu K s := rfl
  have e2 : kws (newS K (suX K i j c x)) s = if s = K.1 33 then (0, fun _ => 0, fun _ => false) else kws K s := rfl
  rw [e1, e2]
  by_cases e : s = K.1 33
  · rw [if_pos e, if_pos e]; exact ⟨fun _ => rfl, rfl, rfl⟩
  · rw [if_neg e, if_neg e]; exact g4 s (by omega)
theorem j_appear (h : iJ B K) (hma : iMa K) (s : Int32) : iJ B (k_appear K s) := iJ_su h hma ⟨rfl, rfl⟩ (fun hh => ⟨hh, rfl⟩)
theorem j_testify (h : iJ B K) (s p : Int32) (b : Bool) (hx : x_testify K s p = 0) : iJ B (k_testify K s p b) := by
  obtain ⟨g1, g2, g3, g4, g5⟩ := h
  refine ⟨g1, g2, g3, fun q hq => ?_, g5⟩
  have hq : q < K.1 33 := hq
  unfold x_testify at hx
  by_cases e1 : (zix s (K.1 33) && zix p (K.1 13)) = false
  · rw [if_pos e1] at hx; cases hx
  rw [if_neg e1] at hx
  by_cases e2 : (decide ((ksu K s.toNatClampNeg).2.2.2.2.1 = 0) && (groK K p.toNatClampNeg (nI (K.1 1)) && (!btwK K s.toNatClampNeg p.toNatClampNeg && !hrd (kws K s.toNatClampNeg).2.1 p.toNatClampNeg (kws K s.toNatClampNeg).1))) = false
  · rw [if_pos e2] at hx; cases hx
  have e2 := bF e2
  unfold btwK at e2
  simp only [Bool.and_eq_true, Bool.not_eq_true', Bool.or_eq_false_iff, decide_eq_false_iff_not, decide_eq_true_eq] at e2
  obtain ⟨-, -, ⟨b1, b2⟩, -⟩ := e2
  unfold k_testify
  generalize s.toNatClampNeg = i at *
  generalize p.toNatClampNeg = j at *
  obtain ⟨c1, c2, c3⟩ := g4 q hq
  have e3 : kws (newW K i j b) q = if q = i then ((kws K i).1 + 1, va_up (kws K i).2.1 (kws K i).1 j, va_up (kws K i).2.2 (kws K i).1 b) else kws K q := rfl
  show _ ∧ hrd (kws (newW K i j b) q).2.1 (ksu K q).1 (kws (newW K i j b) q).1 = false ∧ hrd (kws (newW K i j b) q).2.1 (ksu K q).2.1 (kws (newW K i j b) q).1 = false
  refine ⟨c1, ?_⟩
  rw [e3]
  by_cases e : q = i
  · subst e
    rw [if_pos rfl]
    have key : ∀ r, ¬ r = j → hrd (kws K q).2.1 r (kws K q).1 = false → hrd (va_up (kws K q).2.1 (kws K q).1 j) r ((kws K q).1 + 1) = false := fun r hr h0 => by
      show (hrd (va_up (kws K q).2.1 (kws K q).1 j) r (kws K q).1 || decide (va_up (kws K q).2.1 (kws K q).1 j (kws K q).1 = r)) = false
      rw [hrd_cong _ (fun k hk => up_ne (by omega)), h0, up_eq, decide_eq_false (fun hh => hr hh.symm)]
      rfl
    exact ⟨key _ b1 c2, key _ b2 c3⟩
  · rw [if_neg e]; exact ⟨c2, c3⟩
theorem st23 (w : Bool) : ¬ ((if w = true then (2 : Int32) else 3) = 0 ∨ (if w = true then (2 : Int32) else 3) = 1) := by cases w <;> decide
theorem j_judge (h : iJ B K) (hma : iMa K) (s : Int32) : iJ B (k_judge K s) := by
  unfold k_judge
  split
  · exact iJ_su h hma ⟨rfl, rfl⟩ (fun hh => absurd hh (st23 true))
  · exact iJ_su h hma ⟨rfl, rfl⟩ (fun hh => absurd hh (st23 false))
theorem j_apK (h : iJ B K) (hma : iMa K) (s : Nat) (w : Bool) : iJ B (apK K s w) := iJ_su h hma ⟨rfl, rfl⟩ (fun hh => absurd hh (st23 w))
theorem j_execute (h : iJ B K) (ht : tie n K S) (s : Int32) (hx : x_execute K s = 0) : iJ B (k_execute K s.toNatClampNeg) := by
  have hb7 := ht.bd.2.2.2.2.2.2
  unfold x_execute at hx
  by_cases e1 : zix s (K.1 33) = false
  · rw [if_pos e1] at hx; cases hx
  rw [if_neg e1] at hx
  obtain ⟨j, hj, rfl⟩ := zix_of (bF e1) (by omega)
  rw [nI_clamp (by omega)] at hx ⊢
  by_cases e2 : (decide ((ksu K j).2.2.2.2.1 = 2) && (decide ((ksu K j).2.2.2.2.2.2.1 ≠ 0) && livK K j)) = false
  · rw [if_pos e2] at hx; cases hx
  have e2 := bF e2
  unfold livK at e2
  simp only [Bool.and_eq_true, decide_eq_true_eq] at e2
  obtain ⟨-, -, l1, l2⟩ := e2
  obtain ⟨c1, c2, c3⟩ := ht.ik.2.2.1.2.1 j hj
  obtain ⟨x, y, x1, x2, x3, x4, -⟩ := ht.Su.2.1 j hj
  have hv := paid_of (gdB_t ht) (a := (ksu K j).2.1) (o := (ksu K j).2.2.2.2.2.2.1) c2 x4 (by omega)
  exact iJ_su (iJ_pay h (gdB_t ht) c2 c1 c3.symm hv.1 hv.2 l2 l1) ht.ik.2.2.1.1 ⟨rfl, rfl⟩ (fun hh => ⟨hh, rfl⟩)
theorem j_back (h : iJ B K) (hg : gdB K) {s x y : Nat} (hsu : (ksu K s).1 < K.1 13 ∧ (ksu K s).2.1 < K.1 13 ∧ (ksu K s).1 ≠ (ksu K s).2.1) (hx : x ≤ 1000000) (hy : y ≤ x) (ex : (ksu K s).2.2.2.1 = nI x) (ey : (ksu K s).2.2.2.2.2.2.1 = nI y) : iJ B (bckK K s) := by
  unfold bckK
  obtain ⟨c1, c2, c3⟩ := hsu
  by_cases hl : livK K s = true
  · rw [if_pos hl]
    have hl2 := hl
    unfold livK at hl2
    rw [Bool.and_eq_true] at hl2
    have hd : (ksu K s).2.2.2.1 - (ksu K s).2.2.2.2.2.2.1 = nI (x - y) := by rw [ex, ey]; exact nI_subN hy (by omega)
    have hv := paid_of hg (a := (ksu K s).1) (o := (ksu K s).2.2.2.1 - (ksu K s).2.2.2.2.2.2.1) c1 hd (by omega)
    exact iJ_su (iJ_pay h hg c1 c2 c3 hv.1 hv.2 hl2.1 hl2.2) hg.2.2 ⟨rfl, rfl⟩ (fun hh => ⟨hh, rfl⟩)
  · rw [if_neg hl]
    exact iJ_su h hg.2.2 ⟨rfl, rfl⟩ (fun hh => ⟨hh, rfl⟩)
theorem j_appeal (h : iJ B K) (ht : tie n K S) (s : Int32) (hx : x_appeal K s = 0) : iJ B (k_appeal K s) := by
  have hb7 := ht.bd.2.2.2.2.2.2
  unfold x_appeal at hx
  by_cases e1 : zix s (K.1 33) = false
  · rw [if_pos e1] at hx; cases hx
  obtain ⟨j, hj, rfl⟩ := zix_of (bF e1) (by omega)
  have hma := ht.ik.2.2.1.1
  unfold k_appeal
  rw [nI_clamp (by omega)]
  obtain ⟨x, y, x1, x2, x3, x4, -⟩ := ht.Su.2.1 j hj
  have hA := j_apK h hma j (wonK K j 0)
  have eA : ksu (apK K j (wonK K j 0)) j = suJu (suSt (suAp (ksu K j) true) (if wonK K j 0 = true then 2 else 3)) (nI (K.1 1)) := up_eq
  split
  · have hgA : gdB (apK K j (wonK K j 0)) := gdB_t (K := K) ht
    refine j_back hA hgA (x := x) (y := y) ?_ x1 x2 ?_ ?_
    · rw [eA]; exact ht.ik.2.2.1.2.1 j hj
    · rw [eA]; exact x3
    · rw [eA]; exact x4
  · split
    · exact iJ_su hA hma ⟨rfl, rfl⟩ (fun hh => ⟨hh, rfl⟩)
    · exact hA
end INV2
