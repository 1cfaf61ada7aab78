/-! appeal -/
section TIE18
variable {n : Nat} {K K1 : zK} {S S1 : zS}
theorem tie_ap (h : tie n K S) (hn : n < 512) {j x y' : Nat} (hj : j < K.1 33) {W : Bool} (hx1 : x ≤ 1000000) (hx : (ksu K j).2.2.2.1 = nI x) (hy : y' ≤ x) (hyW : W = false → y' = 0)
    (h1 : ∀ i, ¬ i = 0 → S1.1 i = S.1 i) (h2 : S1.2.1 = S.2.1) (hA : ∀ i, ¬ i = 39 → ¬ i = 44 → ¬ i = 45 → S1.2.2.1 i = S.2.2.1 i) (hL : ∀ i, ¬ i = 42 → ¬ i = 43 → S1.2.2.2 i = S.2.2.2 i)
    (r39 : S1.2.2.1 39 = upd (S.2.2.1 39) j (if W = true then 2 else 3)) (r44 : S1.2.2.1 44 = upd (S.2.2.1 44) j (nI (S.1 1))) (r45 : S1.2.2.1 45 = upd (S.2.2.1 45) j 1)
    (g42 : ∀ q, S1.2.2.2 42 q = if q = j then (nI y').toInt64 else S.2.2.2 42 q) (g43 : ∀ q, S1.2.2.2 43 q = if q = j then (if W = true then (nI (x - y')).toInt64 else 0) else S.2.2.2 43 q)
    {Xf : zSu} (hXf : Xf = suOw (suJu (suSt (suAp (ksu K j) true) (if W = true then 2 else 3)) (nI (K.1 1))) (nI y')) : tie (n + 1) (ssu K j Xf) S1 := by
  obtain ⟨a1, a2, a3, a4, a5, a6, a7, a8, a9, a10, a11⟩ := h.Su.1 j hj
  obtain ⟨x0, y0, x1, x2, x3, x4, x5, x6, x7⟩ := h.Su.2.1 j hj
  refine tie_su h hn (f := va_up (ksu K) j Xf) rfl h1 h2 (fun i i1 i2 i3 i4 => hA i i1 i3 i4) hL (fun q hq => ?_) (fun q hq => ?_) (fun q hq => ?_) (fun q hq h20 => ?_)
  · by_cases e : q = j
    · subst e; rw [up_eq, hXf]; exact ⟨rfl, rfl, rfl⟩
    · rw [up_ne e]; exact ⟨rfl, rfl, rfl⟩
  · rw [hA 34 (by decide) (by decide) (by decide), hA 35 (by decide) (by decide) (by decide), hA 36 (by decide) (by decide) (by decide), hA 37 (by decide) (by decide) (by decide), hA 38 (by decide) (by decide) (by decide), hA 40 (by decide) (by decide) (by decide), r39, r44, r45, g42, g43]
    by_cases e : q = j
    · subst e
      rw [up_eq, if_pos rfl, if_pos rfl, pk_us, pk_us, pk_us, hXf]
      refine ⟨a1, a2, a3, a4, rfl, a6, rfl, by rw [h.N.1]; rfl, rfl, fun hh => ?_, fun hh => ?_⟩
      · have hW : W = true := by
          cases W with
          | true => rfl
          | false => exact absurd hh (show ¬ (3 : Int32) = 2 by decide)
        rw [if_pos hW]
        show _ = ((ksu K q).2.2.2.1 - nI y').toInt64
        rw [hx, pk_sub hy]
      · have hW : ¬ W = true := fun hw => hh (by rw [hw]; rfl)
        rw [if_neg hW]
    · rw [up_ne e, if_neg e, if_neg e, pk_un e, pk_un e, pk_un e]
      exact h.Su.1 q hq
  · by_cases e : q = j
    · subst e
      rw [up_eq, hXf]
      refine ⟨x, y', hx1, hy, hx, rfl, fun hh => ?_, ?_, fun _ => ⟨K.1 1, Nat.le_refl _, rfl⟩⟩
      · cases W with
        | true => exact absurd rfl hh
        | false => exact hyW rfl
      · cases W with
        | true => exact Or.inr (Or.inr (Or.inl rfl))
        | false => exact Or.inr (Or.inr (Or.inr rfl))
    · rw [up_ne e]; exact h.Su.2.1 q hq
  · rw [hA 40 (by decide) (by decide) (by decide), hA 41 (by decide) (by decide) (by decide), r45, g42, g43, pk_un (by omega), if_neg (by omega), if_neg (by omega)]
    exact h.Su.2.2.1 q hq h20
theorem payK_0 (K : zK) {a b : Nat} : payK K a b 0 = K := by
  unfold payK spe
  have : va_up (va_up (kpe K) a (peGoo (kpe K a) ((kpe K a).2.2.2.2.2.1 - 0))) b (peGoo (kpe K b) ((kpe K b).2.2.2.2.2.1 + 0)) = kpe K := by
    funext q
    by_cases e1 : q = b
    · subst e1
      rw [up_eq, Int64.add_zero]; rfl
    · rw [up_ne e1]
      by_cases e2 : q = a
      · subst e2
        rw [up_eq, Int64.sub_zero]; rfl
      · rw [up_ne e2]
  show (K.1, K.2.1, K.2.2.1, va_up (va_up (kpe K) a (peGoo (kpe K a) ((kpe K a).2.2.2.2.2.1 - 0))) b (peGoo (kpe K b) ((kpe K b).2.2.2.2.2.1 + 0)), K.2.2.2.2) = K
  rw [this]
theorem t_canA (h : tie n K S) {j : Nat} (hj : j < K.1 33) : canApp S j = canA K j := by
  obtain ⟨a1, a2, a3, a4, a5, a6, a7, a8, a9, a10, a11⟩ := h.Su.1 j hj
  obtain ⟨x0, y0, x1, x2, x3, x4, x5, x6, x7⟩ := h.Su.2.1 j hj
  unfold canApp canA
  rw [a5, a3, a8, ← h.N.1]
  have e1 : decide (2 ≤ (ksu K j).2.2.2.2.1) = (decide ((ksu K j).2.2.2.2.1 = 2) || decide ((ksu K j).2.2.2.2.1 = 3)) := by
    rcases x6 with e | e | e | e <;> rw [e] <;> rfl
  have e2 : decide (S.2.2.1 45 j = 0) = !(ksu K j).2.2.2.2.2.2.2.2 := by rw [← a9, decide_not, Bool.not_not]
  rw [e1, e2]
theorem p_appeal (h : tie n K S) (hn : n < 512) (s : Int32) : lcal tie n K (x_appeal K s) [1, 3] (k_appeal K s) (o_appeal S s).1 (b2i (wonK K s.toNatClampNeg 0) = (o_appeal S s).2) := by
  unfold x_appeal o_appeal
  have h33 := h.N.2.2.2.2.2.2.1
  have hb5 := h.bd.2.2.2.2.1
  have hb7 := h.bd.2.2.2.2.2.2
  rw [h33]
  by_cases e1 : zix s (S.1 33) = false
  · rw [if_pos e1, if_pos e1]
    exact lcal_thr h hn (okcd_2 (by decide)) 0 1 rfl
  rw [if_neg e1, if_neg e1]
  obtain ⟨j, hj, rfl⟩ := zix_of (bF e1) (by omega)
  have hj' : j < K.1 33 := by omega
  unfold k_appeal
  rw [nI_clamp (by omega), t_canA h hj']
  by_cases e2 : canA K j = false
  · rw [if_pos e2, if_pos e2]
    exact lcal_thr h hn (okcd_2 (by decide)) 1 3 rfl
  rw [if_neg e2, if_neg e2]
  obtain ⟨a1, a2, a3, a4, a5, a6, a7, a8, a9, a10, a11⟩ := h.Su.1 j hj'
  obtain ⟨d1, d2, d3⟩ := h.ik.2.2.1.2.1 j hj'
  obtain ⟨x, y, x1, x2, x3, x4, x5, x6, x7⟩ := h.Su.2.1 j hj'
  have hw0 : isWonAt S j (-1) = wonK K j 0 := t_won h hj' (l := 0) (Nat.zero_le _)
  have hst : (ksu K j).2.2.2.2.1 = 2 ∨ (ksu K j).2.2.2.2.1 = 3 := by
    have := bF e2
    unfold canA at this
    simp only [Bool.and_eq_true, Bool.or_eq_true, decide_eq_true_eq] at this
    exact this.1
  rw [hw0, a1, a2, nI_clamp (by omega), nI_clamp (by omega)]
  generalize wonK K j 0 = W
  have hks : ksu (apK K j W) j = suJu (suSt (suAp (ksu K j) true) (if W = true then 2 else 3)) (nI (K.1 1)) := up_eq
  have r39 : ∀ A : zS, A.2.2.1 = S.2.2.1 → A.1 1 = S.1 1 → True := fun _ _ _ => trivial
  by_cases cA : (ksu K j).2.2.2.2.1 = 2 ∧ W = false
  · rw [if_pos cA]
    obtain ⟨c1, rfl⟩ := cA
    obtain ⟨z, z1, z2, z3, z4⟩ := paid_N (h.1.2.1 _ d1) (show x - y ≤ 1000000 by omega)
    have rg := (h.P.1 _ d1).2.2.2.2.2.1
    have z64 := i64_N (a := z) (by omega)
    have hbk : backI (th S 0) j (ksu K j).1 = if livK K j = true then (nI z).toInt64 else 0 := by
      show backI S j (ksu K j).1 = _
      unfold backI
      rw [t_both h hj']
      cases livK K j with
      | false => rfl
      | true => rw [if_neg (by decide), if_pos rfl, z4, rg, a10 c1, x3, x4, pk_sub x2]
    have base : tie n (if livK K j = true then payK K (ksu K j).1 (ksu K j).2.1 (nI z).toInt64 else K) (move (th S 0) (ksu K j).1 (ksu K j).2.1 (backI (th S 0) j (ksu K j).1)) := by
      rw [hbk]
      cases livK K j with
      | true => exact tie_pay (h.th 0) (v := (nI z).toInt64) d1 d2 d3 (by rw [z64]; omega) (by rw [z64]; exact z3)
      | false =>
        have := tie_pay (h.th 0) (v := 0) d1 d2 d3 (by rw [Int64.toInt_zero]; exact Int.le_refl _) (by rw [Int64.toInt_zero]; exact h.1.2.1 _ d1)
        rw [payK_0] at this
        exact this
    have hKb : bckK (apK K j false) j = ssu (if livK K j = true then payK K (ksu K j).1 (ksu K j).2.1 (nI z).toInt64 else K) j (suOw (suJu (suSt (suAp (ksu K j) true) 3) (nI (K.1 1))) 0) := by
      have hl : livK (apK K j false) j = livK K j := by unfold livK; rw [hks]; rfl
      unfold bckK
      rw [hl, hks]
      have hz : paidI (kpe (apK K j false) (suJu (suSt (suAp (ksu K j) true) (if false = true then 2 else 3)) (nI (K.1 1))).1).2.2.2.2.2.1 ((suJu (suSt (suAp (ksu K j) true) (if false = true then 2 else 3)) (nI (K.1 1))).2.2.2.1 - (suJu (suSt (suAp (ksu K j) true) (if false = true then 2 else 3)) (nI (K.1 1))).2.2.2.2.2.2.1) = nI z := by
        show paidI (kpe K (ksu K j).1).2.2.2.2.2.1 ((ksu K j).2.2.2.1 - (ksu K j).2.2.2.2.2.2.1) = nI z
        rw [x3, x4, pk_sub x2]
        exact z2
      rw [hz]
      cases livK K j with
      | true =>
        rw [if_pos rfl, if_pos rfl]
        show (K.1, K.2.1, K.2.2.1, _, K.2.2.2.2.1, va_up (va_up (ksu K) j _) j _, K.2.2.2.2.2.2) = _
        rw [up2]
        rfl
      | false =>
        rw [if_neg (by decide), if_neg (by decide)]
        show (K.1, K.2.1, K.2.2.1, _, K.2.2.2.2.1, va_up (va_up (ksu K) j _) j _, K.2.2.2.2.2.2) = _
        rw [up2]
        rfl
    rw [hKb]
    have hsuB : ksu (if livK K j = true then payK K (ksu K j).1 (ksu K j).2.1 (nI z).toInt64 else K) = ksu K := by split <;> rfl
    have hN1 : (if livK K j = true then payK K (ksu K j).1 (ksu K j).2.1 (nI z).toInt64 else K).1 = K.1 := by split <;> rfl
    have hch : kch (if livK K j = true then payK K (ksu K j).1 (ksu K j).2.1 (nI z).toInt64 else K) = kch K := by split <;> rfl
    have happ : appS (th S 0) j (ksu K j).1 (ksu K j).2.1 false = zsA (zsA (zsA (zsL (backS (th S 0) j (ksu K j).1 (ksu K j).2.1) 42 (vp_updL ((backS (th S 0) j (ksu K j).1 (ksu K j).2.1).2.2.2 42) j ((backS (th S 0) j (ksu K j).1 (ksu K j).2.1).2.2.2 42 j))) 39 (upd (S.2.2.1 39) j 3)) 45 (upd (S.2.2.1 45) j 1)) 44 (upd (S.2.2.1 44) j (nI (S.1 1))) := by
      have q1 : (th S 0).2.2.1 39 j = 2 := a5.trans c1
      unfold appS
      dsimp only
      rw [if_pos ⟨q1, rfl⟩, if_neg (fun hh => by cases hh.2)]
      rfl
    rw [happ]
    have e42 : ∀ q, (zsA (zsA (zsA (zsL (backS (th S 0) j (ksu K j).1 (ksu K j).2.1) 42 (vp_updL ((backS (th S 0) j (ksu K j).1 (ksu K j).2.1).2.2.2 42) j ((backS (th S 0) j (ksu K j).1 (ksu K j).2.1).2.2.2 42 j))) 39 (upd (S.2.2.1 39) j 3)) 45 (upd (S.2.2.1 45) j 1)) 44 (upd (S.2.2.1 44) j (nI (S.1 1)))).2.2.2 42 q = vp_updL (vp_updL (S.2.2.2 42) j 0) j (vp_updL (S.2.2.2 42) j 0 j) q := fun q => rfl
    refine lcal_ok (okcd_2 (by decide)) rfl rfl ?_ ?_
    · refine tie_ap base hn (j := j) (x := x) (y' := 0) (W := false) (by rw [hN1]; exact hj') x1 (by rw [hsuB]; exact x3) (Nat.zero_le _) (fun _ => rfl) ?_ ?_ (fun i i1 i2 i3 => ?_) (fun i i1 i2 => ?_) ?_ ?_ ?_ (fun q => ?_) (fun q => ?_) (by rw [hsuB, hN1]; rfl)
      · exact fun i hi => rfl
      · rfl
      · show va_up (va_up (va_up S.2.2.1 39 _) 45 _) 44 _ i = S.2.2.1 i
        rw [up_ne i2, up_ne i3, up_ne i1]
      · show va_up (va_up (va_up _ 43 _) 42 _) 42 _ i = _
        rw [up_ne i1, up_ne i1, up_ne i2]
      · rfl
      · rfl
      · rfl
      · show vp_updL (vp_updL (S.2.2.2 42) j 0) j (vp_updL (S.2.2.2 42) j 0 j) q = if q = j then _ else S.2.2.2 42 q
        by_cases e : q = j
        · subst e; rw [pk_uLs, pk_uLs, if_pos rfl]; rfl
        · rw [pk_uLn e, pk_uLn e, if_neg e]
      · show vp_updL (S.2.2.2 43) j 0 q = if q = j then _ else S.2.2.2 43 q
        by_cases e : q = j
        · subst e; rw [pk_uLs, if_pos rfl, if_neg (by decide)]
        · rw [pk_uLn e, if_neg e]
    · show capF (kch K) (K.1 13) ≤ capF (kch (if livK K j = true then payK K (ksu K j).1 (ksu K j).2.1 (nI z).toInt64 else K)) ((if livK K j = true then payK K (ksu K j).1 (ksu K j).2.1 (nI z).toInt64 else K).1 13)
      rw [hch, hN1]
      exact Nat.le_refl _
  rw [if_neg cA]
  have happ : ∀ v : Int64, v = (if S.2.2.1 39 j = 3 ∧ W = true then (S.2.2.1 37 j).toInt64 else S.2.2.2 42 j) → appS (th S 0) j (ksu K j).1 (ksu K j).2.1 W = zsA (zsA (zsA (zsL (th S 0) 42 (vp_updL (S.2.2.2 42) j v)) 39 (upd (S.2.2.1 39) j (if W = true then 2 else 3))) 45 (upd (S.2.2.1 45) j 1)) 44 (upd (S.2.2.1 44) j (nI (S.1 1))) := by
    intro v hv
    subst hv
    unfold appS
    dsimp only
    rw [if_neg (fun hh => cA ⟨a5.symm.trans hh.1, hh.2⟩)]
    rfl
  -- what is owed then
  by_cases cB : W = true ∧ ¬ (ksu K j).2.2.2.2.1 = 2
  · obtain ⟨rfl, c2⟩ := cB
    have c3 : (ksu K j).2.2.2.2.1 = 3 := hst.resolve_left c2
    rw [if_pos ⟨rfl, c2⟩, happ (nI x).toInt64 (by rw [if_pos ⟨a5.trans c3, rfl⟩, a4, x3])]
    have hKb : ssu (apK K j true) j (suOw (ksu (apK K j true) j) (ksu K j).2.2.2.1) = ssu K j (suOw (suJu (suSt (suAp (ksu K j) true) 2) (nI (K.1 1))) (nI x)) := by
      rw [hks, x3]
      show (K.1, K.2.1, K.2.2.1, _, K.2.2.2.2.1, va_up (va_up (ksu K) j _) j _, K.2.2.2.2.2.2) = _
      rw [up2]
      rfl
    rw [hKb]
    refine lcal_ok (okcd_2 (by decide)) rfl rfl ?_ (Nat.le_refl _)
    refine tie_ap h hn (j := j) (x := x) (y' := x) (W := true) hj' x1 x3 (Nat.le_refl _) (fun hh => by cases hh) (fun i hi => up_ne hi) ?_ (fun i i1 i2 i3 => ?_) (fun i i1 i2 => ?_) ?_ ?_ ?_ (fun q => ?_) (fun q => ?_) rfl
    · rfl
    · show va_up (va_up (va_up S.2.2.1 39 _) 45 _) 44 _ i = S.2.2.1 i
      rw [up_ne i2, up_ne i3, up_ne i1]
    · exact up_ne i1
    · rfl
    · rfl
    · rfl
    · rfl
    · show S.2.2.2 43 q = _
      by_cases e : q = j
      · subst e
        rw [if_pos rfl, if_pos rfl, a11 c2, Nat.sub_self]; rfl
      · rw [if_neg e]
  · rw [if_neg (fun hh => cB ⟨hh.1, hh.2⟩)]
    have hv : S.2.2.2 42 j = (if S.2.2.1 39 j = 3 ∧ W = true then (S.2.2.1 37 j).toInt64 else S.2.2.2 42 j) := by
      rw [if_neg]
      rintro ⟨q1, q2⟩
      exact cB ⟨q2, fun q3 => by rw [a5, q3] at q1; exact absurd q1 (by decide)⟩
    rw [happ _ hv]
    have hKb : apK K j W = ssu K j (suOw (suJu (suSt (suAp (ksu K j) true) (if W = true then 2 else 3)) (nI (K.1 1))) (nI y)) := by
      unfold apK
      congr 1
      rw [← x4]
      rfl
    rw [hKb]
    have hyW : W = false → y = 0 := fun hw => x5 (fun q => cA ⟨q, hw⟩)
    refine lcal_ok (okcd_2 (by decide)) rfl rfl ?_ (Nat.le_refl _)
    refine tie_ap h hn (j := j) (x := x) (y' := y) (W := W) hj' x1 x3 x2 hyW (fun i hi => up_ne hi) ?_ (fun i i1 i2 i3 => ?_) (fun i i1 i2 => ?_) ?_ ?_ ?_ (fun q => ?_) (fun q => ?_) rfl
    · rfl
    · show va_up (va_up (va_up S.2.2.1 39 _) 45 _) 44 _ i = S.2.2.1 i
      rw [up_ne i2, up_ne i3, up_ne i1]
    · exact up_ne i1
    · rfl
    · rfl
    · rfl
    · show vp_updL (S.2.2.2 42) j (S.2.2.2 42 j) q = _
      by_cases e : q = j
      · subst e; rw [pk_uLs, if_pos rfl, a7, x4]
      · rw [pk_uLn e, if_neg e]
    · show S.2.2.2 43 q = _
      by_cases e : q = j
      · subst e
        rw [if_pos rfl]
        cases hW : W with
        | true =>
          have c2 : (ksu K q).2.2.2.2.1 = 2 := Classical.byContradiction fun hh => cB ⟨hW, hh⟩
          rw [if_pos rfl, a10 c2, x3, x4, pk_sub x2]
        | false =>
          have c2 : ¬ (ksu K q).2.2.2.2.1 = 2 := fun hh => cA ⟨hh, hW⟩
          rw [if_neg (by decide), a11 c2]
      · rw [if_neg e]
end TIE18
