/-! execute, appeal -/
section TIE17
variable {n : Nat} {K K1 : zK} {S S1 : zS}
theorem i64_N {a : Nat} (ha : a ≤ 1000000) : (nI a).toInt64.toInt = (a : Int) := by rw [Int32.toInt_toInt64, nI_toInt (by omega)]
theorem i64_sub {a b : Nat} (ha : a ≤ 1000000) (h : b ≤ a) : (nI a).toInt64 - (nI b).toInt64 = (nI (a - b)).toInt64 := by
  apply Int64.toInt_inj.mp
  rw [Int64.toInt_sub, i64_N ha, i64_N (by omega), i64_N (by omega)]
  rw [Int.bmod_eq_of_le] <;> omega
theorem i64_add {a b : Nat} (h : a + b ≤ 1000000) : (nI a).toInt64 + (nI b).toInt64 = (nI (a + b)).toInt64 := by
  apply Int64.toInt_inj.mp
  rw [Int64.toInt_add, i64_N (by omega), i64_N (by omega), i64_N h]
  rw [Int.bmod_eq_of_le] <;> omega
theorem i64_0 {a : Nat} (ha : a ≤ 1000000) : (nI a).toInt64 = 0 ↔ nI a = 0 := by
  rw [← Int64.toInt_inj, i64_N ha, Int64.toInt_zero, show (0 : Int32) = nI 0 from rfl, nI_eq (by omega) (by decide)]
  omega
theorem up2 {α : Type} (f : Nat → α) (s : Nat) (x y : α) : va_up (va_up f s x) s y = va_up f s y := by
  funext q
  by_cases e : q = s
  · subst e; rw [up_eq, up_eq]
  · rw [up_ne e, up_ne e, up_ne e]
theorem t_both (h : tie n K S) {s : Nat} (hs : s < K.1 33) : bothLive S s = livK K s := by
  obtain ⟨a1, a2, -⟩ := h.Su.1 s hs
  obtain ⟨d1, d2, -⟩ := h.ik.2.2.1.2.1 s hs
  have hb5 := h.bd.2.2.2.2.1
  unfold bothLive livK
  rw [a1, a2, nI_clamp (by omega), nI_clamp (by omega), t_liv h d1, t_liv h d2]
theorem p_execute (h : tie n K S) (hn : n < 512) (s : Int32) : lcal tie n K (x_execute K s) [1, 3] (k_execute K s.toNatClampNeg) (o_execute S s).1 ((exeA K s.toNatClampNeg).toInt64 = (o_execute S s).2) := by
  unfold x_execute o_execute
  have h33 := h.N.2.2.2.2.2.2.1
  have hb5 := h.bd.2.2.2.2.1
  have hb7 := h.bd.2.2.2.2.2.2
  rw [h33]
  by_cases e1 : zix s (S.1 33) = false
  · rw [if_pos e1, if_pos e1]
    exact lcal_thr h hn (okcd_2 (by decide)) 0 1 rfl
  rw [if_neg e1, if_neg e1]
  obtain ⟨j, hj, rfl⟩ := zix_of (bF e1) (by omega)
  have hj' : j < K.1 33 := by omega
  rw [nI_clamp (by omega)]
  obtain ⟨a1, a2, a3, a4, a5, a6, a7, a8, a9, a10, a11⟩ := h.Su.1 j hj'
  obtain ⟨d1, d2, d3⟩ := h.ik.2.2.1.2.1 j hj'
  obtain ⟨x, y, x1, x2, x3, x4, x5, x6, x7⟩ := h.Su.2.1 j hj'
  have e42 : decide (S.2.2.2 42 j ≠ 0) = decide ((ksu K j).2.2.2.2.2.2.1 ≠ 0) := by
    rw [a7, x4, decide_eq_decide]
    exact not_congr (i64_0 (by omega))
  rw [a5, e42, t_both h hj']
  by_cases e2 : (decide ((ksu K j).2.2.2.2.1 = 2) && (decide ((ksu K j).2.2.2.2.2.2.1 ≠ 0) && livK K j)) = false
  · rw [if_pos e2, if_pos e2]
    exact lcal_thr h hn (okcd_2 (by decide)) 1 3 rfl
  rw [if_neg e2, if_neg e2]
  have e2 := bF e2
  simp only [Bool.and_eq_true, decide_eq_true_eq] at e2
  obtain ⟨st2, -⟩ := e2
  obtain ⟨z, z1, z2, z3, z4⟩ := paid_N (h.1.2.1 _ d2) (show y ≤ 1000000 by omega)
  have rg := (h.P.1 _ d2).2.2.2.2.2.1
  have hex : exeA K j = nI z := by unfold exeA; rw [x4]; exact z2
  have hei : exeI S j (ksu K j).2.1 = (nI z).toInt64 := by
    unfold exeI
    rw [z4, rg, a7, x4]
  have z64 := i64_N (a := z) (by omega)
  have hp := tie_pay h (v := (nI z).toInt64) d2 d1 (fun e => d3 e.symm) (by rw [z64]; omega) (by rw [z64]; exact z3)
  rw [hex, a1, a2, nI_clamp (by omega), nI_clamp (by omega)]
  refine lcal_ok (okcd_2 (by decide)) rfl (by show _ = exeI S j (ksu K j).2.1; rw [hei]) ?_ (Nat.le_refl _)
  show tie (n + 1) (ssu (payK K (ksu K j).2.1 (ksu K j).1 (exeA K j).toInt64) j (suOw (ksu K j) ((ksu K j).2.2.2.2.2.2.1 - exeA K j))) (exeS (th S 0) j (ksu K j).1 (ksu K j).2.1)
  have hes : exeS (th S 0) j (ksu K j).1 (ksu K j).2.1 = zsL (zsL (move (th S 0) (ksu K j).2.1 (ksu K j).1 (nI z).toInt64) 42 (vp_updL (S.2.2.2 42) j (S.2.2.2 42 j - (nI z).toInt64))) 43 (vp_updL (S.2.2.2 43) j (S.2.2.2 43 j + (nI z).toInt64)) := by
    unfold exeS
    have : exeI (th S 0) j (ksu K j).2.1 = (nI z).toInt64 := hei
    rw [this]
    rfl
  rw [hes, hex, x4, pk_sub z1]
  refine tie_su hp hn (f := va_up (ksu K) j (suOw (ksu K j) (nI (y - z)))) rfl (fun i hi => up_ne hi) rfl (fun i _ _ _ _ => rfl) (fun i i1 i2 => ?_) (fun q hq => ?_) (fun q hq => ?_) (fun q hq => ?_) (fun q hq h20 => ?_)
  · show va_up (va_up _ _ _) _ _ i = _
    rw [up_ne i2, up_ne i1]
    rfl
  · by_cases e : q = j
    · subst e; rw [up_eq]; exact ⟨rfl, rfl, rfl⟩
    · rw [up_ne e]; exact ⟨rfl, rfl, rfl⟩
  · by_cases e : q = j
    · subst e
      rw [up_eq]
      refine ⟨a1, a2, a3, a4, a5, a6, ?_, a8, a9, fun _ => ?_, fun hh => absurd st2 hh⟩
      · show vp_updL _ _ _ _ = _
        rw [pk_uLs, a7, x4, i64_sub (by omega) z1]; rfl
      · show vp_updL _ _ _ _ = _
        rw [pk_uLs, a10 st2, x3, x4]
        show (nI x - nI y).toInt64 + _ = ((ksu K q).2.2.2.1 - nI (y - z)).toInt64
        rw [x3, pk_sub x2, pk_sub (by omega), i64_add (by omega)]
        congr 2
        omega
    · rw [up_ne e]
      obtain ⟨c1, c2, c3, c4, c5, c6, c7, c8, c9, c10, c11⟩ := h.Su.1 q hq
      refine ⟨c1, c2, c3, c4, c5, c6, ?_, c8, c9, fun hh => ?_, fun hh => ?_⟩
      · show vp_updL _ _ _ _ = _; rw [pk_uLn e]; exact c7
      · show vp_updL _ _ _ _ = _; rw [pk_uLn e]; exact c10 hh
      · show vp_updL _ _ _ _ = _; rw [pk_uLn e]; exact c11 hh
  · by_cases e : q = j
    · subst e; rw [up_eq]; exact ⟨x, y - z, x1, by omega, x3, rfl, fun hh => absurd st2 hh, x6, x7⟩
    · rw [up_ne e]; exact h.Su.2.1 q hq
  · obtain ⟨c1, c2, c3, c4, c5⟩ := h.Su.2.2.1 q hq h20
    have hq : K.1 33 ≤ q := hq
    exact ⟨c1, c2, by show vp_updL _ _ _ _ = _; rw [pk_uLn (by omega)]; exact c3, by show vp_updL _ _ _ _ = _; rw [pk_uLn (by omega)]; exact c4, c5⟩
end TIE17
