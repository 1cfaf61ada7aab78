/-! pass -/
section TIE25
variable {n : Nat} {K K1 : zK} {S S1 A B C : zS}
theorem sumG_cg {f g : Nat → zPe} : ∀ m, (∀ p, p < m → (f p).2.2.2.2.2.1 = (g p).2.2.2.2.2.1) → sumG f m = sumG g m
  | 0, _ => rfl
  | m + 1, h => by
    show sumG f m + (f m).2.2.2.2.2.1.toInt = sumG g m + (g m).2.2.2.2.2.1.toInt
    rw [sumG_cg m (fun p hp => h p (by omega)), h m (by omega)]
theorem t_dN (h : tie n K S) : dN n K (th S 0) := by
  obtain ⟨b1, b2, b3, b4, b5, b6, b7⟩ := h.bd
  refine ⟨⟨h.N.1, h.N.2.2.2.2.1, b5, b1, b2, h.P.1, h.C.2.2.2⟩, ⟨h.ik.2.2.1.2.2, h.ik.2.1.1, h.1.1.2.2.2, h.1.1.1⟩, h.P.2.1, fun v hv => ?_⟩
  obtain ⟨f0, t, q1, q2, q3, -⟩ := h.C.2.2.1 v hv
  exact ⟨f0, by omega, q3⟩
/-- persons' faiths and turnings and today change -/
theorem tie_dN (h : tie n K S) (hn : n < 512) (hd : dN n K1 S1) (h13 : ∀ q, K.1 13 ≤ q → kch K1 (100 + q) = kch K (100 + q)) (h1 : K.1 1 ≤ K1.1 1) (hj : ∀ j, j ≠ 1 → K1.1 j = K.1 j) (hK : frK K K1) (hS : frS (th S 0) S1) : tie (n + 1) K1 S1 := by
  obtain ⟨N1, c1, g, f, R⟩ := K1
  obtain ⟨k1, k2, k3, k4⟩ := hK
  have k2 : R = K.2.2.2.2 := k2
  subst k2
  have k1 : c1 = K.2.1 := k1
  subst k1
  have hj : ∀ j, j ≠ 1 → N1 j = K.1 j := hj
  have h1 : K.1 1 ≤ N1 1 := h1
  have k3 : ∀ q, (f q).1 = (kpe K q).1 ∧ (f q).2.1 = (kpe K q).2.1 ∧ (f q).2.2.1 = (kpe K q).2.2.1 ∧ (f q).2.2.2.1 = (kpe K q).2.2.2.1 ∧ (f q).2.2.2.2.1 = (kpe K q).2.2.2.2.1 ∧ (f q).2.2.2.2.2.1 = (kpe K q).2.2.2.2.2.1 := k3
  have k4 : ∀ i, i < 100 → g i = kch K i := k4
  have h13 : ∀ q, K.1 13 ≤ q → g (100 + q) = kch K (100 + q) := h13
  obtain ⟨⟨d1, d2, d3, d4, d5, d6, d7⟩, ⟨d8, d9, d10, d11⟩, d12, d13⟩ := hd
  have d4 : N1 1 ≤ 30000 := d4
  have d7 : cFt (N1 1) (N1 2) (N1 13) g f S1.2.2.1 := d7
  have d10 : ∀ q, q < N1 13 → (g (100 + q)).2.1 + pdK f (N1 13) ≤ n := d10
  obtain ⟨s1, s2, s3, s4, s5⟩ := hS
  have j2 := hj 2 (by decide)
  have j4 := hj 4 (by decide)
  have j9 := hj 9 (by decide)
  have j13 := hj 13 (by decide)
  have j25 := hj 25 (by decide)
  have j33 := hj 33 (by decide)
  obtain ⟨b1, b2, b3, b4, b5, b6, b7⟩ := h.bd
  obtain ⟨⟨r1, r2, r3, r4⟩, gg1, gg2⟩ := h.1
  obtain ⟨-, ⟨i1, i2⟩, ⟨i3, i4, i5⟩, i6, i7, i8⟩ := h.ik
  obtain ⟨a1, a2, a3, a4, a5, a6, a7, a8⟩ := h.N
  refine ⟨⟨⟨hn, fun i => ?_, ?_, fun q hq => Nat.le_succ_of_le (d10 q hq)⟩, fun p hp => ?_, ?_⟩, ⟨⟨⟨d4, ?_, ?_, ?_, ?_, ?_, ?_⟩, ⟨d9, fun p i hp hi => ?_⟩, ⟨fun m hm => ?_, fun s hs => ?_, d8⟩, fun s i hs hi => ?_, i7, fun s hs => ?_⟩, h.2.1.2⟩, ⟨d1, ?_, ?_, ?_, ?_, ?_, ?_, ?_⟩, ⟨d6, d12, fun p hp h40 => ?_⟩, ⟨?_, ?_, ?_⟩, ⟨?_, ?_, ?_, ?_⟩, ?_, ?_, ?_, d7⟩
  · show (g i).2.1 ≤ n + 1
    rcases Nat.lt_or_ge i 100 with hi | hi
    · rw [k4 i hi]; exact Nat.le_succ_of_le (r2 i)
    · obtain ⟨q, rfl⟩ : ∃ q, i = 100 + q := ⟨i - 100, by omega⟩
      rcases Nat.lt_or_ge q (K.1 13) with hq | hq
      · have := d10 q (by omega); omega
      · rw [h13 q hq]; exact Nat.le_succ_of_le (r2 _)
  · show pdK f (N1 13) ≤ n + 1
    rcases Nat.eq_zero_or_pos (N1 13) with hz | hz
    · rw [hz]; exact Nat.zero_le _
    · have := d10 0 hz; omega
  · rw [show (kpe (N1, K.2.1, g, f, K.2.2.2.2) p).2.2.2.2.2.1 = (f p).2.2.2.2.2.1 from rfl, (k3 p).2.2.2.2.2]
    exact gg1 p (by have hp : p < N1 13 := hp; omega)
  · show sumG f (N1 13) ≤ _
    rw [j13, sumG_cg (g := kpe K) _ (fun p _ => (k3 p).2.2.2.2.2)]
    omega
  · show N1 2 ≤ 6; omega
  · show N1 4 ≤ 100; omega
  · show N1 9 ≤ 40; omega
  · show N1 13 ≤ 40; omega
  · show N1 25 ≤ 30; omega
  · show N1 33 ≤ 20; omega
  · obtain ⟨e, v, f0, -, -, q3, q4, -⟩ := (d7 p hp).2.2.1 i hi
    exact ⟨v, q4, q3⟩
  · have hm : m < N1 25 := hm
    obtain ⟨x1, x2, x3⟩ := i3 m (by omega)
    exact ⟨by show _ < N1 13; rw [j13]; exact x1, by show _ < N1 13; rw [j13]; exact x2, x3⟩
  · have hs : s < N1 33 := hs
    obtain ⟨x1, x2, x3⟩ := i4 s (by omega)
    exact ⟨by show _ < N1 13; rw [j13]; exact x1, by show _ < N1 13; rw [j13]; exact x2, x3⟩
  · have hs : s < N1 33 := hs
    show _ < N1 13
    rw [j13]
    exact i6 s i (by omega) hi
  · have hs : s < N1 33 := hs
    obtain ⟨l, l1, l2⟩ := i8 s (by omega)
    exact ⟨l, by show l ≤ N1 2; omega, l2⟩
  · exact (j2.trans a2).trans (s1 2 (by decide)).symm
  · exact (j4.trans a3).trans (s1 4 (by decide)).symm
  · exact (j9.trans a4).trans (s1 9 (by decide)).symm
  · exact (j13.trans a5).trans (s1 13 (by decide)).symm
  · exact (j25.trans a6).trans (s1 25 (by decide)).symm
  · exact (j33.trans a7).trans (s1 33 (by decide)).symm
  · exact a8.trans s2.symm
  · have hp : N1 13 ≤ p := hp
    obtain ⟨x1, x2, x3⟩ := h.P.2.2 p (by omega) h40
    refine ⟨?_, ?_, ?_⟩
    · rw [s4 18 (by decide) (by decide) (by decide) (by decide) (by decide)]; exact x1
    · rw [s3]; exact x2
    · rw [s5 p (by show S.1 13 ≤ p; omega)]; exact x3
  · show cM (N1 25) (kma K) _
    rw [j25]
    exact cM_c (A := S.2.2.1) (fun i a b => s4 i (by omega) (by omega) (by omega) (by omega) (by omega)) h.M.1
  · show cMi (N1 25) (kma K)
    rw [j25]; exact h.M.2.1
  · show cM0 (N1 25) _
    rw [j25]
    exact cM0_c (A := S.2.2.1) (fun i a b => s4 i (by omega) (by omega) (by omega) (by omega) (by omega)) h.M.2.2
  · show cS (N1 33) (ksu K) _ _ _
    rw [j33]
    exact cS_c (A := S.2.2.1) (fun i a b => s4 i (by omega) (by omega) (by omega) (by omega) (by omega)) (congrFun s3 42) (congrFun s3 43) h.Su.1
  · show cSi (N1 1) (N1 33) (ksu K)
    rw [j33]
    intro s hs
    obtain ⟨x, y, x1, x2, x3, x4, x5, x6, x7⟩ := h.Su.2.1 s hs
    exact ⟨x, y, x1, x2, x3, x4, x5, x6, fun hh => by obtain ⟨t, t1, t2⟩ := x7 hh; exact ⟨t, by omega, t2⟩⟩
  · show cS0 (N1 33) _ _ _
    rw [j33]
    exact cS0_c (A := S.2.2.1) (fun i a b => s4 i (by omega) (by omega) (by omega) (by omega) (by omega)) (congrFun s3 42) (congrFun s3 43) h.Su.2.2.1
  · show cW (N1 33) (N1 13) (kws K) _
    rw [j33, j13, s4 41 (by decide) (by decide) (by decide) (by decide) (by decide)]
    exact h.Su.2.2.2
  · show cL (N1 1) (N1 2) (N1 4) g _
    rw [j2, j4]
    refine cL_c (A := S.2.2.1) (fun i a b => s4 i (by omega) (by omega) (by omega) (by omega) (by omega)) ⟨fun l w hl hw => ?_, h.C.1.2⟩
    obtain ⟨x1, x2, t, x3, x4⟩ := h.C.1.1 l w hl hw
    rw [k4 _ (by unfold lch; omega)]
    exact ⟨x1, x2, t, by omega, x4⟩
  · show cR (N1 1) (N1 9) g _
    rw [j9]
    refine cR_c (A := S.2.2.1) (fun i a b => s4 i (by omega) (by omega) (by omega) (by omega) (by omega)) (fun m hm => ?_)
    obtain ⟨x1, x2, ⟨t, x3, x4⟩, x5⟩ := h.C.2.1 m hm
    rw [k4 _ (by omega)]
    exact ⟨x1, x2, ⟨t, by omega, x4⟩, x5⟩
  · show cC (N1 1) (N1 2) g _
    rw [j2, s4 3 (by decide) (by decide) (by decide) (by decide) (by decide)]
    intro c hc
    obtain ⟨f0, t, x1, x2, x3⟩ := h.C.2.2.1 c hc
    rw [k4 _ (by unfold rch; omega)]
    exact ⟨f0, t, x1, by omega, x3⟩
theorem p_pass (h : tie n K S) (hn : n < 512) (a0 : Int32) : lcal tie n K (x_pass K a0) [2, 3] (psK K a0.toNatClampNeg) (o_pass S a0).1 (nI (K.1 1 + a0.toNatClampNeg) = (o_pass S a0).2) := by
  unfold x_pass o_pass
  rw [rng_w]
  have hb := h.bd.1
  have hN1 := h.N.1
  by_cases e1 : rng a0 1 2000 = false
  · rw [if_pos e1, if_pos e1]
    exact lcal_thr h hn (okcd_2 (by decide)) 0 2 rfl
  rw [if_neg e1, if_neg e1]
  obtain ⟨d, d1, d2, rfl⟩ := rng_N (a := 1) (b := 2000) (by decide) (by decide) (bF e1)
  rw [nI_clamp (by omega)]
  have hle : decide (nI d ≤ 30000 - nI (K.1 1)) = decide (K.1 1 + d ≤ 30000) := by
    rw [decide_eq_decide]
    exact days_le d2 hb
  have hle2 : (nI (S.1 1) + nI d ≤ 30000) ↔ K.1 1 + d ≤ 30000 := by
    rw [← hN1, nI_add, show (30000 : Int32) = nI 30000 from rfl, nI_leI (by omega) (by omega)]
  rw [hle]
  by_cases e2 : K.1 1 + d ≤ 30000
  · rw [if_neg (by rw [decide_eq_true e2]; exact fun hh => by cases hh), if_neg (fun hh => hh (hle2.mpr e2))]
    obtain ⟨⟨g1, g2⟩, g3, g4⟩ := dN_days (t_dN h) d e2
    have hS := passL_fr (th S 0) d
    refine lcal_ok (okcd_2 (by decide)) ?_ ?_ (tie_dN h hn g1 g2 (by omega) g4 (psK_fr K d) hS) ?_
    · exact hS.1 0 (by decide)
    · show nI (K.1 1 + d) = nI ((passL (th S 0) d).1 1)
      rw [← g1.1.1, g3]
    · unfold cF
      rw [psK13]
      refine capF_mono (fun c => ?_) _
      have := psK_mono K 0 d c
      rw [Nat.zero_add] at this
      exact this
  · rw [if_pos (decide_eq_false e2), if_pos (fun hh => e2 (hle2.mp hh))]
    exact lcal_thr h hn (okcd_2 (by decide)) 1 3 rfl
end TIE25
