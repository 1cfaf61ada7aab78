/-! chronicles of laws, rules and recognition: decree, rule, recognise -/
section TIE8
variable {n : Nat} {K K1 : zK} {S S1 : zS}
theorem capF_lo {f g : Nat → zCh} (h : ∀ p, g (100 + p) = f (100 + p)) : ∀ m, capF g m = capF f m
  | 0 => rfl
  | m + 1 => by rw [capF, capF, capF_lo h m, h m]
theorem tie_ch (h : tie n K S) (hn : n < 512) {N1 : Nat → Nat} {g : Nat → zCh} {K1 : zK} (hK : K1 = (N1, K.2.1, g, K.2.2.2)) (hN : ∀ i, ¬ i = 4 → ¬ i = 9 → N1 i = K.1 i) (hb4 : N1 4 ≤ 100) (hb9 : N1 9 ≤ 40) (h4 : N1 4 = S1.1 4) (h9 : N1 9 = S1.1 9)
    (h1 : ∀ i, ¬ i = 0 → ¬ i = 4 → ¬ i = 9 → S1.1 i = S.1 i) (h2 : S1.2.1 = S.2.1) (hA : ∀ i, 13 ≤ i → S1.2.2.1 i = S.2.2.1 i) (hL : S1.2.2.2 = S.2.2.2)
    (hW : ∀ i, chW (g i)) (hk : ∀ i, (g i).2.1 ≤ n + 1) (hp : ∀ p, g (100 + p) = kch K (100 + p)) (h0 : ∀ i, (g i).2.2.1 0 = (kch K i).2.2.1 0)
    (hcL : cL (K.1 1) (K.1 2) (N1 4) g S1.2.2.1) (hcR : cR (K.1 1) (N1 9) g S1.2.2.1) (hcC : cC (K.1 1) (K.1 2) g (S1.2.2.1 3)) : tie (n + 1) K1 S1 := by
  subst hK
  have e1 := hN 1 (by decide) (by decide)
  have e2 := hN 2 (by decide) (by decide)
  have e13 := hN 13 (by decide) (by decide)
  have e25 := hN 25 (by decide) (by decide)
  have e33 := hN 33 (by decide) (by decide)
  obtain ⟨q1, q2, q3, q4⟩ := h.1.1.up hn
  obtain ⟨i1, ⟨i2, i2'⟩, ⟨i3, i4, i5⟩, i6, i7, i8⟩ := h.ik
  obtain ⟨b1, b2, b3, b4, b5, b6, b7⟩ := i1
  obtain ⟨a1, a2, a3, a4, a5, a6, a7, a8⟩ := h.N
  refine ⟨⟨⟨q1, hk, ?_, ?_⟩, ?_, ?_⟩, ⟨⟨⟨?_, ?_, hb4, hb9, ?_, ?_, ?_⟩, ⟨hW, ?_⟩, ⟨?_, ?_, ?_⟩, ?_, i7, ?_⟩, h.2.1.2⟩, ⟨?_, ?_, h4, h9, ?_, ?_, ?_, a8.trans h2.symm⟩, ⟨?_, ?_, ?_⟩, ⟨?_, ?_, ?_⟩, ⟨?_, ?_, ?_, ?_⟩, ?_, ?_, ?_, ?_⟩
  · show pdK (kpe K) (N1 13) ≤ _; rw [e13]; exact q3
  · intro q hq
    have hq : q < N1 13 := hq
    rw [e13] at hq
    show (g (100 + q)).2.1 + pdK (kpe K) (N1 13) ≤ _
    rw [hp, e13]
    exact q4 q hq
  · intro p hp'
    have hp' : p < N1 13 := hp'
    rw [e13] at hp'
    exact h.1.2.1 p hp'
  · show sumG (kpe K) (N1 13) ≤ _
    rw [e13]
    exact h.1.2.up.2
  · show N1 1 ≤ _; rw [e1]; exact b1
  · show N1 2 ≤ _; rw [e2]; exact b2
  · show N1 13 ≤ _; rw [e13]; exact b5
  · show N1 25 ≤ _; rw [e25]; exact b6
  · show N1 33 ≤ _; rw [e33]; exact b7
  · intro p i hp' hi
    have hp' : p < N1 13 := hp'
    have hi : i ≤ (g (100 + p)).2.1 := hi
    rw [e13] at hp'
    rw [hp] at hi
    show ∃ c, c < N1 2 ∧ (g (100 + p)).2.2.2 i = _
    rw [hp, e2]
    exact i2' p i hp' hi
  · intro m hm
    have hm : m < N1 25 := hm
    rw [e25] at hm
    show _ < N1 13 ∧ _ < N1 13 ∧ _
    rw [e13]
    exact i3 m hm
  · intro m hm
    have hm : m < N1 33 := hm
    rw [e33] at hm
    show _ < N1 13 ∧ _ < N1 13 ∧ _
    rw [e13]
    exact i4 m hm
  · intro p hp'
    have hp' : p < N1 13 := hp'
    rw [e13] at hp'
    exact i5 p hp'
  · intro s i hs hi
    have hs : s < N1 33 := hs
    rw [e33] at hs
    show _ < N1 13
    rw [e13]
    exact i6 s i hs hi
  · intro s hs
    have hs : s < N1 33 := hs
    rw [e33] at hs
    show ∃ l, l ≤ N1 2 ∧ _
    rw [e2]
    exact i8 s hs
  · show N1 1 = _; rw [e1, h1 1 (by decide) (by decide) (by decide)]; exact a1
  · show N1 2 = _; rw [e2, h1 2 (by decide) (by decide) (by decide)]; exact a2
  · show N1 13 = _; rw [e13, h1 13 (by decide) (by decide) (by decide)]; exact a5
  · show N1 25 = _; rw [e25, h1 25 (by decide) (by decide) (by decide)]; exact a6
  · show N1 33 = _; rw [e33, h1 33 (by decide) (by decide) (by decide)]; exact a7
  · show cP (N1 13) _ _ _; rw [e13]; exact cP_c (fun i a b => hA i (by omega)) (by rw [hL]) h.P.1
  · show cPi (N1 1) (N1 2) (N1 13) _; rw [e1, e2, e13]; exact h.P.2.1
  · show cP0 (N1 13) _ _; rw [e13]; exact cP0_c (fun i a b => hA i (by omega)) (by rw [hL]) h.P.2.2
  · show cM (N1 25) _ _; rw [e25]; exact cM_c (fun i a b => hA i (by omega)) h.M.1
  · show cMi (N1 25) _; rw [e25]; exact h.M.2.1
  · show cM0 (N1 25) _; rw [e25]; exact cM0_c (fun i a b => hA i (by omega)) h.M.2.2
  · show cS (N1 33) _ _ _ _; rw [e33]; exact cS_c (fun i a b => hA i (by omega)) (by rw [hL]) (by rw [hL]) h.Su.1
  · show cSi (N1 1) (N1 33) _; rw [e1, e33]; exact h.Su.2.1
  · show cS0 (N1 33) _ _ _; rw [e33]; exact cS0_c (fun i a b => hA i (by omega)) (by rw [hL]) (by rw [hL]) h.Su.2.2.1
  · show cW (N1 33) (N1 13) _ _; rw [e33, e13, hA 41 (by decide)]; exact h.Su.2.2.2
  · show cL (N1 1) (N1 2) (N1 4) _ _; rw [e1, e2]; exact hcL
  · show cR (N1 1) (N1 9) _ _; rw [e1]; exact hcR
  · show cC (N1 1) (N1 2) _ _; rw [e1, e2]; exact hcC
  · show cFt (N1 1) (N1 2) (N1 13) g _ _
    rw [e1, e2, e13]
    intro p hp'
    obtain ⟨c1, c2, c3, c4⟩ := h.C.2.2.2 p hp'
    rw [hA 20 (by decide), hA 21 (by decide), hp]
    refine ⟨c1, c2, fun i hi => ?_, c4⟩
    obtain ⟨e, v, f0, d1, d2, d3, d4, d5, d6, d7⟩ := c3 i hi
    exact ⟨e, v, f0, d1, d2, d3, d4, d5, (h0 _).trans d6, d7⟩
theorem tell_g (h : tie n K S) (hn : n < 512) {i0 : Nat} {x : Int32} (hi0 : i0 < 100) : (∀ i, chW (va_up (kch K) i0 (tellS (kch K i0) (nI (K.1 1)) x) i)) ∧ (∀ i, (va_up (kch K) i0 (tellS (kch K i0) (nI (K.1 1)) x) i).2.1 ≤ n + 1) ∧ (∀ p, va_up (kch K) i0 (tellS (kch K i0) (nI (K.1 1)) x) (100 + p) = kch K (100 + p)) ∧ (∀ i, (va_up (kch K) i0 (tellS (kch K i0) (nI (K.1 1)) x) i).2.2.1 0 = (kch K i).2.2.1 0) := by
  have hk := h.1.1.2.1
  refine ⟨fun i => ?_, fun i => ?_, fun p => up_ne (by omega), fun i => ?_⟩
  · by_cases e : i = i0
    · subst e; rw [up_eq]; exact tell_W (h.ik.2.1.1 i) (by have := hk i; omega)
    · rw [up_ne e]; exact h.ik.2.1.1 i
  · by_cases e : i = i0
    · subst e; rw [up_eq]; have := tell_k (c := kch K i) (td := nI (K.1 1)) (x := x); have := hk i; omega
    · rw [up_ne e]; exact Nat.le_succ_of_le (hk i)
  · by_cases e : i = i0
    · subst e; rw [up_eq]; exact tell_0
    · rw [up_ne e]
theorem ruleL_s (a b c : Nat → Int32) (m d : Int32) (k : Nat) : ruleL a b c m d (k + 1) = if a k = m ∧ c k ≤ d then b k else ruleL a b c m d k := rfl
theorem lawL_s (a b c e : Nat → Int32) (l w d : Int32) (k : Nat) : lawL a b c e l w d (k + 1) = if a k = l ∧ b k = w ∧ e k ≤ d then c k else lawL a b c e l w d k := rfl
theorem p_rule (h : tie n K S) (hn : n < 512) (m r : Int32) : lcal tie n K (x_rule K m r) [2, 3] (k_rule K m r) (o_rule S m r).1 (chN (kch K m.toNatClampNeg) = (o_rule S m r).2) := by
  unfold x_rule o_rule
  rw [rng_w, rng_w]
  by_cases e1 : (rng m 0 3 && rng r 0 3) = false
  · rw [if_pos e1, if_pos e1]
    exact lcal_thr h hn (okcd_2 (by decide)) 0 2 rfl
  rw [if_neg e1, if_neg e1]
  have hb4 := h.bd.2.2.2.1
  have h9 := h.N.2.2.2.1
  by_cases e2 : S.1 9 = 40
  · rw [if_pos (decide_eq_false (by omega)), if_pos e2]
    exact lcal_thr h hn (okcd_2 (by decide)) 1 3 rfl
  rw [if_neg (by simp; omega), if_neg e2]
  have e1 := bF e1
  rw [Bool.and_eq_true] at e1
  obtain ⟨m0, -, m1, rfl⟩ := rng_N (a := 0) (b := 3) (by decide) (by decide) e1.1
  obtain ⟨r0, -, r1, rfl⟩ := rng_N (a := 0) (b := 3) (by decide) (by decide) e1.2
  have hb1 := h.bd.1
  have hN1 := h.N.1
  unfold k_rule
  rw [nI_clamp (by omega)]
  obtain ⟨c1, c2, ⟨t, c3, c4⟩, c5⟩ := h.C.2.1 m0 (by omega)
  obtain ⟨g1, g2, g3, g4⟩ := tell_g h hn (i0 := m0) (x := nI r0) (by omega)
  refine lcal_ok (okcd_2 (by decide)) rfl ?_ (tie_ch h hn (N1 := va_up K.1 9 (K.1 9 + 1)) (g := va_up (kch K) m0 (tellS (kch K m0) (nI (K.1 1)) (nI r0))) rfl (fun i _ i2 => up_ne i2) h.bd.2.2.1 (by show K.1 9 + 1 ≤ 40; omega) h.N.2.2.1 (by show K.1 9 + 1 = S.1 9 + 1; omega) (fun i i0 _ i2 => by show va_up (va_up _ _ _) _ _ i = _; rw [up_ne i2, up_ne i0]) rfl (fun i hi => ?_) rfl g1 g2 g3 g4 ?_ ?_ ?_) (Nat.le_of_eq (capF_lo g3 _).symm)
  · show chN (kch K m0) = ruleOn S (nI m0) (nI (S.1 1))
    rw [← hN1, ← t_rule h (by omega) hb1]
    exact (chV_new (by rw [c4]; exact nI_le c3 (by omega))).symm
  · show va_up (va_up (va_up _ _ _) _ _) _ _ i = _
    rw [up_ne (by omega), up_ne (by omega), up_ne (by omega)]
    rfl
  · refine ⟨fun l w hl hw => ?_, h.C.1.2⟩
    rw [up_ne (by unfold lch; omega)]
    exact h.C.1.1 l w hl hw
  · intro m hm
    have hrl : ∀ d, ruleL ((rulS (th S 0) (nI m0) (nI r0)).2.2.1 10) ((rulS (th S 0) (nI m0) (nI r0)).2.2.1 11) ((rulS (th S 0) (nI m0) (nI r0)).2.2.1 12) (nI m) d (K.1 9) = ruleL (S.2.2.1 10) (S.2.2.1 11) (S.2.2.1 12) (nI m) d (K.1 9) := by
      intro d
      have key : ∀ k, k ≤ K.1 9 → ruleL ((rulS (th S 0) (nI m0) (nI r0)).2.2.1 10) ((rulS (th S 0) (nI m0) (nI r0)).2.2.1 11) ((rulS (th S 0) (nI m0) (nI r0)).2.2.1 12) (nI m) d k = ruleL (S.2.2.1 10) (S.2.2.1 11) (S.2.2.1 12) (nI m) d k := by
        intro k
        induction k with
        | zero => intro _; rfl
        | succ k ih =>
          intro hk
          unfold ruleL
          rw [ih (by omega)]
          show (if upd (S.2.2.1 10) (S.1 9) (nI m0) k = _ ∧ upd (S.2.2.1 12) (S.1 9) (nI (S.1 1)) k ≤ d then upd (S.2.2.1 11) (S.1 9) (nI r0) k else _) = _
          rw [pk_un (by omega), pk_un (by omega), pk_un (by omega)]
      exact key _ (Nat.le_refl _)
    have hst : ∀ d, ruleL ((rulS (th S 0) (nI m0) (nI r0)).2.2.1 10) ((rulS (th S 0) (nI m0) (nI r0)).2.2.1 11) ((rulS (th S 0) (nI m0) (nI r0)).2.2.1 12) (nI m) (nI d) (K.1 9 + 1) = if nI m0 = nI m ∧ nI (S.1 1) ≤ nI d then nI r0 else ruleL (S.2.2.1 10) (S.2.2.1 11) (S.2.2.1 12) (nI m) (nI d) (K.1 9) := by
      intro d
      rw [ruleL_s, hrl]
      show (if upd (S.2.2.1 10) (S.1 9) (nI m0) (K.1 9) = _ ∧ upd (S.2.2.1 12) (S.1 9) (nI (S.1 1)) (K.1 9) ≤ _ then upd (S.2.2.1 11) (S.1 9) (nI r0) (K.1 9) else _) = _
      rw [h9, pk_us, pk_us, pk_us]
    by_cases e : m = m0
    · subst e
      rw [up_eq]
      refine ⟨fun d hd => ?_, tell_0.trans c2, ⟨K.1 1, Nat.le_refl _, tell_new⟩, fun i hi => ?_⟩
      · show _ = ruleL _ _ _ _ _ (K.1 9 + 1)
        rw [hst, chV_tell c2 c4 c3 hb1 (Nat.zero_le _) hd, c1 d hd, ← hN1]
        by_cases hle : K.1 1 ≤ d
        · rw [if_pos hle, if_pos ⟨rfl, nI_le hle (by omega)⟩]
        · rw [if_neg hle, if_neg (fun hh => nI_ge (by omega) (by omega) hh.2)]
      · by_cases e2 : ∃ j, j ≤ (kch K m).2.1 ∧ (tellS (kch K m) (nI (K.1 1)) (nI r0)).2.2.2 i = (kch K m).2.2.2 j
        · obtain ⟨j, j1, j2⟩ := e2
          rw [j2]
          exact c5 j j1
        · refine ⟨r0, by omega, ?_⟩
          have hik := tell_k (c := kch K m) (td := nI (K.1 1)) (x := nI r0)
          unfold tellS at hi e2 ⊢
          split at hi
          · rename_i q
            rw [if_pos q] at e2 ⊢
            by_cases ei : i = (kch K m).2.1
            · subst ei; exact pk_us
            · exact absurd ⟨i, hi, pk_un ei⟩ e2
          · rename_i q
            rw [if_neg q] at e2 ⊢
            split at hi
            · rename_i q2
              rw [if_pos q2] at e2 ⊢
              by_cases ei : i = (kch K m).2.1 + 1
              · subst ei; exact pk_us
              · exact absurd ⟨i, by have : i ≤ (kch K m).2.1 + 1 := hi; omega, pk_un ei⟩ e2
            · rename_i q2
              rw [if_neg q2] at e2 ⊢
              by_cases ei : i = (kch K m).2.1 + 1
              · subst ei; exact pk_us
              · exact absurd ⟨i, by have : i ≤ (kch K m).2.1 + 1 := hi; omega, by show upd (ext _ _) _ _ i = _; rw [pk_un ei]; exact if_pos (by have : i ≤ (kch K m).2.1 + 1 := hi; omega)⟩ e2
    · rw [up_ne e]
      obtain ⟨f1, f2⟩ := h.C.2.1 m hm
      refine ⟨fun d hd => ?_, f2⟩
      show _ = ruleL _ _ _ _ _ (K.1 9 + 1)
      rw [hst, if_neg (fun hh => e ((nI_eq (by omega) (by omega)).mp hh.1.symm)), f1 d hd]
  · intro c hc
    have : K.1 2 ≤ 6 := h.bd.2.1
    rw [up_ne (by unfold rch; omega)]
    exact h.C.2.2.1 c hc
end TIE8
