/-! recognise, community -/
section TIE10
variable {n : Nat} {K K1 : zK} {S S1 : zS}
theorem recF_bt (f : Nat → Int32) (c : Nat) (on : Bool) (t : Nat) : ∀ r, t + r ≤ 30001 → ∀ c' d, d ≤ 30000 → bt (recF f c on t r (938 * c' + d / 32)) (d % 32) = if c' = c ∧ t ≤ d ∧ d < t + r then on else bt (f (938 * c' + d / 32)) (d % 32)
  | 0, _, c', d, _ => by rw [if_neg (by omega)]; rfl
  | r + 1, hr, c', d, hd => by
    have ih := recF_bt f c on t r (by omega) c' d hd
    show bt (upd (recF f c on t r) (938 * c + (t + r) / 32) _ (938 * c' + d / 32)) (d % 32) = _
    by_cases e : 938 * c' + d / 32 = 938 * c + (t + r) / 32
    · have ec : c' = c := by omega
      have ed : d / 32 = (t + r) / 32 := by omega
      rw [e, pk_us, recW_bt _ _ (by omega) _ _ (by omega), ← e]
      by_cases e2 : d % 32 = (t + r) % 32
      · rw [if_pos e2, if_pos (by omega)]
      · rw [if_neg e2, ih]
        by_cases e3 : c' = c ∧ t ≤ d ∧ d < t + r
        · rw [if_pos e3, if_pos (by omega)]
        · rw [if_neg e3, if_neg (by omega)]
    · rw [pk_un e, ih]
      by_cases e3 : c' = c ∧ t ≤ d ∧ d < t + r
      · rw [if_pos e3, if_pos (by omega)]
      · rw [if_neg e3, if_neg ?_]
        intro hh
        obtain ⟨rfl, h1, h2⟩ := hh
        have : d = t + r := by omega
        subst this
        exact e rfl
theorem b2i_d (b : Bool) : b2i (decide (b2i b = 1)) = b2i b := by cases b <;> rfl
theorem p_recognise (h : tie n K S) (hn : n < 512) (c : Int32) (on : Bool) : lcal tie n K (x_recognise K c) [1] (k_recognise K c on) (o_recognise S c on).1 (b2i (a_recognise K c) = (o_recognise S c on).2) := by
  unfold x_recognise o_recognise
  rw [h.N.2.1]
  by_cases e1 : zix c (S.1 2) = false
  · rw [if_pos e1, if_pos e1]
    exact lcal_thr h hn (okcd_1 (by decide)) 0 1 rfl
  rw [if_neg e1, if_neg e1]
  have hb1 := h.bd.1
  have hb2 := h.bd.2.1
  have hN1 := h.N.1
  have hN2 := h.N.2.1
  obtain ⟨j, hj, rfl⟩ := zix_of (bF e1) (by omega)
  unfold k_recognise a_recognise
  rw [nI_clamp (by omega)]
  obtain ⟨f0, t, f1, f2, f3, f4, f5⟩ := h.C.2.2.1 j (by omega)
  obtain ⟨g1, g2, g3, g4⟩ := tell_g h hn (i0 := rch j) (x := b2i on) (by unfold rch; omega)
  refine lcal_ok (okcd_1 (by decide)) rfl ?_ (tie_ch h hn (N1 := K.1) (g := va_up (kch K) (rch j) (tellS (kch K (rch j)) (nI (K.1 1)) (b2i on))) rfl (fun i _ _ => rfl) h.bd.2.2.1 h.bd.2.2.2.1 h.N.2.2.1 h.N.2.2.2.1 (fun i i0 _ _ => up_ne i0) rfl (fun i hi => up_ne (by omega)) rfl g1 g2 g3 g4 ?_ ?_ ?_) (Nat.le_of_eq (capF_lo g3 _).symm)
  · show b2i (decide (chN (kch K (rch j)) = 1)) = b2i (recBit S j (S.1 1))
    rw [← chV_new (c := kch K (rch j)) (d := nI (K.1 1)) (by rw [f4]; exact nI_le f2 (by omega)), f5 (K.1 1) (by omega) hb1, b2i_d, hN1]
    rfl
  · refine ⟨fun l w hl hw => ?_, h.C.1.2⟩
    rw [up_ne (by unfold lch rch; omega)]
    exact h.C.1.1 l w hl hw
  · intro m hm
    rw [up_ne (by unfold rch; omega)]
    exact h.C.2.1 m hm
  · intro c hc
    have hrb : ∀ d, d ≤ 30000 → bt ((recS (th S 0) j on).2.2.1 3 (938 * c + d / 32)) (d % 32) = if c = j ∧ K.1 1 ≤ d then on else bt (S.2.2.1 3 (938 * c + d / 32)) (d % 32) := by
      intro d hd
      show bt (recF (S.2.2.1 3) j on (S.1 1) (30001 - S.1 1) _) _ = _
      rw [recF_bt _ _ _ _ _ (by omega) _ _ hd]
      by_cases e : c = j ∧ K.1 1 ≤ d
      · rw [if_pos e, if_pos (by omega)]
      · rw [if_neg e, if_neg (by omega)]
    by_cases e : c = j
    · subst e
      rw [up_eq]
      refine ⟨f0, K.1 1, by omega, Nat.le_refl _, tell_0.trans f3, tell_new, fun d h1 h2 => ?_⟩
      rw [hrb d h2, chV_tell f3 f4 f2 hb1 h1 h2]
      by_cases hle : K.1 1 ≤ d
      · rw [if_pos hle, if_pos ⟨rfl, hle⟩]
      · rw [if_neg hle, if_neg (fun hh => hle hh.2), f5 d h1 h2]
    · rw [up_ne (by unfold rch; omega)]
      obtain ⟨g0, t', q1, q2, q3, q4, q5⟩ := h.C.2.2.1 c hc
      refine ⟨g0, t', q1, q2, q3, q4, fun d h1 h2 => ?_⟩
      rw [hrb d h2, if_neg (fun hh => e hh.1)]
      exact q5 d h1 h2
theorem lawL_no (a b c e : Nat → Int32) (l w d : Int32) : ∀ k, (∀ i, i < k → ¬ a i = l) → lawL a b c e l w d k = lawI w
  | 0, _ => rfl
  | k + 1, h => by rw [lawL_s, if_neg (fun hh => h k (Nat.lt_succ_self k) hh.1), lawL_no a b c e l w d k (fun i hi => h i (by omega))]
theorem lawI_w {w : Nat} (hw : w < 7) : lawI (nI w) = zLF w := by
  rcases (by omega : w = 0 ∨ w = 1 ∨ w = 2 ∨ w = 3 ∨ w = 4 ∨ w = 5 ∨ w = 6) with rfl | rfl | rfl | rfl | rfl | rfl | rfl <;> rfl
theorem ch0_W (a b : Int32) : chW (ch0 a b) := ⟨by show 0 + 1 ≤ 2; decide, Nat.le_refl 2, by show 2 ≤ 4096; decide⟩
theorem p_community (h : tie n K S) (hn : n < 512) : lcal tie n K (x_community K) [3] (newC K (nI (K.1 1))) (o_community S).1 (nI (K.1 2) = (o_community S).2) := by
  unfold x_community o_community
  have hb1 := h.bd.1
  have hb2 := h.bd.2.1
  have hN1 := h.N.1
  have hN2 := h.N.2.1
  by_cases e1 : S.1 2 = 6
  · rw [if_pos (decide_eq_false (by omega)), if_pos e1]
    exact lcal_thr h hn (okcd_1 (by decide)) 0 3 rfl
  rw [if_neg (by simp; omega), if_neg e1]
  have c_lo : ∀ i, ¬ (12 + 8 * K.1 2 ≤ i ∧ i < 20 + 8 * K.1 2) → comF (kch K) (K.1 2) (nI (K.1 1)) i = kch K i := fun i hi => if_neg hi
  have c_law : ∀ w, w < 7 → comF (kch K) (K.1 2) (nI (K.1 1)) (lch (K.1 2 + 1) w) = ch0 0 (zLF w) := by
    intro w hw
    unfold comF lch
    rw [if_pos (by omega), if_neg (by omega)]
    congr 2
    omega
  have c_rec : comF (kch K) (K.1 2) (nI (K.1 1)) (rch (K.1 2)) = ch0 (nI (K.1 1)) 1 := by
    unfold comF rch
    rw [if_pos (by omega), if_pos (by omega)]
  have c_p : ∀ p, comF (kch K) (K.1 2) (nI (K.1 1)) (100 + p) = kch K (100 + p) := fun p => c_lo _ (by omega)
  have c_r : ∀ c, c < K.1 2 → comF (kch K) (K.1 2) (nI (K.1 1)) (rch c) = kch K (rch c) := fun c hc => c_lo _ (by unfold rch; omega)
  obtain ⟨q1, q2, q3, q4⟩ := h.1.1.up hn
  obtain ⟨i1, ⟨i2, i2'⟩, ⟨i3, i4, i5⟩, i6, i7, i8⟩ := h.ik
  obtain ⟨b1, b2, b3, b4, b5, b6, b7⟩ := i1
  obtain ⟨a1, a2, a3, a4, a5, a6, a7, a8⟩ := h.N
  have hg : ∀ i, chW (comF (kch K) (K.1 2) (nI (K.1 1)) i) ∧ (comF (kch K) (K.1 2) (nI (K.1 1)) i).2.1 ≤ n + 1 := by
    intro i
    by_cases e : 12 + 8 * K.1 2 ≤ i ∧ i < 20 + 8 * K.1 2
    · unfold comF
      rw [if_pos e]
      split
      · exact ⟨ch0_W _ _, Nat.zero_le _⟩
      · exact ⟨ch0_W _ _, Nat.zero_le _⟩
    · rw [c_lo i e]; exact ⟨i2 i, q2 i⟩
  refine lcal_ok (okcd_1 (by decide)) rfl (by rw [hN2]) ⟨⟨⟨q1, fun i => (hg i).2, q3, fun q hq => ?_⟩, h.1.2.up⟩, ⟨⟨⟨b1, by show K.1 2 + 1 ≤ 6; omega, b3, b4, b5, b6, b7⟩, ⟨fun i => (hg i).1, fun p i hp hi => ?_⟩, ⟨i3, i4, i5⟩, i6, i7, fun s hs => ?_⟩, h.2.1.2⟩, ⟨a1, by show K.1 2 + 1 = S.1 2 + 1; omega, a3, a4, a5, a6, a7, a8⟩, ⟨h.P.1, fun p hp => ?_, h.P.2.2⟩, h.M, h.Su, ⟨fun l w hl hw => ?_, fun k hk => ?_⟩, fun m hm => ?_, fun c hc => ?_, fun p hp => ?_⟩ (Nat.le_of_eq (capF_lo c_p _).symm)
  · show (comF (kch K) (K.1 2) (nI (K.1 1)) (100 + q)).2.1 + _ ≤ _
    rw [c_p]
    exact q4 q hq
  · have hi : i ≤ (comF (kch K) (K.1 2) (nI (K.1 1)) (100 + p)).2.1 := hi
    show ∃ c, c < K.1 2 + 1 ∧ (comF (kch K) (K.1 2) (nI (K.1 1)) (100 + p)).2.2.2 i = _
    rw [c_p] at hi ⊢
    obtain ⟨c, c1, c2⟩ := i2' p i hp hi
    exact ⟨c, by omega, c2⟩
  · obtain ⟨l, l1, l2⟩ := i8 s hs
    exact ⟨l, by show l ≤ K.1 2 + 1; omega, l2⟩
  · obtain ⟨b, p1, p2, p3⟩ := h.P.2.1 p hp
    refine ⟨b, p1, p2, p3.imp id ?_⟩
    rintro ⟨r1, r2, c, e, r3, r4⟩
    exact ⟨r1, r2, c, e, by show c < K.1 2 + 1; omega, r4⟩
  · have hl : l ≤ K.1 2 + 1 := hl
    show (∀ d, d ≤ 30000 → chV (comF (kch K) (K.1 2) (nI (K.1 1)) (lch l w)) (nI d) = _) ∧ (comF (kch K) (K.1 2) (nI (K.1 1)) (lch l w)).2.2.1 0 = _ ∧ ∃ t, t ≤ K.1 1 ∧ (comF (kch K) (K.1 2) (nI (K.1 1)) (lch l w)).2.2.1 (comF (kch K) (K.1 2) (nI (K.1 1)) (lch l w)).2.1 = _
    by_cases e : l = K.1 2 + 1
    · subst e
      rw [c_law w hw]
      refine ⟨fun d hd => ?_, rfl, 0, Nat.zero_le _, rfl⟩
      show zLF w = lawL (S.2.2.1 5) (S.2.2.1 6) (S.2.2.1 7) (S.2.2.1 8) (nI (K.1 2)) (nI w) (nI d) (K.1 4)
      rw [lawL_no _ _ _ _ _ _ _ _ (fun i hi hh => ?_), lawI_w hw]
      rcases h.C.1.2 i hi with h2 | ⟨c, c1, c2⟩
      · exact nI_m1 (by omega) (hh.symm.trans h2)
      · have := (nI_eq (by omega) (by omega)).mp (hh.symm.trans c2); omega
    · rw [c_lo _ (by unfold lch; omega)]
      exact h.C.1.1 l w (by omega) hw
  · rcases h.C.1.2 k hk with h2 | ⟨c, c1, c2⟩
    · exact Or.inl h2
    · exact Or.inr ⟨c, by show c < K.1 2 + 1; omega, c2⟩
  · show (∀ d, d ≤ 30000 → chV (comF (kch K) (K.1 2) (nI (K.1 1)) m) (nI d) = _) ∧ (comF (kch K) (K.1 2) (nI (K.1 1)) m).2.2.1 0 = _ ∧ (∃ t, t ≤ K.1 1 ∧ (comF (kch K) (K.1 2) (nI (K.1 1)) m).2.2.1 (comF (kch K) (K.1 2) (nI (K.1 1)) m).2.1 = _) ∧ ∀ i, i ≤ (comF (kch K) (K.1 2) (nI (K.1 1)) m).2.1 → ∃ j, j < 4 ∧ (comF (kch K) (K.1 2) (nI (K.1 1)) m).2.2.2 i = _
    rw [c_lo _ (by omega)]
    exact h.C.2.1 m hm
  · have hc : c < K.1 2 + 1 := hc
    have hrb : ∀ d, d ≤ 30000 → bt ((zsN (recS (th S 0) (S.1 2) true) 2 (S.1 2 + 1)).2.2.1 3 (938 * c + d / 32)) (d % 32) = if c = S.1 2 ∧ K.1 1 ≤ d then true else bt (S.2.2.1 3 (938 * c + d / 32)) (d % 32) := by
      intro d hd
      show bt (recF (S.2.2.1 3) (S.1 2) true (S.1 1) (30001 - S.1 1) _) _ = _
      rw [recF_bt _ _ _ _ _ (by omega) _ _ hd]
      by_cases e : c = S.1 2 ∧ K.1 1 ≤ d
      · rw [if_pos e, if_pos (by omega)]
      · rw [if_neg e, if_neg (by omega)]
    show ∃ f0 t, f0 ≤ t ∧ t ≤ K.1 1 ∧ (comF (kch K) (K.1 2) (nI (K.1 1)) (rch c)).2.2.1 0 = _ ∧ (comF (kch K) (K.1 2) (nI (K.1 1)) (rch c)).2.2.1 (comF (kch K) (K.1 2) (nI (K.1 1)) (rch c)).2.1 = _ ∧ ∀ d, f0 ≤ d → d ≤ 30000 → chV (comF (kch K) (K.1 2) (nI (K.1 1)) (rch c)) (nI d) = _
    by_cases e : c = K.1 2
    · subst e
      rw [c_rec]
      refine ⟨K.1 1, K.1 1, Nat.le_refl _, Nat.le_refl _, rfl, rfl, fun d h1 h2 => ?_⟩
      rw [hrb d h2, if_pos ⟨hN2, h1⟩]
      rfl
    · rw [c_r c (by omega)]
      obtain ⟨g0, t', w1, w2, w3, w4, w5⟩ := h.C.2.2.1 c (by omega)
      refine ⟨g0, t', w1, w2, w3, w4, fun d h1 h2 => ?_⟩
      rw [hrb d h2, if_neg (fun hh => e (by omega))]
      exact w5 d h1 h2
  · show _ = nI ((comF (kch K) (K.1 2) (nI (K.1 1)) (100 + p)).2.1 + 1) ∧ (comF (kch K) (K.1 2) (nI (K.1 1)) (100 + p)).2.2.1 0 = _ ∧ (∀ i, i ≤ (comF (kch K) (K.1 2) (nI (K.1 1)) (100 + p)).2.1 → ∃ e v f0, (comF (kch K) (K.1 2) (nI (K.1 1)) (100 + p)).2.2.1 i = nI e ∧ e ≤ K.1 1 ∧ (comF (kch K) (K.1 2) (nI (K.1 1)) (100 + p)).2.2.2 i = nI v ∧ v < K.1 2 + 1 ∧ S.2.2.1 21 (1024 * p + i) = nI (8 * e + v) ∧ (comF (kch K) (K.1 2) (nI (K.1 1)) (rch v)).2.2.1 0 = nI f0 ∧ f0 ≤ e) ∧ ∀ i, i < (comF (kch K) (K.1 2) (nI (K.1 1)) (100 + p)).2.1 → (comF (kch K) (K.1 2) (nI (K.1 1)) (100 + p)).2.2.1 i < (comF (kch K) (K.1 2) (nI (K.1 1)) (100 + p)).2.2.1 (i + 1)
    rw [c_p]
    obtain ⟨w1, w2, w3, w4⟩ := h.C.2.2.2 p hp
    refine ⟨w1, w2, fun i hi => ?_, w4⟩
    obtain ⟨e, v, f0, d1, d2, d3, d4, d5, d6, d7⟩ := w3 i hi
    exact ⟨e, v, f0, d1, d2, d3, by omega, d5, by rw [c_r v d4]; exact d6, d7⟩
end TIE10
