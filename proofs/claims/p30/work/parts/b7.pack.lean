/-! the pack -/
theorem iJ_0 : iJ 0 K0 := by
  refine ⟨⟨rfl, Int.le_refl _⟩, ⟨fun p hp => absurd hp (Nat.not_lt_zero _), fun m hm => absurd hm (Nat.not_lt_zero _)⟩, fun m hm => absurd hm (Nat.not_lt_zero _), fun s hs => absurd hs (Nat.not_lt_zero _), fun l w hl hw i hi => ?_⟩
  have hl : l ≤ 0 := hl
  have hi : i ≤ 0 := hi
  obtain rfl : l = 0 := by omega
  obtain rfl : i = 0 := by omega
  match w, hw with
  | 0, _ => exact ⟨0, by decide, rfl⟩
  | 1, _ => exact ⟨2, by decide, rfl⟩
  | 2, _ => exact ⟨1, by decide, rfl⟩
  | 3, _ => exact ⟨25, by decide, rfl⟩
  | 4, _ => exact ⟨1, by decide, rfl⟩
  | 5, _ => exact ⟨0, by decide, rfl⟩
  | 6, _ => exact ⟨63, by decide, rfl⟩
theorem gs_of {n : Nat} {B : Int} {K : zK} {S : zS} (h : iJ B K) (ht : tie2 n K S) (hB : B ≤ 1000000 * n) : (allK K (K.1 13)).toInt = B ∧ 0 ≤ K.2.1.toInt ∧ gPer K ∧ gMar K ∧ lasS K (K.1 13) = 2 * cntL K (K.1 25) ∧ gSui K := by
  have hn := ht.1.1.1.1
  exact ⟨all_B h ht.1 (by omega), h.1.2, gPer_of h ht.1 ht.2.1, gMar_of h ht.1, las_of ht.1.ik.2.2.1.1, gSui_of h ht.1⟩
theorem dK_rd {K : zK} {j : Nat} {a b c d : Int32} (hj : j = 4 ∨ j = 5 ∨ j = 9 ∨ j = 20 ∨ j = 21 ∨ j = 22 ∨ j = 23) : True := trivial
theorem pack30 : pk30 T30 := by
  refine ⟨⟨⟨zS0, tie2_0, tie2_0⟩, iJ_0, iJ_0, Int.le_refl _⟩, fun n B Ko Kp h => ?_, fun n B Ko Kp h hn j a b c d hj => ⟨fun hx => ?_, fun hx => ((h.call hn j a b c d hj).2 hx)⟩, fun n B Ko Kp h hn h6 => ?_, fun n B Ko Kp h hn h40 q t ht => ?_, fun n B Ko Kp h hn t t1 t2 t3 => ?_, fun n B Ko Kp h => ?_, fun n B Ko Kp h => ?_, fun n B Ko Kp h hn h4 h8 v => quiet_of h hn h4 h8 v⟩
  · obtain ⟨o1, o2⟩ := h.ok
    have hc := h.cnt
    obtain ⟨⟨S, h1, h2⟩, h3, h4, h5⟩ := h
    have hn := h1.1.1.1.1
    exact ⟨o1, o2, hc, h1.1.bd.1, B_nn h3 h1.1, by omega⟩
  · obtain ⟨x2, e, t, ⟨f1, f2⟩, k1, k2, k3, k4, k5, k6, k7, k8⟩ := (h.call hn j a b c d hj).1 hx
    exact ⟨x2, e, t, f1, f2, k3, k4, k5, k6, k7, fun hh => i64nn (k8 hh)⟩
  · have hx : dX Ko 0 0 0 0 0 = 0 := by
      show x_community Ko = 0
      unfold x_community
      rw [decide_eq_true h6]
      rfl
    obtain ⟨x2, -, t, ⟨f1, f2⟩, -⟩ := (h.call hn 0 0 0 0 0 (by decide)).1 hx
    have eg : gdI 0 0 = 0 := rfl
    rw [eg, Int.add_zero] at t
    exact ⟨hx, x2, t, f1, f2⟩
  · have hb := (h.ok).1.1.1
    have e1 : nI t + 1 - 1 = nI t := by
      rw [show nI t + 1 = nI (t + 1) from nI_add t 1]
      exact nI_subN (b := 1) (by omega) (by have := hb.2.1; omega)
    have hdq : decide ((b2i q) = 1) = q := by cases q <;> rfl
    have hx0 : ∀ K : zK, K.1 13 < 40 → t < K.1 2 → K.1 2 ≤ 6 → x_person K (-1) (-1) (nI t) = 0 := fun K k13 kt k6 => by
      have e2 : okK K (nI t) = true := by unfold okK; rw [zix_t kt (by omega), Bool.or_true]
      unfold x_person
      rw [e2, decide_eq_true k13, show decide (nI t ≠ -1) = true from decide_eq_true (nI_m1 (by omega))]
      rfl
    have hx : dX Ko 6 (-1) (-1) (nI t + 1) (b2i q) = 0 := by
      show x_person Ko (-1) (-1) (nI t + 1 - 1) = 0
      rw [e1]
      exact hx0 Ko h40 ht hb.2.1
    obtain ⟨x2, -, tt, ⟨f1, f2⟩, -⟩ := (h.call hn 6 (-1) (-1) (nI t + 1) (b2i q) (by decide)).1 hx
    have eg : gdI 6 (-1) = 0 := rfl
    rw [eg, Int.add_zero] at tt
    have ek : ∀ K : zK, dK K 6 (-1) (-1) (nI t + 1) (b2i q) = k_person K q (-1) (-1) (nI t) := fun K => by
      show k_person K (decide (b2i q = 1)) (-1) (-1) (nI t + 1 - 1) = _
      rw [e1, hdq]
    have x2 : x_person Kp (-1) (-1) (nI t + 1 - 1) = 0 := x2
    have hx : x_person Ko (-1) (-1) (nI t + 1 - 1) = 0 := hx
    rw [e1] at x2 hx
    rw [ek, ek] at tt
    rw [ek] at f1 f2
    exact ⟨hx, x2, tt, f1, f2⟩
  · have hb := (h.ok).1.1.1
    have ec : (nI t).toNatClampNeg = t := nI_clamp (by omega)
    have hx : dX Ko 24 (nI t) 0 0 0 = 0 := by
      show x_pass Ko (nI t) = 0
      have e1 : wthn (nI t) 1 2000 = true := by
        unfold wthn
        rw [Bool.and_eq_true, decide_eq_true_eq, decide_eq_true_eq]
        exact ⟨ge_i (n := 1) t1 (by omega), ge_i (i := 2000) t2 (by decide)⟩
      have e2 : nI t ≤ 30000 - nI (Ko.1 1) := by
        rw [Int32.le_iff_toInt_le, show (30000 : Int32) = nI 30000 from rfl, pk_sub_toInt (by decide) (by omega), nI_toInt (by omega)]
        omega
      unfold x_pass
      rw [e1, decide_eq_true e2]
      rfl
    obtain ⟨x2, -, tt, ⟨f1, f2⟩, -⟩ := (h.call hn 24 (nI t) 0 0 0 (by decide)).1 hx
    have eg : gdI 24 0 = 0 := rfl
    rw [eg, Int.add_zero] at tt
    have ek : ∀ K : zK, dK K 24 (nI t) 0 0 0 = psK K t := fun K => by show psK K (nI t).toNatClampNeg = _; rw [ec]
    rw [ek, ek] at tt
    rw [ek] at f1 f2
    exact ⟨hx, x2, tt, f1, f2⟩
  · have hs := h
    obtain ⟨⟨S, h1, h2⟩, h3, h4, h5⟩ := h
    have hn := h1.1.1.1.1
    refine ⟨?_, ?_, fun hn2 j hj a b c d => ?_⟩
    · exact h1.1.N.2.2.2.2.2.2.2.trans h2.1.N.2.2.2.2.2.2.2.symm
    · exact i64_ext ((all_B h3 h1.1 (by omega)).trans (all_B h4 h2.1 (by omega)).symm)
    · have q := hs.call hn2 j a b c d (by omega)
      by_cases hx : dX Ko j a b c d = 0
      · obtain ⟨x2, e, -⟩ := q.1 hx
        rw [dR_of hx, dR_of x2]
        exact e
      · rw [dR_no hx, dR_no (q.2 hx)]
  · obtain ⟨⟨S, h1, h2⟩, h3, h4, h5⟩ := h
    exact ⟨gs_of h3 h1 h5, gs_of h4 h2 h5⟩
