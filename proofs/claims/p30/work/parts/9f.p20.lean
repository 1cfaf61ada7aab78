/-! pass, first steps: one person takes a faith, or goes back, on both sides -/
section TIE20
variable {n : Nat} {K K1 : zK} {S S1 : zS}
/-- persons and their faiths alike -/
def dRk (K : zK) (S : zS) : Prop := K.1 1 = S.1 1 ∧ K.1 13 = S.1 13 ∧ K.1 13 ≤ 40 ∧ K.1 1 ≤ 30000 ∧ K.1 2 ≤ 6 ∧ cP (K.1 13) (kpe K) S.2.2.1 (S.2.2.2 19) ∧ cFt (K.1 1) (K.1 2) (K.1 13) (kch K) (kpe K) S.2.2.1
theorem tell_lt {c : zCh} {td : Nat} {x : Int32} (hne : ¬ c.2.2.1 c.2.1 = nI td) : (tellS c (nI td) x).2.1 = c.2.1 + 1 ∧ (∀ i, i ≤ c.2.1 → (tellS c (nI td) x).2.2.1 i = c.2.2.1 i ∧ (tellS c (nI td) x).2.2.2 i = c.2.2.2 i) ∧ (tellS c (nI td) x).2.2.1 (c.2.1 + 1) = nI td ∧ (tellS c (nI td) x).2.2.2 (c.2.1 + 1) = x := by
  unfold tellS
  rw [if_neg hne]
  split
  · exact ⟨rfl, fun i hi => ⟨pk_un (by omega), pk_un (by omega)⟩, pk_us, pk_us⟩
  · exact ⟨rfl, fun i hi => ⟨(pk_un (by omega)).trans (if_pos (by omega)), (pk_un (by omega)).trans (if_pos (by omega))⟩, pk_us, pk_us⟩
theorem dR_tell (h : dRk K S) {q v f0 : Nat} (hq : q < K.1 13) (hkp : ∀ p, p < K.1 13 → (kch K (100 + p)).2.1 ≤ 1000) (hne : ¬ (kch K (100 + q)).2.2.1 (kch K (100 + q)).2.1 = nI (K.1 1)) (hv : v < K.1 2) (hf : (kch K (rch v)).2.2.1 0 = nI f0) (hf0 : f0 ≤ K.1 1) : dRk (sch K (100 + q) (tellS (kch K (100 + q)) (nI (K.1 1)) (nI v))) (takesS S q (nI v)) := by
  obtain ⟨e1, e13, l13, l1, l2, hP, hF⟩ := h
  obtain ⟨t1, t2, t3, t4⟩ := tell_lt (x := nI v) hne
  refine ⟨e1, e13, l13, l1, l2, ?_, fun p hp => ?_⟩
  · exact hP
  · have hp : p < K.1 13 := hp
    have h6 := l2
    have hk := hkp q hq
    have hkp' := hkp p hp
    have hr : ∀ u, u < K.1 2 → va_up (kch K) (100 + q) (tellS (kch K (100 + q)) (nI (K.1 1)) (nI v)) (rch u) = kch K (rch u) := fun u hu => up_ne (by unfold rch; omega)
    obtain ⟨q1, q2, q3, q4⟩ := hF q hq
    have h20 : (S.2.2.1 20 q).toNatClampNeg = (kch K (100 + q)).2.1 + 1 := by rw [q1, nI_clamp (by omega)]
    show upd (S.2.2.1 20) q (S.2.2.1 20 q + 1) p = nI ((va_up (kch K) (100 + q) (tellS (kch K (100 + q)) (nI (K.1 1)) (nI v)) (100 + p)).2.1 + 1) ∧ (va_up (kch K) (100 + q) (tellS (kch K (100 + q)) (nI (K.1 1)) (nI v)) (100 + p)).2.2.1 0 = (kpe K p).2.2.2.1 ∧ (∀ i, i ≤ (va_up (kch K) (100 + q) (tellS (kch K (100 + q)) (nI (K.1 1)) (nI v)) (100 + p)).2.1 → ∃ e w f0, (va_up (kch K) (100 + q) (tellS (kch K (100 + q)) (nI (K.1 1)) (nI v)) (100 + p)).2.2.1 i = nI e ∧ e ≤ K.1 1 ∧ (va_up (kch K) (100 + q) (tellS (kch K (100 + q)) (nI (K.1 1)) (nI v)) (100 + p)).2.2.2 i = nI w ∧ w < K.1 2 ∧ upd (S.2.2.1 21) (1024 * q + (S.2.2.1 20 q).toNatClampNeg) (8 * nI (S.1 1) + nI v) (1024 * p + i) = nI (8 * e + w) ∧ (va_up (kch K) (100 + q) (tellS (kch K (100 + q)) (nI (K.1 1)) (nI v)) (rch w)).2.2.1 0 = nI f0 ∧ f0 ≤ e) ∧ ∀ i, i < (va_up (kch K) (100 + q) (tellS (kch K (100 + q)) (nI (K.1 1)) (nI v)) (100 + p)).2.1 → (va_up (kch K) (100 + q) (tellS (kch K (100 + q)) (nI (K.1 1)) (nI v)) (100 + p)).2.2.1 i < (va_up (kch K) (100 + q) (tellS (kch K (100 + q)) (nI (K.1 1)) (nI v)) (100 + p)).2.2.1 (i + 1)
    rw [h20]
    by_cases e : p = q
    · subst e
      rw [up_eq, pk_us, t1]
      refine ⟨by rw [q1]; exact (nI_succ _).symm, ?_, fun i hi => ?_, fun i hi => ?_⟩
      · rw [(t2 0 (Nat.zero_le _)).1]; exact q2
      · by_cases ei : i = (kch K (100 + p)).2.1 + 1
        · subst ei
          rw [t3, t4, pk_us]
          refine ⟨K.1 1, v, f0, rfl, Nat.le_refl _, rfl, hv, ?_, by rw [hr v hv]; exact hf, hf0⟩
          rw [← e1, show (8 : Int32) = nI 8 from rfl, pk_mul, nI_add]
        · obtain ⟨w1, w2⟩ := t2 i (by omega)
          obtain ⟨e', u, g0, d1, d2, d3, d4, d5, d6, d7⟩ := q3 i (by omega)
          rw [w1, w2, pk_un (by omega)]
          exact ⟨e', u, g0, d1, d2, d3, d4, d5, by rw [hr u d4]; exact d6, d7⟩
      · by_cases ei : i = (kch K (100 + p)).2.1
        · rw [(t2 i (by omega)).1, ei, t3]
          obtain ⟨e', u, g0, d1, d2, -⟩ := q3 _ (Nat.le_refl _)
          rw [d1] at hne ⊢
          have : e' < K.1 1 := by
            rcases Nat.lt_or_ge e' (K.1 1) with h1 | h1
            · exact h1
            · exact absurd (by rw [Nat.le_antisymm d2 h1]) hne
          rw [Int32.lt_iff_toInt_lt, nI_toInt (by omega), nI_toInt (by omega)]
          omega
        · rw [(t2 i (by omega)).1, (t2 (i + 1) (by omega)).1]
          exact q4 i (by omega)
    · rw [up_ne (show ¬ 100 + p = 100 + q by omega), pk_un e]
      obtain ⟨w1, w2, w3, w4⟩ := hF p hp
      refine ⟨w1, w2, fun i hi => ?_, w4⟩
      obtain ⟨e', u, g0, d1, d2, d3, d4, d5, d6, d7⟩ := w3 i hi
      refine ⟨e', u, g0, d1, d2, d3, d4, ?_, by rw [hr u d4]; exact d6, d7⟩
      rw [pk_un (by omega), d5]
theorem dR_drop (h : dRk K S) {q : Nat} (hq : q < K.1 13) (hk1 : 1 ≤ (kch K (100 + q)).2.1) : dRk (sch K (100 + q) (dropC (kch K (100 + q)))) (zsA S 20 (upd (S.2.2.1 20) q (nI (kch K (100 + q)).2.1))) := by
  obtain ⟨e1, e13, l13, l1, l2, hP, hF⟩ := h
  refine ⟨e1, e13, l13, l1, l2, hP, fun p hp => ?_⟩
  have hp : p < K.1 13 := hp
  have hr : ∀ u, u < K.1 2 → va_up (kch K) (100 + q) (dropC (kch K (100 + q))) (rch u) = kch K (rch u) := fun u hu => up_ne (by unfold rch; omega)
  obtain ⟨w1, w2, w3, w4⟩ := hF p hp
  show upd (S.2.2.1 20) q (nI (kch K (100 + q)).2.1) p = nI ((va_up (kch K) (100 + q) (dropC (kch K (100 + q))) (100 + p)).2.1 + 1) ∧ (va_up (kch K) (100 + q) (dropC (kch K (100 + q))) (100 + p)).2.2.1 0 = (kpe K p).2.2.2.1 ∧ (∀ i, i ≤ (va_up (kch K) (100 + q) (dropC (kch K (100 + q))) (100 + p)).2.1 → ∃ e w f0, (va_up (kch K) (100 + q) (dropC (kch K (100 + q))) (100 + p)).2.2.1 i = nI e ∧ e ≤ K.1 1 ∧ (va_up (kch K) (100 + q) (dropC (kch K (100 + q))) (100 + p)).2.2.2 i = nI w ∧ w < K.1 2 ∧ S.2.2.1 21 (1024 * p + i) = nI (8 * e + w) ∧ (va_up (kch K) (100 + q) (dropC (kch K (100 + q))) (rch w)).2.2.1 0 = nI f0 ∧ f0 ≤ e) ∧ ∀ i, i < (va_up (kch K) (100 + q) (dropC (kch K (100 + q))) (100 + p)).2.1 → (va_up (kch K) (100 + q) (dropC (kch K (100 + q))) (100 + p)).2.2.1 i < (va_up (kch K) (100 + q) (dropC (kch K (100 + q))) (100 + p)).2.2.1 (i + 1)
  have key : ∀ i, i ≤ (kch K (100 + p)).2.1 → ∃ e w f0, (kch K (100 + p)).2.2.1 i = nI e ∧ e ≤ K.1 1 ∧ (kch K (100 + p)).2.2.2 i = nI w ∧ w < K.1 2 ∧ S.2.2.1 21 (1024 * p + i) = nI (8 * e + w) ∧ (va_up (kch K) (100 + q) (dropC (kch K (100 + q))) (rch w)).2.2.1 0 = nI f0 ∧ f0 ≤ e := by
    intro i hi
    obtain ⟨e', u, g0, d1, d2, d3, d4, d5, d6, d7⟩ := w3 i hi
    exact ⟨e', u, g0, d1, d2, d3, d4, d5, by rw [hr u d4]; exact d6, d7⟩
  by_cases e : p = q
  · subst e
    rw [up_eq, pk_us]
    refine ⟨?_, w2, fun i hi => key i (by have : i ≤ (kch K (100 + p)).2.1 - 1 := hi; omega), fun i hi => w4 i (by have : i < (kch K (100 + p)).2.1 - 1 := hi; omega)⟩
    show _ = nI ((kch K (100 + p)).2.1 - 1 + 1)
    congr 1; omega
  · rw [up_ne (show ¬ 100 + p = 100 + q by omega), pk_un e]
    exact ⟨w1, w2, key, w4⟩
end TIE20
