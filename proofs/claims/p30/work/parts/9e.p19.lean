/-! the start; what the calls want -/
section TIE19
variable {n : Nat} {K K1 : zK} {S S1 : zS}
theorem tie_0 : tie 0 K0 zS0 := by
  refine ⟨⟨⟨Nat.zero_le _, fun i => Nat.le_refl 0, Nat.le_refl 0, fun q hq => absurd hq (Nat.not_lt_zero _)⟩, fun p hp => absurd hp (Nat.not_lt_zero _), by show (0 : Int) ≤ _; omega⟩, ⟨⟨⟨Nat.zero_le _, Nat.zero_le _, Nat.zero_le _, Nat.zero_le _, Nat.zero_le _, Nat.zero_le _, Nat.zero_le _⟩, ⟨fun i => ch0_W _ _, fun p i hp => absurd hp (Nat.not_lt_zero _)⟩, ⟨fun m hm => absurd hm (Nat.not_lt_zero _), fun m hm => absurd hm (Nat.not_lt_zero _), fun m hm => absurd hm (Nat.not_lt_zero _)⟩, fun s i hs => absurd hs (Nat.not_lt_zero _), fun s => Nat.zero_le _, fun s hs => absurd hs (Nat.not_lt_zero _)⟩, fun j => rfl⟩, ⟨rfl, rfl, rfl, rfl, rfl, rfl, rfl, rfl⟩,
    ⟨fun p hp => absurd hp (Nat.not_lt_zero _), fun p hp => absurd hp (Nat.not_lt_zero _), fun p _ _ => ⟨rfl, rfl, rfl⟩⟩, ⟨fun p hp => absurd hp (Nat.not_lt_zero _), fun p hp => absurd hp (Nat.not_lt_zero _), fun p _ _ => ⟨rfl, rfl, rfl⟩⟩, ⟨fun p hp => absurd hp (Nat.not_lt_zero _), fun p hp => absurd hp (Nat.not_lt_zero _), fun p _ _ => ⟨rfl, rfl, rfl, rfl, fun _ _ => rfl⟩, fun p hp => absurd hp (Nat.not_lt_zero _)⟩,
    ⟨fun l w hl hw => ?_, fun k hk => absurd hk (Nat.not_lt_zero _)⟩, fun m hm => ?_, fun p hp => absurd hp (Nat.not_lt_zero _), fun p hp => absurd hp (Nat.not_lt_zero _)⟩
  · obtain rfl : l = 0 := Nat.le_zero.mp hl
    refine ⟨fun d hd => ?_, rfl, 0, Nat.le_refl _, rfl⟩
    show (if lch 0 w < 4 then zRF (lch 0 w) else zLF (lch 0 w - 4)) = lawI (nI w)
    rw [if_neg (by unfold lch; omega), lawI_w hw]
    congr 1
    unfold lch; omega
  · refine ⟨fun d hd => ?_, rfl, ⟨0, Nat.le_refl _, rfl⟩, fun i hi => ?_⟩
    · show (if m < 4 then zRF m else _) = (if nI m = 3 then 1 else 0)
      rw [if_pos hm]
      rcases (by omega : m = 0 ∨ m = 1 ∨ m = 2 ∨ m = 3) with rfl | rfl | rfl | rfl <;> rfl
    · obtain rfl : i = 0 := Nat.le_zero.mp hi
      show ∃ j, j < 4 ∧ (if m < 4 then zRF m else _) = nI j
      rw [if_pos hm]
      rcases (by omega : m = 0 ∨ m = 1 ∨ m = 2 ∨ m = 3) with rfl | rfl | rfl | rfl
      · exact ⟨0, by decide, rfl⟩
      · exact ⟨0, by decide, rfl⟩
      · exact ⟨0, by decide, rfl⟩
      · exact ⟨1, by decide, rfl⟩
theorem capF_b {f : Nat → zCh} (h : ∀ i, chW (f i)) : ∀ m, capF f m ≤ 4096 * m
  | 0 => Nat.zero_le _
  | m + 1 => by
    rw [capF_s]
    have := capF_b h m
    have := (h (100 + m)).2.2
    omega
theorem pend_pd (h : tie n K S) : pendL (S.2.2.1 23) (S.1 13) = pdK (kpe K) (K.1 13) := by
  rw [← h.N.2.2.2.2.1]
  have key : ∀ m, m ≤ K.1 13 → pendL (S.2.2.1 23) m = pdK (kpe K) m := by
    intro m
    induction m with
    | zero => intro _; rfl
    | succ m ih =>
      intro hm
      rw [pdK_s, ← ih (by omega), ← (h.P.1 m (by omega)).2.2.2.2.2.2.2]
      rfl
  exact key _ (Nat.le_refl _)
theorem tie.iT (h : tie n K S) {p : Nat} (hp : p < K.1 13) : iT S p := by
  have := h.1.1.2.1 (100 + p)
  have := h.1.1.1
  exact ⟨(kch K (100 + p)).2.1, by omega, (h.C.2.2.2 p hp).1⟩
theorem tie.ok (h : tie n K S) : zOK K S := by
  have hn := h.1.1.1
  obtain ⟨b1, b2, b3, b4, b5, b6, b7⟩ := h.bd
  obtain ⟨a1, a2, a3, a4, a5, a6, a7, a8⟩ := h.N
  refine ⟨⟨h.ik, fun i => ?_, h.2.1.2, fun q hq => ?_, t_lt40 h, ?_⟩, ⟨a1 ▸ b1, a2 ▸ b2, a3 ▸ b3, a4 ▸ b4, a5 ▸ b5, a6 ▸ b6, a7 ▸ b7⟩, fun p hp => ?_, fun hh => (h.P.2.2 (S.1 13) (by omega) hh).2.2, fun m hm => ?_, fun s hs => ?_, fun p hp => h.iT (by omega), fun k hk => ?_, fun k hk => ?_⟩
  · have := h.1.1.2.1 i; omega
  · have := h.1.1.2.2.2 q hq; omega
  · have := capF_b h.ik.2.1.1 (K.1 13)
    show capF _ _ ≤ _
    omega
  · have hp' : p < K.1 13 := by omega
    obtain ⟨b, p1, p2, -⟩ := h.P.2.1 p hp'
    refine ⟨h.iT hp', ⟨b, by omega, by rw [(h.P.1 p hp').2.2.2.1]; exact p2⟩, fun d => ?_⟩
    rw [← t_faith h hp']
    obtain ⟨i, i1, i2, -⟩ := chOn_ix (kch K (100 + p)).2.2.1 (kch K (100 + p)).2.2.2 d (kch K (100 + p)).2.1
    obtain ⟨e, v, f0, -, -, q3, q4, -⟩ := (h.C.2.2.2 p hp').2.2.1 i i1
    exact ⟨v, by omega, i2.trans q3⟩
  · obtain ⟨r1, r2, -⟩ := h.M.1 m (by omega)
    obtain ⟨c1, c2, -⟩ := h.ik.2.2.1.1 m (by omega)
    exact ⟨_, _, by omega, by omega, r1, r2⟩
  · obtain ⟨r1, r2, -⟩ := h.Su.1 s (by omega)
    obtain ⟨c1, c2, -⟩ := h.ik.2.2.1.2.1 s (by omega)
    exact ⟨_, _, by omega, by omega, r1, r2⟩
  · refine ⟨(kch K (100 + k)).2.1, (h.C.2.2.2 k (by omega)).1, ?_⟩
    rw [pend_pd h]
    have := h.1.1.2.2.2 k (by omega)
    omega
  · obtain ⟨-, r2, r3, -⟩ := h.P.1 k (by omega)
    obtain ⟨p1, p2⟩ := h.ik.2.2.1.2.2 k (by omega)
    unfold iPar parentOf
    rw [r2, r3]
    cases e3 : (kpe K k).2.2.1 with
    | none =>
      rw [if_pos (show ocode none = -1 from rfl)]
      cases e2 : (kpe K k).2.1 with
      | none => exact Or.inl rfl
      | some q => exact Or.inr ⟨q, by have := p1 q e2; omega, rfl⟩
    | some q =>
      have := p2 q e3
      rw [if_neg (show ¬ ocode (some q) = -1 from nI_m1 (by omega))]
      exact Or.inr ⟨q, by omega, rfl⟩
end TIE19
