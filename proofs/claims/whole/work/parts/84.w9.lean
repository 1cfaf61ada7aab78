/-! the start's picture with the reference's things and 'out' beside it -/
theorem lin0 (j : Nat) : linfo K0 j = none ∨ ∃ el, linfo K0 j = some (0, 0, nI 0, el) := by
  unfold linfo
  by_cases h0 : j = 0
  · rw [if_pos h0]; exact Or.inr ⟨_, rfl⟩
  by_cases h1 : j = 1
  · rw [if_neg h0, if_pos h1]; exact Or.inr ⟨_, rfl⟩
  by_cases h2 : j = 2
  · rw [if_neg h0, if_neg h1, if_pos h2]; exact Or.inr ⟨_, rfl⟩
  by_cases h3 : j = 3
  · rw [if_neg h0, if_neg h1, if_neg h2, if_pos h3]; exact Or.inr ⟨_, rfl⟩
  rw [if_neg h0, if_neg h1, if_neg h2, if_neg h3]
  by_cases h4 : j < 24
  · rw [if_pos h4, if_neg (by show ¬ (j - 4 < 0); omega)]; exact Or.inl rfl
  · rw [if_neg h4]; exact Or.inl rfl
theorem kva0 {g : zGh} {X : zg → Option va_E} {ad ad1 : zg → Nat} (h : ∀ x y, x < 14 → ad1 (x, y) = ad (x, y)) {u : zg} (hu : u.1 < 14) : kva g K0 ad1 X u = kva g K0 ad X u := by
  obtain ⟨a, b⟩ := u
  match a, hu with
  | 0, _ => simp [kva, mainE, h]
  | 1, _ => simp [kva, h]
  | 2, _ => simp [kva, h]
  | 3, _ => simp [kva, chrE, h]
  | 4, _ => rfl
  | 5, _ => rfl
  | 6, _ => simp [kva, h]
  | 7, _ =>
    rcases lin0 b with e | ⟨el, e⟩
    · simp [kva, e]
    · simp [kva, e, lisE]
  | 8, _ =>
    rcases lin0 b with e | ⟨el, e⟩
    · simp [kva, e]
    · simp [kva, e]
  | 9, _ => simp [kva, h]
  | 10, _ => simp [kva, K0]
  | 11, _ => simp [kva, K0]
  | 12, _ => simp [kva, K0]
  | 13, _ => simp [kva, K0]
theorem zLw0 {g : zGh} {M2 M4 : zM} {ad : zg → Nat} {mad : Nat → Nat} {mo o x : Nat} {e0 : va_E} (h2 : zP g K0 (fun _ => none) ad M2) (hx : ad (0, 0) = x) (hm : M2 mo = none) (hR : zR g (zup M2 mo e0) mo mad zS0 M4) (hf : ∀ j, j < 48 → 2 ≤ (zkd j).1 → zup M2 mo e0 (mad j) = none) (ho : M4 o = none) : ∃ ad1, zLw g mo mad o x K0 zS0 (fun _ => 0) ad1 (zup M4 o (zaj g 1 (fun _ => 0))) := by
  let ad1 : zg → Nat := fun t => if t.1 < 14 then ad t else if t = (14, 0) then mo else if t.1 = 15 then mad t.2 else o
  have a14 : ad1 (14, 0) = mo := rfl
  have a15 : ∀ j, ad1 (15, j) = mad j := fun j => by
    show (if (15 : Nat) < 14 then _ else if ((15, j) : zg) = (14, 0) then mo else if (15 : Nat) = 15 then mad j else o) = mad j
    rw [if_neg (by decide), if_neg (by intro h; cases h), if_pos rfl]
  have a16 : ad1 (16, 0) = o := rfl
  have alt : ∀ t : zg, t.1 < 14 → ad1 t = ad t := fun t h => if_pos h
  have hlt : ∀ t : zg, t.1 < 14 → ∀ X, kva g K0 ad1 X t = kva g K0 ad (fun _ => none) t := fun t h X => (kva0 (fun x y hx => alt (x, y) hx) h).trans (kva_lt h)
  -- what lives at a low tag lay there before
  have low : ∀ t : zg, t.1 < 14 → ∀ e, kva g K0 ad (fun _ => none) t = some e → M2 (ad t) = some e ∧ ad t ≠ mo ∧ (∀ j, j < 48 → 2 ≤ (zkd j).1 → ad t ≠ mad j) ∧ M4 (ad t) = some e ∧ ad t ≠ o := by
    intro t ht e he
    have h1 := h2.1 t e he
    have n1 : ad t ≠ mo := fun h => by rw [h, hm] at h1; cases h1
    have n2 : ∀ j, j < 48 → 2 ≤ (zkd j).1 → ad t ≠ mad j := fun j hj hk h => by
      have := hf j hj hk
      rw [← h, zup_ne n1, h1] at this
      cases this
    have h4 : M4 (ad t) = some e := by rw [hR.2.2.2 _ n1 n2, zup_ne n1, h1]
    exact ⟨h1, n1, n2, h4, fun h => by rw [h, ho] at h4; cases h4⟩
  have hmo4 := hR.1
  have nmo : mo ≠ o := fun h => by rw [h, ho] at hmo4; cases hmo4
  have nrow : ∀ j, j < 48 → 2 ≤ (zkd j).1 → mad j ≠ o := fun j hj hk h => by
    have := hR.2.1 j hj hk
    rw [h, ho] at this
    cases this
  -- the four kinds of living tags
  have kinds : ∀ t e, kva g K0 ad1 (X0 g mad zS0 (fun _ => 0)) t = some e → (t.1 < 14 ∧ kva g K0 ad (fun _ => none) t = some e) ∨ t = (14, 0) ∧ e = zob 9 ((List.range 48).map (zfv zS0 mad)) ∨ (∃ j, j < 48 ∧ 2 ≤ (zkd j).1 ∧ t = (15, j) ∧ e = zme g zS0 j) ∨ t = (16, 0) ∧ e = zaj g 1 (fun _ => 0) := by
    intro t e ht
    by_cases h14 : t.1 < 14
    · rw [hlt t h14] at ht
      exact Or.inl ⟨h14, ht⟩
    · rw [kva_ge (by omega)] at ht
      unfold X0 at ht
      split at ht
      · rename_i h; exact Or.inr (Or.inl ⟨h, (Option.some.inj ht).symm⟩)
      · split at ht
        · rename_i h
          exact Or.inr (Or.inr (Or.inl ⟨t.2, h.2.1, h.2.2, by rw [← h.1], (Option.some.inj ht).symm⟩))
        · split at ht
          · rename_i h; exact Or.inr (Or.inr (Or.inr ⟨h, (Option.some.inj ht).symm⟩))
          · cases ht
  refine ⟨ad1, ⟨fun t e ht => ?_, fun t u ht hu he => ?_⟩, a14, a15, a16, (alt (0, 0) (by decide)).trans hx⟩
  · rcases kinds t e ht with ⟨h14, h⟩ | ⟨rfl, rfl⟩ | ⟨j, hj, hk, rfl, rfl⟩ | ⟨rfl, rfl⟩
    · obtain ⟨-, -, -, h4, no⟩ := low t h14 e h
      rw [alt t h14, zup_ne no, h4]
    · rw [a14, zup_ne nmo, hmo4]
    · rw [a15, zup_ne (nrow j hj hk), hR.2.1 j hj hk]
    · rw [a16, zup_same]
  · obtain ⟨e, he1⟩ := Option.ne_none_iff_exists'.mp ht
    obtain ⟨f, hf1⟩ := Option.ne_none_iff_exists'.mp hu
    rcases kinds t e he1 with ⟨h14, h⟩ | ⟨rfl, rfl⟩ | ⟨j, hj, hk, rfl, rfl⟩ | ⟨rfl, rfl⟩ <;>
      rcases kinds u f hf1 with ⟨i14, i⟩ | ⟨rfl, rfl⟩ | ⟨j', hj', hk', rfl, rfl⟩ | ⟨rfl, rfl⟩
    · rw [alt t h14, alt u i14] at he
      exact h2.2 t u (by rw [h]; simp) (by rw [i]; simp) he
    · exact absurd (by rw [← a14, ← he, alt t h14]) (low t h14 e h).2.1
    · exact absurd (by rw [← a15, ← he, alt t h14]) ((low t h14 e h).2.2.1 j' hj' hk')
    · exact absurd (by rw [← a16, ← he, alt t h14]) (low t h14 e h).2.2.2.2
    · exact absurd (by rw [← a14, he, alt u i14]) (low u i14 f i).2.1
    · rfl
    · exact absurd (by rw [← a14, he, a15]) (hR.ne hj' hk')
    · exact absurd (by rw [← a14, he, a16]) nmo
    · exact absurd (by rw [← a15, he, alt u i14]) ((low u i14 f i).2.2.1 j hj hk)
    · exact absurd (by rw [← a14, ← he, a15]) (hR.ne hj hk)
    · rw [a15, a15] at he
      rw [hR.2.2.1 j j' hj hj' hk hk' he]
    · exact absurd (by rw [← a15, he, a16]) (nrow j hj hk)
    · exact absurd (by rw [← a16, he, alt u i14]) (low u i14 f i).2.2.2.2
    · exact absurd (by rw [← a14, ← he, a16]) nmo
    · exact absurd (by rw [← a15, ← he, a16]) (nrow j' hj' hk')
    · rfl
