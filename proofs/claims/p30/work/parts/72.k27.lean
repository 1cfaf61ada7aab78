/-- what is no main object lies there still -/
def kp8 (M M1 : zM) : Prop := ∀ x e, M x = some e → (∀ fs, e ≠ zob 8 fs) → M1 x = some e
theorem kp8.ob {M M1 : zM} (h : kp8 M M1) {x ci : Nat} {fs : List Value} (hx : M x = some (zob ci fs)) (hc : ci ≠ 8) : M1 x = some (zob ci fs) := h _ _ hx (fun fs e => hc (by simp [zob] at e; exact e.1))
theorem kp8.ac {g : zGh} {M M1 : zM} (h : kp8 M M1) {x n : Nat} {f : Nat → Option Nat} (hx : M x = some (zac g n f)) : M1 x = some (zac g n f) := h _ _ hx (fun fs e => by simp [zob, zac] at e)
theorem kp8.chr {g : zGh} {M M1 : zM} (h : kp8 M M1) {q d n cap k : Nat} {fd fn : Nat → Int32} (hx : zChr g M q d n cap k fd fn) : zChr g M1 q d n cap k fd fn := ⟨h.ob hx.1 (by decide), h _ _ hx.2.1 (fun fs e => by simp [zob, zai] at e), h _ _ hx.2.2.1 (fun fs e => by simp [zob, zai] at e), hx.2.2.2⟩
theorem kp8_new {M : zM} {q : Nat} {e : va_E} (hq : M q = none) : kp8 M (zup M q e) := fun x f hx _ => by rw [zup_ne (znone hx hq)]; exact hx
theorem kp8_put {M : zM} {a : Nat} {fs : List Value} {e : va_E} (ha : M a = some (zob 8 fs)) : kp8 M (zup M a e) := fun x f hx hn => by
  rw [zup_ne (fun e2 => by rw [e2, ha] at hx; cases hx; exact hn _ rfl)]
  exact hx
theorem kp8_fr {M M1 : zM} (h : ∀ x e, M x = some e → M1 x = some e) : kp8 M M1 := fun x e hx _ => h x e hx
theorem kp8_set {M : zM} {q ci : Nat} {f0 f1 : List Value} (hq : M q = some (zob ci f0)) : ∀ x e, M x = some e → x ≠ q → zup M q (zob ci f1) x = some e := fun x e hx hn => by rw [zup_ne hn]; exact hx
def K0 : zK := (fun _ => 0, 0, fun i => ch0 0 (if i < 4 then zRF i else zLF (i - 4)), fun _ => (false, none, none, 0, false, 0, 0, 0, 0), fun _ => (0, 0, 0, 0, 0, false, false), fun _ => (0, 0, 0, 0, 0, false, 0, 0, false), fun _ => (0, fun _ => 0, fun _ => false), fun _ => none)
/-- the start's picture out of what the constructor made -/
theorem zP_K0 {g : zGh} {M : zM} {a q1 r7 r4 : Nat} {cA dA nA lA : Nat → Nat} (ha : M a = some (zob 8 [.ref q1, .ref (lA 0), .ref r4, .ref (lA 1), .ref (lA 2), .ref (lA 3), .int 0, .int 0, .int 0, .long 0])) (hq : M q1 = some (zob 3 [.ref r7])) (h7 : M r7 = some (zac g 7 (fun w => if w < 7 then some (cA (4 + w)) else none))) (h4 : M r4 = some (zac g 4 (fun w => if w < 4 then some (cA w) else none))) (hr : r7 ≠ r4)
    (hc : ∀ i, i < 11 → zChr g M (cA i) (dA i) (nA i) 2 0 (upd (fun _ => 0) 0 0) (upd (fun _ => 0) 0 (if i < 4 then zRF i else zLF (i - 4)))) (hcd : ∀ i j, i < 11 → j < 11 → i ≠ j → cA i ≠ cA j ∧ dA i ≠ dA j ∧ nA i ≠ nA j ∧ dA i ≠ nA j) (hl : ∀ j, j < 4 → M (lA j) = some (zob 0 [.int 0, .ref (g.2.2.2.1 4), .int 0])) (hld : ∀ i j, i < 4 → j < 4 → lA i = lA j → i = j) :
    ∃ ad, zP g K0 (fun _ => none) ad M ∧ ad (0, 0) = a := by
  obtain ⟨ad, had⟩ : ∃ ad : zg → Nat, ad = fun t => if t.1 = 0 then a else if t.1 = 1 then q1 else if t.1 = 2 then r7 else if t.1 = 3 then cA t.2 else if t.1 = 4 then dA t.2 else if t.1 = 5 then nA t.2 else if t.1 = 6 then r4 else lA t.2 := ⟨_, rfl⟩
  have e0 : ∀ b, ad (0, b) = a := fun b => by rw [had]; rfl
  have e1 : ∀ b, ad (1, b) = q1 := fun b => by rw [had]; rfl
  have e2 : ∀ b, ad (2, b) = r7 := fun b => by rw [had]; rfl
  have e3 : ∀ b, ad (3, b) = cA b := fun b => by rw [had]; rfl
  have e4 : ∀ b, ad (4, b) = dA b := fun b => by rw [had]; rfl
  have e5 : ∀ b, ad (5, b) = nA b := fun b => by rw [had]; rfl
  have e6 : ∀ b, ad (6, b) = r4 := fun b => by rw [had]; rfl
  have e7 : ∀ b, ad (7, b) = lA b := fun b => by rw [had]; rfl
  have li : ∀ b, b < 4 → ∃ el, linfo K0 b = some (0, 0, 0, el) := fun b hb => by
    have : b = 0 ∨ b = 1 ∨ b = 2 ∨ b = 3 := by omega
    rcases this with rfl | rfl | rfl | rfl <;> exact ⟨_, rfl⟩
  have lin : ∀ b, 4 ≤ b → linfo K0 b = none := fun b hb => by
    unfold linfo
    rw [if_neg (by omega), if_neg (by omega), if_neg (by omega), if_neg (by omega)]
    split
    · exact if_neg (Nat.not_lt_zero _)
    · rfl
  have al : ∀ t, kva g K0 ad (fun _ => none) t ≠ none → (t = (0, 0) ∨ t = (1, 0) ∨ t = (2, 0) ∨ t = (6, 0)) ∨ (∃ i, i < 11 ∧ (t = (3, i) ∨ t = (4, i) ∨ t = (5, i))) ∨ ∃ i, i < 4 ∧ t = (7, i) := fun t ht => by
    by_cases h14 : t.1 < 14
    · have h := alv_of ht
      obtain ⟨x, b⟩ := t
      have hchA : chA K0 b → b < 11 := fun h => by
        have h : b < 4 ∨ (4 ≤ b ∧ b < 12 + 8 * 0 ∧ b ≠ 11) ∨ (100 ≤ b ∧ b < 100 + 0) := h
        omega
      match x, h, h14 with
      | 0, h, _ => exact Or.inl (Or.inl (by rw [show b = 0 from h]))
      | 1, h, _ => exact Or.inl (Or.inr (Or.inl (by rw [show b = 0 from Nat.le_zero.mp h])))
      | 2, h, _ => exact Or.inl (Or.inr (Or.inr (Or.inl (by rw [show b = 0 from Nat.le_zero.mp h]))))
      | 3, h, _ => exact Or.inr (Or.inl ⟨b, hchA h, Or.inl rfl⟩)
      | 4, h, _ => exact Or.inr (Or.inl ⟨b, hchA h, Or.inr (Or.inl rfl)⟩)
      | 5, h, _ => exact Or.inr (Or.inl ⟨b, hchA h, Or.inr (Or.inr rfl)⟩)
      | 6, h, _ => exact Or.inl (Or.inr (Or.inr (Or.inr (by rw [show b = 0 from h]))))
      | 7, h, _ =>
        obtain ⟨q, e⟩ := h
        have e : linfo K0 b = some q := e
        refine Or.inr (Or.inr ⟨b, ?_, rfl⟩)
        apply Classical.byContradiction
        intro hn
        rw [lin b (by omega)] at e
        cases e
      | 8, h, _ =>
        obtain ⟨q, e, h0⟩ := h
        have e : linfo K0 b = some q := e
        by_cases hb : b < 4
        · obtain ⟨el, e2⟩ := li b hb
          rw [e2] at e
          cases e
          exact absurd rfl h0
        · rw [lin b (by omega)] at e
          cases e
      | 9, h, _ => exact absurd h (Nat.not_lt_zero _)
      | 10, h, _ => exact absurd h (Nat.not_lt_zero _)
      | 11, h, _ => exact absurd h (Nat.not_lt_zero _)
      | 12, h, _ => exact absurd h (Nat.not_lt_zero _)
      | 13, h, _ => exact absurd h.1 (Nat.not_lt_zero _)
    · obtain ⟨x, b⟩ := t
      obtain ⟨c, rfl⟩ : ∃ c, x = c + 14 := ⟨x - 14, by have : ¬ x < 14 := h14; omega⟩
      exact absurd rfl ht
  have hA : ∀ i, i < 11 → chA K0 i := fun i hi => by
    show i < 4 ∨ (4 ≤ i ∧ i < 12 + 8 * 0 ∧ i ≠ 11) ∨ (100 ≤ i ∧ i < 100 + 0)
    omega
  have hdn : ∀ i j, i < 11 → j < 11 → dA i ≠ nA j := fun i j hi hj => by
    by_cases e : i = j
    · subst e; exact (hc i hi).2.2.2.2.2
    · exact (hcd i j hi hj e).2.2.2
  refine ⟨ad, ⟨fun t e ht => ?_, fun t u ht hu he => ?_⟩, e0 0⟩
  · rcases al t (by rw [ht]; simp) with (rfl | rfl | rfl | rfl) | ⟨i, hi, rfl | rfl | rfl⟩ | ⟨i, hi, rfl⟩
    · have k : kva g K0 ad (fun _ => none) (0, 0) = some (zob 8 [.ref (ad (1, 0)), .ref (ad (7, 0)), .ref (ad (6, 0)), .ref (ad (7, 1)), .ref (ad (7, 2)), .ref (ad (7, 3)), .int 0, .int 0, .int 0, .long 0]) := rfl
      rw [k, e1, e7, e6, e7, e7, e7] at ht
      rw [e0, ha, ← ht]
    · have k : kva g K0 ad (fun _ => none) (1, 0) = some (zob 3 [.ref (ad (2, 0))]) := rfl
      rw [k, e2] at ht
      rw [e1, hq, ← ht]
    · have k : kva g K0 ad (fun _ => none) (2, 0) = some (zac g 7 (fun w => if w < 7 then some (ad (3, lch 0 w)) else none)) := rfl
      rw [k] at ht
      rw [e2, h7, ← ht]
      congr 2
      funext w
      rw [e3, show lch 0 w = 4 + w from by unfold lch; omega]
    · have k : kva g K0 ad (fun _ => none) (6, 0) = some (zac g 4 (fun w => if w < 4 then some (ad (3, w)) else none)) := rfl
      rw [k] at ht
      rw [e6, h4, ← ht]
      congr 2
      funext w
      rw [e3]
    · have k : kva g K0 ad (fun _ => none) (3, i) = some (zob 1 [.ref (ad (4, i)), .ref (ad (5, i)), .int (nI (0 + 1))]) := if_pos (hA i hi)
      rw [k, e4, e5] at ht
      rw [e3, (hc i hi).1, ← ht]
    · have k : kva g K0 ad (fun _ => none) (4, i) = some (zai g 2 (upd (fun _ => 0) 0 0)) := if_pos (hA i hi)
      rw [k] at ht
      rw [e4, (hc i hi).2.1, ← ht]
    · have k : kva g K0 ad (fun _ => none) (5, i) = some (zai g 2 (upd (fun _ => 0) 0 (if i < 4 then zRF i else zLF (i - 4)))) := if_pos (hA i hi)
      rw [k] at ht
      rw [e5, (hc i hi).2.2.1, ← ht]
    · obtain ⟨el, e2'⟩ := li i hi
      have k : kva g K0 ad (fun _ => none) (7, i) = some (zob 0 [.int 0, .ref (g.2.2.2.1 4), .int 0]) := by
        show (linfo K0 i).map (lisE g ad i) = _
        rw [e2']
        rfl
      rw [k] at ht
      rw [e7, hl i hi, ← ht]
  · have i3 : ∀ w v, w < 11 → v < 11 → cA w = cA v → w = v := fun w v hw hv e => Classical.byContradiction fun hn => (hcd w v hw hv hn).1 e
    have i4 : ∀ w v, w < 11 → v < 11 → dA w = dA v → w = v := fun w v hw hv e => Classical.byContradiction fun hn => (hcd w v hw hv hn).2.1 e
    have i5 : ∀ w v, w < 11 → v < 11 → nA w = nA v → w = v := fun w v hw hv e => Classical.byContradiction fun hn => (hcd w v hw hv hn).2.2.1 e
    have p1 : ∀ i, i < 11 → a ≠ cA i := fun i hi => zob_dif ha (hc i hi).1 (by decide)
    have p2 : ∀ i, i < 11 → a ≠ dA i := fun i hi => zob_ai ha (hc i hi).2.1
    have p3 : ∀ i, i < 11 → a ≠ nA i := fun i hi => zob_ai ha (hc i hi).2.2.1
    have p4 : ∀ i, i < 4 → a ≠ lA i := fun i hi => zob_dif ha (hl i hi) (by decide)
    have p5 : a ≠ q1 := zob_dif ha hq (by decide)
    have p6 : a ≠ r7 := zob_ac ha h7
    have p7 : a ≠ r4 := zob_ac ha h4
    have s1 : ∀ i, i < 11 → q1 ≠ cA i := fun i hi => zob_dif hq (hc i hi).1 (by decide)
    have s2 : ∀ i, i < 11 → q1 ≠ dA i := fun i hi => zob_ai hq (hc i hi).2.1
    have s3 : ∀ i, i < 11 → q1 ≠ nA i := fun i hi => zob_ai hq (hc i hi).2.2.1
    have s4 : ∀ i, i < 4 → q1 ≠ lA i := fun i hi => zob_dif hq (hl i hi) (by decide)
    have s6 : q1 ≠ r7 := zob_ac hq h7
    have s7 : q1 ≠ r4 := zob_ac hq h4
    have u1 : ∀ i, i < 11 → cA i ≠ r7 := fun i hi => zob_ac (hc i hi).1 h7
    have u2 : ∀ i, i < 11 → dA i ≠ r7 := fun i hi => zai_ac (hc i hi).2.1 h7
    have u3 : ∀ i, i < 11 → nA i ≠ r7 := fun i hi => zai_ac (hc i hi).2.2.1 h7
    have u4 : ∀ i, i < 4 → lA i ≠ r7 := fun i hi => zob_ac (hl i hi) h7
    have w1 : ∀ i, i < 11 → cA i ≠ r4 := fun i hi => zob_ac (hc i hi).1 h4
    have w2 : ∀ i, i < 11 → dA i ≠ r4 := fun i hi => zai_ac (hc i hi).2.1 h4
    have w3 : ∀ i, i < 11 → nA i ≠ r4 := fun i hi => zai_ac (hc i hi).2.2.1 h4
    have w4 : ∀ i, i < 4 → lA i ≠ r4 := fun i hi => zob_ac (hl i hi) h4
    have y1 : ∀ i j, i < 11 → j < 11 → cA i ≠ dA j := fun i j hi hj => zob_ai (hc i hi).1 (hc j hj).2.1
    have y2 : ∀ i j, i < 11 → j < 11 → cA i ≠ nA j := fun i j hi hj => zob_ai (hc i hi).1 (hc j hj).2.2.1
    have y3 : ∀ i j, i < 4 → j < 11 → lA i ≠ cA j := fun i j hi hj => zob_dif (hl i hi) (hc j hj).1 (by decide)
    have y4 : ∀ i j, i < 4 → j < 11 → lA i ≠ dA j := fun i j hi hj => zob_ai (hl i hi) (hc j hj).2.1
    have y5 : ∀ i j, i < 4 → j < 11 → lA i ≠ nA j := fun i j hi hj => zob_ai (hl i hi) (hc j hj).2.2.1
    rcases al t ht with (rfl | rfl | rfl | rfl) | ⟨i, hi, rfl | rfl | rfl⟩ | ⟨i, hi, rfl⟩ <;> rcases al u hu with (rfl | rfl | rfl | rfl) | ⟨v, hv, rfl | rfl | rfl⟩ | ⟨v, hv, rfl⟩ <;> simp only [e0, e1, e2, e3, e4, e5, e6, e7] at he <;>
    first
      | rfl
      | exact absurd he p5 | exact absurd he.symm p5 | exact absurd he p6 | exact absurd he.symm p6 | exact absurd he p7 | exact absurd he.symm p7
      | exact absurd he s6 | exact absurd he.symm s6 | exact absurd he s7 | exact absurd he.symm s7 | exact absurd he hr | exact absurd he.symm hr
      | exact absurd he (p1 _ hv) | exact absurd he.symm (p1 _ hi) | exact absurd he (p2 _ hv) | exact absurd he.symm (p2 _ hi) | exact absurd he (p3 _ hv) | exact absurd he.symm (p3 _ hi) | exact absurd he (p4 _ hv) | exact absurd he.symm (p4 _ hi)
      | exact absurd he (s1 _ hv) | exact absurd he.symm (s1 _ hi) | exact absurd he (s2 _ hv) | exact absurd he.symm (s2 _ hi) | exact absurd he (s3 _ hv) | exact absurd he.symm (s3 _ hi) | exact absurd he (s4 _ hv) | exact absurd he.symm (s4 _ hi)
      | exact absurd he (u1 _ hi) | exact absurd he.symm (u1 _ hv) | exact absurd he (u2 _ hi) | exact absurd he.symm (u2 _ hv) | exact absurd he (u3 _ hi) | exact absurd he.symm (u3 _ hv) | exact absurd he (u4 _ hi) | exact absurd he.symm (u4 _ hv)
      | exact absurd he (w1 _ hi) | exact absurd he.symm (w1 _ hv) | exact absurd he (w2 _ hi) | exact absurd he.symm (w2 _ hv) | exact absurd he (w3 _ hi) | exact absurd he.symm (w3 _ hv) | exact absurd he (w4 _ hi) | exact absurd he.symm (w4 _ hv)
      | exact absurd he (y1 _ _ hi hv) | exact absurd he.symm (y1 _ _ hv hi) | exact absurd he (y2 _ _ hi hv) | exact absurd he.symm (y2 _ _ hv hi) | exact absurd he (y3 _ _ hi hv) | exact absurd he.symm (y3 _ _ hv hi) | exact absurd he (y4 _ _ hi hv) | exact absurd he.symm (y4 _ _ hv hi) | exact absurd he (y5 _ _ hi hv) | exact absurd he.symm (y5 _ _ hv hi)
      | exact absurd he (hdn _ _ hi hv) | exact absurd he.symm (hdn _ _ hv hi)
      | rw [i3 _ _ hi hv he] | rw [i4 _ _ hi hv he] | rw [i5 _ _ hi hv he] | rw [hld _ _ hi hv he]
