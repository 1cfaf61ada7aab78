/-! the constructor, with what it leaves alone -/
theorem fr_none {M Mc : zM} {a x : Nat} {e0 : va_E} (fr : ∀ x e, M x = some e → x ≠ a → Mc x = some e) (hA : Mc a = some e0) (hx : Mc x = none) : M x = none := by
  cases h : M x with
  | none => rfl
  | some e =>
    have hn : x ≠ a := fun e2 => by rw [e2, hA] at hx; cases hx
    rw [fr x e h hn] at hx
    cases hx
theorem kx_end {α : Type} {A B C : α → Prop} {F : Prop} (h : ∃ x, A x ∧ B x ∧ C x) (f : F) : ∃ x, A x ∧ B x ∧ C x ∧ F := by
  obtain ⟨x, a, b, c⟩ := h
  exact ⟨x, a, b, c, f⟩
theorem zP_K0X {g : zGh} {M : zM} {a q1 r7 r4 : Nat} {cA dA nA lA : Nat → Nat} (ha : M a = some (zob 8 [.ref q1, .ref (lA 0), .ref r4, .ref (lA 1), .ref (lA 2), .ref (lA 3), .int 0, .int 0, .int 0, .long 0])) (hq : M q1 = some (zob 3 [.ref r7])) (h7 : M r7 = some (zac g 7 (fun w => if w < 7 then some (cA (4 + w)) else none))) (h4 : M r4 = some (zac g 4 (fun w => if w < 4 then some (cA w) else none))) (hr : r7 ≠ r4)
    (hc : ∀ i, i < 11 → zChr g M (cA i) (dA i) (nA i) 2 0 (upd (fun _ => 0) 0 0) (upd (fun _ => 0) 0 (if i < 4 then zRF i else zLF (i - 4)))) (hcd : ∀ i j, i < 11 → j < 11 → i ≠ j → cA i ≠ cA j ∧ dA i ≠ dA j ∧ nA i ≠ nA j ∧ dA i ≠ nA j) (hl : ∀ j, j < 4 → M (lA j) = some (zob 0 [.int 0, .ref (g.2.2.2.1 4), .int 0])) (hld : ∀ i j, i < 4 → j < 4 → lA i = lA j → i = j) (P : Nat → Prop) (hP : P q1 ∧ P r7 ∧ P r4 ∧ (∀ i, i < 11 → P (cA i) ∧ P (dA i) ∧ P (nA i)) ∧ ∀ j, j < 4 → P (lA j)) :
    ∃ ad, zP g K0 (fun _ => none) ad M ∧ ad (0, 0) = a ∧ ∀ t, kva g K0 ad (fun _ => none) t ≠ none → t = (0, 0) ∨ P (ad t) := by
  obtain ⟨ad, had⟩ : ∃ ad : zg → Nat, ad = fun t => if t.1 = 0 then a else if t.1 = 1 then q1 else if t.1 = 2 then r7 else if t.1 = 3 then cA t.2 else if t.1 = 4 then dA t.2 else if t.1 = 5 then nA t.2 else if t.1 = 6 then r4 else lA t.2 := ⟨_, rfl⟩
  have e0 : ∀ b, ad (0, b) = a := fun b => by rw [had]; rfl
  have e1 : ∀ b, ad (1, b) = q1 := fun b => by rw [had]; rfl
  have e2 : ∀ b, ad (2, b) = r7 := fun b => by rw [had]; rfl
  have e3 : ∀ b, ad (3, b) = cA b := fun b => by rw [had]; rfl
  have e4 : ∀ b, ad (4, b) = dA b := fun b => by rw [had]; rfl
  have e5 : ∀ b, ad (5, b) = nA b := fun b => by rw [had]; rfl
  have e6 : ∀ b, ad (6, b) = r4 := fun b => by rw [had]; rfl
  have e7 : ∀ b, ad (7, b) = lA b := fun b => by rw [had]; rfl
  have li : ∀ b, b < 4 → ∃ el, linfo K0 b = some (0, 0, 0, el) := fun b hb => by
    have : b = 0 ∨ b = 1 ∨ b = 2 ∨ b = 3 := by omega
    rcases this with rfl | rfl | rfl | rfl <;> exact ⟨_, rfl⟩
  have lin : ∀ b, 4 ≤ b → linfo K0 b = none := fun b hb => by
    unfold linfo
    rw [if_neg (by omega), if_neg (by omega), if_neg (by omega), if_neg (by omega)]
    split
    · exact if_neg (Nat.not_lt_zero _)
    · rfl
  have al : ∀ t, kva g K0 ad (fun _ => none) t ≠ none → (t = (0, 0) ∨ t = (1, 0) ∨ t = (2, 0) ∨ t = (6, 0)) ∨ (∃ i, i < 11 ∧ (t = (3, i) ∨ t = (4, i) ∨ t = (5, i))) ∨ ∃ i, i < 4 ∧ t = (7, i) := fun t ht => by
    by_cases h14 : t.1 < 14
    · have h := alv_of ht
      obtain ⟨x, b⟩ := t
      have hchA : chA K0 b → b < 11 := fun h => by
        have h : b < 4 ∨ (4 ≤ b ∧ b < 12 + 8 * 0 ∧ b ≠ 11) ∨ (100 ≤ b ∧ b < 100 + 0) := h
        omega
      match x, h, h14 with
      | 0, h, _ => exact Or.inl (Or.inl (by rw [show b = 0 from h]))
      | 1, h, _ => exact Or.inl (Or.inr (Or.inl (by rw [show b = 0 from Nat.le_zero.mp h])))
      | 2, h, _ => exact Or.inl (Or.inr (Or.inr (Or.inl (by rw [show b = 0 from Nat.le_zero.mp h]))))
      | 3, h, _ => exact Or.inr (Or.inl ⟨b, hchA h, Or.inl rfl⟩)
      | 4, h, _ => exact Or.inr (Or.inl ⟨b, hchA h, Or.inr (Or.inl rfl)⟩)
      | 5, h, _ => exact Or.inr (Or.inl ⟨b, hchA h, Or.inr (Or.inr rfl)⟩)
      | 6, h, _ => exact Or.inl (Or.inr (Or.inr (Or.inr (by rw [show b = 0 from h]))))
      | 7, h, _ =>
        obtain ⟨q, e⟩ := h
        have e : linfo K0 b = some q := e
        refine Or.inr (Or.inr ⟨b, ?_, rfl⟩)
        apply Classical.byContradiction
        intro hn
        rw [lin b (by omega)] at e
        cases e
      | 8, h, _ =>
        obtain ⟨q, e, h0⟩ := h
        have e : linfo K0 b = some q := e
        by_cases hb : b < 4
        · obtain ⟨el, e2⟩ := li b hb
          rw [e2] at e
          cases e
          exact absurd rfl h0
        · rw [lin b (by omega)] at e
          cases e
      | 9, h, _ => exact absurd h (Nat.not_lt_zero _)
      | 10, h, _ => exact absurd h (Nat.not_lt_zero _)
      | 11, h, _ => exact absurd h (Nat.not_lt_zero _)
      | 12, h, _ => exact absurd h (Nat.not_lt_zero _)
      | 13, h, _ => exact absurd h.1 (Nat.not_lt_zero _)
    · obtain ⟨x, b⟩ := t
      obtain ⟨c, rfl⟩ : ∃ c, x = c + 14 := ⟨x - 14, by have : ¬ x < 14 := h14; omega⟩
      exact absurd rfl ht
  have hA : ∀ i, i < 11 → chA K0 i := fun i hi => by
    show i < 4 ∨ (4 ≤ i ∧ i < 12 + 8 * 0 ∧ i ≠ 11) ∨ (100 ≤ i ∧ i < 100 + 0)
    omega
  have hdn : ∀ i j, i < 11 → j < 11 → dA i ≠ nA j := fun i j hi hj => by
    by_cases e : i = j
    · subst e; exact (hc i hi).2.2.2.2.2
    · exact (hcd i j hi hj e).2.2.2
  refine ⟨ad, ⟨fun t e ht => ?_, fun t u ht hu he => ?_⟩, e0 0, fun t ht => ?_⟩
  · rcases al t (by rw [ht]; simp) with (rfl | rfl | rfl | rfl) | ⟨i, hi, rfl | rfl | rfl⟩ | ⟨i, hi, rfl⟩
    · have k : kva g K0 ad (fun _ => none) (0, 0) = some (zob 8 [.ref (ad (1, 0)), .ref (ad (7, 0)), .ref (ad (6, 0)), .ref (ad (7, 1)), .ref (ad (7, 2)), .ref (ad (7, 3)), .int 0, .int 0, .int 0, .long 0]) := rfl
      rw [k, e1, e7, e6, e7, e7, e7] at ht
      rw [e0, ha, ← ht]
    · have k : kva g K0 ad (fun _ => none) (1, 0) = some (zob 3 [.ref (ad (2, 0))]) := rfl
      rw [k, e2] at ht
      rw [e1, hq, ← ht]
    · have k : kva g K0 ad (fun _ => none) (2, 0) = some (zac g 7 (fun w => if w < 7 then some (ad (3, lch 0 w)) else none)) := rfl
      rw [k] at ht
      rw [e2, h7, ← ht]
      congr 2
      funext w
      rw [e3, show lch 0 w = 4 + w from by unfold lch; omega]
    · have k : kva g K0 ad (fun _ => none) (6, 0) = some (zac g 4 (fun w => if w < 4 then some (ad (3, w)) else none)) := rfl
      rw [k] at ht
      rw [e6, h4, ← ht]
      congr 2
      funext w
      rw [e3]
    · have k : kva g K0 ad (fun _ => none) (3, i) = some (zob 1 [.ref (ad (4, i)), .ref (ad (5, i)), .int (nI (0 + 1))]) := if_pos (hA i hi)
      rw [k, e4, e5] at ht
      rw [e3, (hc i hi).1, ← ht]
    · have k : kva g K0 ad (fun _ => none) (4, i) = some (zai g 2 (upd (fun _ => 0) 0 0)) := if_pos (hA i hi)
      rw [k] at ht
      rw [e4, (hc i hi).2.1, ← ht]
    · have k : kva g K0 ad (fun _ => none) (5, i) = some (zai g 2 (upd (fun _ => 0) 0 (if i < 4 then zRF i else zLF (i - 4)))) := if_pos (hA i hi)
      rw [k] at ht
      rw [e5, (hc i hi).2.2.1, ← ht]
    · obtain ⟨el, e2'⟩ := li i hi
      have k : kva g K0 ad (fun _ => none) (7, i) = some (zob 0 [.int 0, .ref (g.2.2.2.1 4), .int 0]) := by
        show (linfo K0 i).map (lisE g ad i) = _
        rw [e2']
        rfl
      rw [k] at ht
      rw [e7, hl i hi, ← ht]
  · have i3 : ∀ w v, w < 11 → v < 11 → cA w = cA v → w = v := fun w v hw hv e => Classical.byContradiction fun hn => (hcd w v hw hv hn).1 e
    have i4 : ∀ w v, w < 11 → v < 11 → dA w = dA v → w = v := fun w v hw hv e => Classical.byContradiction fun hn => (hcd w v hw hv hn).2.1 e
    have i5 : ∀ w v, w < 11 → v < 11 → nA w = nA v → w = v := fun w v hw hv e => Classical.byContradiction fun hn => (hcd w v hw hv hn).2.2.1 e
    have p1 : ∀ i, i < 11 → a ≠ cA i := fun i hi => zob_dif ha (hc i hi).1 (by decide)
    have p2 : ∀ i, i < 11 → a ≠ dA i := fun i hi => zob_ai ha (hc i hi).2.1
    have p3 : ∀ i, i < 11 → a ≠ nA i := fun i hi => zob_ai ha (hc i hi).2.2.1
    have p4 : ∀ i, i < 4 → a ≠ lA i := fun i hi => zob_dif ha (hl i hi) (by decide)
    have p5 : a ≠ q1 := zob_dif ha hq (by decide)
    have p6 : a ≠ r7 := zob_ac ha h7
    have p7 : a ≠ r4 := zob_ac ha h4
    have s1 : ∀ i, i < 11 → q1 ≠ cA i := fun i hi => zob_dif hq (hc i hi).1 (by decide)
    have s2 : ∀ i, i < 11 → q1 ≠ dA i := fun i hi => zob_ai hq (hc i hi).2.1
    have s3 : ∀ i, i < 11 → q1 ≠ nA i := fun i hi => zob_ai hq (hc i hi).2.2.1
    have s4 : ∀ i, i < 4 → q1 ≠ lA i := fun i hi => zob_dif hq (hl i hi) (by decide)
    have s6 : q1 ≠ r7 := zob_ac hq h7
    have s7 : q1 ≠ r4 := zob_ac hq h4
    have u1 : ∀ i, i < 11 → cA i ≠ r7 := fun i hi => zob_ac (hc i hi).1 h7
    have u2 : ∀ i, i < 11 → dA i ≠ r7 := fun i hi => zai_ac (hc i hi).2.1 h7
    have u3 : ∀ i, i < 11 → nA i ≠ r7 := fun i hi => zai_ac (hc i hi).2.2.1 h7
    have u4 : ∀ i, i < 4 → lA i ≠ r7 := fun i hi => zob_ac (hl i hi) h7
    have w1 : ∀ i, i < 11 → cA i ≠ r4 := fun i hi => zob_ac (hc i hi).1 h4
    have w2 : ∀ i, i < 11 → dA i ≠ r4 := fun i hi => zai_ac (hc i hi).2.1 h4
    have w3 : ∀ i, i < 11 → nA i ≠ r4 := fun i hi => zai_ac (hc i hi).2.2.1 h4
    have w4 : ∀ i, i < 4 → lA i ≠ r4 := fun i hi => zob_ac (hl i hi) h4
    have y1 : ∀ i j, i < 11 → j < 11 → cA i ≠ dA j := fun i j hi hj => zob_ai (hc i hi).1 (hc j hj).2.1
    have y2 : ∀ i j, i < 11 → j < 11 → cA i ≠ nA j := fun i j hi hj => zob_ai (hc i hi).1 (hc j hj).2.2.1
    have y3 : ∀ i j, i < 4 → j < 11 → lA i ≠ cA j := fun i j hi hj => zob_dif (hl i hi) (hc j hj).1 (by decide)
    have y4 : ∀ i j, i < 4 → j < 11 → lA i ≠ dA j := fun i j hi hj => zob_ai (hl i hi) (hc j hj).2.1
    have y5 : ∀ i j, i < 4 → j < 11 → lA i ≠ nA j := fun i j hi hj => zob_ai (hl i hi) (hc j hj).2.2.1
    rcases al t ht with (rfl | rfl | rfl | rfl) | ⟨i, hi, rfl | rfl | rfl⟩ | ⟨i, hi, rfl⟩ <;> rcases al u hu with (rfl | rfl | rfl | rfl) | ⟨v, hv, rfl | rfl | rfl⟩ | ⟨v, hv, rfl⟩ <;> simp only [e0, e1, e2, e3, e4, e5, e6, e7] at he <;>
    first
      | rfl
      | exact absurd he p5 | exact absurd he.symm p5 | exact absurd he p6 | exact absurd he.symm p6 | exact absurd he p7 | exact absurd he.symm p7
      | exact absurd he s6 | exact absurd he.symm s6 | exact absurd he s7 | exact absurd he.symm s7 | exact absurd he hr | exact absurd he.symm hr
      | exact absurd he (p1 _ hv) | exact absurd he.symm (p1 _ hi) | exact absurd he (p2 _ hv) | exact absurd he.symm (p2 _ hi) | exact absurd he (p3 _ hv) | exact absurd he.symm (p3 _ hi) | exact absurd he (p4 _ hv) | exact absurd he.symm (p4 _ hi)
      | exact absurd he (s1 _ hv) | exact absurd he.symm (s1 _ hi) | exact absurd he (s2 _ hv) | exact absurd he.symm (s2 _ hi) | exact absurd he (s3 _ hv) | exact absurd he.symm (s3 _ hi) | exact absurd he (s4 _ hv) | exact absurd he.symm (s4 _ hi)
      | exact absurd he (u1 _ hi) | exact absurd he.symm (u1 _ hv) | exact absurd he (u2 _ hi) | exact absurd he.symm (u2 _ hv) | exact absurd he (u3 _ hi) | exact absurd he.symm (u3 _ hv) | exact absurd he (u4 _ hi) | exact absurd he.symm (u4 _ hv)
      | exact absurd he (w1 _ hi) | exact absurd he.symm (w1 _ hv) | exact absurd he (w2 _ hi) | exact absurd he.symm (w2 _ hv) | exact absurd he (w3 _ hi) | exact absurd he.symm (w3 _ hv) | exact absurd he (w4 _ hi) | exact absurd he.symm (w4 _ hv)
      | exact absurd he (y1 _ _ hi hv) | exact absurd he.symm (y1 _ _ hv hi) | exact absurd he (y2 _ _ hi hv) | exact absurd he.symm (y2 _ _ hv hi) | exact absurd he (y3 _ _ hi hv) | exact absurd he.symm (y3 _ _ hv hi) | exact absurd he (y4 _ _ hi hv) | exact absurd he.symm (y4 _ _ hv hi) | exact absurd he (y5 _ _ hi hv) | exact absurd he.symm (y5 _ _ hv hi)
      | exact absurd he (hdn _ _ hi hv) | exact absurd he.symm (hdn _ _ hv hi)
      | rw [i3 _ _ hi hv he] | rw [i4 _ _ hi hv he] | rw [i5 _ _ hi hv he] | rw [hld _ _ hi hv he]
  · rcases al t ht with (rfl | rfl | rfl | rfl) | ⟨i, hi, rfl | rfl | rfl⟩ | ⟨i, hi, rfl⟩
    · exact Or.inl rfl
    · exact Or.inr (by rw [e1]; exact hP.1)
    · exact Or.inr (by rw [e2]; exact hP.2.1)
    · exact Or.inr (by rw [e6]; exact hP.2.2.1)
    · exact Or.inr (by rw [e3]; exact (hP.2.2.2.1 i hi).1)
    · exact Or.inr (by rw [e4]; exact (hP.2.2.2.1 i hi).2.1)
    · exact Or.inr (by rw [e5]; exact (hP.2.2.2.1 i hi).2.2)
    · exact Or.inr (by rw [e7]; exact hP.2.2.2.2 i hi)
set_option maxRecDepth 100000 in
set_option maxHeartbeats 1000000 in
theorem k_initX {g : zGh} {M : zM} {a : Nat} (hA : M a = some (zob 8 [.null, .null, .null, .null, .null, .null, .int 0, .int 0, .int 0, .long 0])) : zCt g yX7_init cX7_init 1 none 4 84 mkV [.ref a] M 40 101 (fun v M1 => ∃ ad, zP g K0 (fun _ => none) ad M1 ∧ ad (0, 0) = a ∧ (∀ t, kva g K0 ad (fun _ => none) t ≠ none → t = (0, 0) ∨ M (ad t) = none) ∧ ∀ x e, M x = some e → x ≠ a → M1 x = some e) noX := by
  refine zof [some (.ref a)] (by decide +kernel) rfl rfl (Nat.le_of_ble_eq_true rfl) ?_
  intro X C hE hnm
  have C : zC g X RX7 cX7_init 1 4 84 40 101 := C
  refine zaload_n C dX7_init_0 rfl ?_
  refine zobj C hl_X7_1 hoi1 hoi2 rfl (by decide) (by decide) dX7_init_1 ?_
  refine zaload_n C dX7_init_4 rfl ?_
  refine znew C hw_X7_7 rfl (by omega) (by omega) dX7_init_5 (fun q1 hq1 => ?_)
  refine zdup C dX7_init_8 rfl ?_
  refine zcallIN C (w_init zup_same) hy_X2_init hi_X2_init hn_X7_9 rfl rfl (by decide) (by decide) (by omega) (by omega) rfl (by exact Nat.le_of_ble_eq_true rfl) dX7_init_9 (fun M9 hM9 => ?_)
  obtain ⟨r7, cq, dq, nq, M2, hF, hM9⟩ := hM9
  have haq : a ≠ q1 := znone hA hq1
  have hA2 : M2 a = some (zob 8 _) := hF.2.2.2.2.2 _ _ (by rw [zup_ne haq]; exact hA)
  have hq2 : M2 q1 = some (zob 3 [.null]) := hF.2.2.2.2.2 _ _ zup_same
  have f1 : M9 q1 = some (zob 3 [.ref r7]) := by rw [hM9]; exact zup_same
  have hk9 : ∀ x e, M2 x = some e → x ≠ q1 → M9 x = some e := by rw [hM9]; exact kp8_set hq2
  have nq1 : ∀ x, zup M q1 (zob 3 [.null]) x = none → x ≠ q1 := fun x hx e => by rw [e, zup_same] at hx; cases hx
  have f2 := hk9 _ _ hF.1 (nq1 _ hF.2.2.1)
  have f3 : ∀ w, w < 7 → zChr g M9 (cq w) (dq w) (nq w) 2 0 (upd (fun _ => 0) 0 0) (upd (fun _ => 0) 0 (zLF w)) := fun w hw => (hF.2.1 w hw).keep (fun x e hx hxx => hk9 x e hx (nq1 x (by
      obtain ⟨z1, z2, z3⟩ := hF.2.2.2.1 w hw
      rcases hxx with rfl | rfl | rfl
      · exact z1
      · exact z2
      · exact z3)))
  have f3d := hF.2.2.2.2.1
  have hA : M9 a = some (zob 8 _) := hk9 _ _ hA2 haq
  have fr : ∀ x e, M x = some e → x ≠ a → M9 x = some e := fun x e hx hn => by
    have h1 : x ≠ q1 := fun e2 => by rw [e2, hq1] at hx; cases hx
    exact hk9 x e (hF.2.2.2.2.2 x e (by rw [zup_ne h1]; exact hx)) h1
  have z0 : ∀ x, zup M q1 (zob 3 [.null]) x = none → M x = none := fun x hx => by have h1 := nq1 x hx; rw [zup_ne h1] at hx; exact hx
  have g7 : M r7 = none := z0 _ hF.2.2.1
  have gc : ∀ w, w < 7 → M (cq w) = none ∧ M (dq w) = none ∧ M (nq w) = none := fun w hw => by obtain ⟨z1, z2, z3⟩ := hF.2.2.2.1 w hw; exact ⟨z0 _ z1, z0 _ z2, z0 _ z3⟩
  clear z0
  clear hF hk9 nq1 hA2 hq2
  refine zputF (fs1 := [_, _, _, _, _, _, _, _, _, _]) C hnm hf_X7_10 hp_X7 rfl rfl hA rfl rfl (by exact Nat.le_of_ble_eq_true rfl) (by rfl) dX7_init_12 ?_
  generalize hM12 : zup _ a (zob 8 _) = M12
  replace fr : ∀ x e, M x = some e → x ≠ a → M12 x = some e := fun x e hx hn => by rw [← hM12, zup_ne hn]; exact fr x e hx hn
  have hk := kp8_putE hA hM12
  replace f1 := hk.ob f1 (by decide)
  replace f2 := hk.ac f2
  replace f3 := fun w hw => hk.chr (f3 w hw)
  have hA := zup_sameE hM12
  refine zaload_n C dX7_init_15 rfl ?_
  refine znew C hw_X7_16 rfl (by omega) (by omega) dX7_init_16 (fun l0 hl00 => ?_)
  refine zdup C dX7_init_19 rfl ?_
  refine zcallI C (l_init zup_same) hy_Jx4a65c_init_da8c8 hi_Jx4a65c_init_da8c8 hl_X7_18 rfl rfl (by decide) (by decide) (by omega) (by omega) rfl (by exact Nat.le_of_ble_eq_true rfl) dX7_init_20 (fun Ml0 hMl0 => ?_)
  rw [zup_up2] at hMl0
  have gl0 : M l0 = none := fr_none fr hA hl00
  replace fr : ∀ x e, M x = some e → x ≠ a → Ml0 x = some e := fun x e hx hn => by rw [hMl0, zup_ne (znone (fr x e hx hn) hl00)]; exact fr x e hx hn
  have hk := kp8_new (e := zob 0 [.int 0, .ref (g.2.2.2.1 4), .int 0]) hl00
  rw [← hMl0] at hk
  replace f1 := hk.ob f1 (by decide)
  replace f2 := hk.ac f2
  replace f3 := fun w hw => hk.chr (f3 w hw)
  have hA := zup_neE hMl0 (znone hA hl00) hA
  have fl0 : Ml0 l0 = some (zob 0 [.int 0, .ref (g.2.2.2.1 4), .int 0]) := by rw [hMl0]; exact zup_same
  refine zputF (fs1 := [_, _, _, _, _, _, _, _, _, _]) C hnm hf_X7_19 hp_X7 rfl rfl hA rfl rfl (by exact Nat.le_of_ble_eq_true rfl) (by rfl) dX7_init_23 ?_
  generalize hM23 : zup _ a (zob 8 _) = M23
  replace fr : ∀ x e, M x = some e → x ≠ a → M23 x = some e := fun x e hx hn => by rw [← hM23, zup_ne hn]; exact fr x e hx hn
  have hk := kp8_putE hA hM23
  replace f1 := hk.ob f1 (by decide)
  replace f2 := hk.ac f2
  replace f3 := fun w hw => hk.chr (f3 w hw)
  replace fl0 := hk.ob fl0 (by decide)
  have hA := zup_sameE hM23
  refine zaload_n C dX7_init_26 rfl ?_
  refine zgets C C.2.2.2.2.2.1.2.2.1.2.1.2.2.2.1 hs_X7_23 dX7_init_27 ?_
  refine zcallS C c_fromR hy_X7_chroniclesFrom hst_X7_chroniclesFrom hl_X7_27 rfl rfl (by decide) (by decide) (by omega) (by omega) rfl (by exact Nat.le_of_ble_eq_true rfl) dX7_init_30 (fun r4 M30 hp30 => ?_)
  obtain ⟨c4, d4, n4, hF⟩ := hp30
  have g4 : M r4 = none := fr_none fr hA hF.2.2.1
  have g5 : ∀ w, w < 4 → M (c4 w) = none ∧ M (d4 w) = none ∧ M (n4 w) = none := fun w hw => by obtain ⟨z1, z2, z3⟩ := hF.2.2.2.1 w hw; exact ⟨fr_none fr hA z1, fr_none fr hA z2, fr_none fr hA z3⟩
  replace fr : ∀ x e, M x = some e → x ≠ a → M30 x = some e := fun x e hx hn => hF.2.2.2.2.2 _ _ (fr x e hx hn)
  have hk := kp8_fr hF.2.2.2.2.2
  have hr74 : r7 ≠ r4 := znone f2 hF.2.2.1
  have x1 : ∀ w v, w < 7 → v < 4 → cq w ≠ c4 v ∧ dq w ≠ d4 v ∧ nq w ≠ n4 v ∧ dq w ≠ n4 v ∧ nq w ≠ d4 v := fun w v hw hv => ⟨znone (f3 w hw).1 (hF.2.2.2.1 v hv).1, znone (f3 w hw).2.1 (hF.2.2.2.1 v hv).2.1, znone (f3 w hw).2.2.1 (hF.2.2.2.1 v hv).2.2, znone (f3 w hw).2.1 (hF.2.2.2.1 v hv).2.2, znone (f3 w hw).2.2.1 (hF.2.2.2.1 v hv).2.1⟩
  replace f1 := hk.ob f1 (by decide)
  replace f2 := hk.ac f2
  replace f3 := fun w hw => hk.chr (f3 w hw)
  replace fl0 := hk.ob fl0 (by decide)
  have hA : M30 a = some (zob 8 _) := hF.2.2.2.2.2 _ _ hA
  have f4 := hF.1
  have f5 := hF.2.1
  have f5d := hF.2.2.2.2.1
  clear hF
  refine zputF (fs1 := [_, _, _, _, _, _, _, _, _, _]) C hnm hf_X7_31 hp_X7 rfl rfl hA rfl rfl (by exact Nat.le_of_ble_eq_true rfl) (by rfl) dX7_init_33 ?_
  generalize hM33 : zup _ a (zob 8 _) = M33
  replace fr : ∀ x e, M x = some e → x ≠ a → M33 x = some e := fun x e hx hn => by rw [← hM33, zup_ne hn]; exact fr x e hx hn
  have hk := kp8_putE hA hM33
  replace f1 := hk.ob f1 (by decide)
  replace f2 := hk.ac f2
  replace f3 := fun w hw => hk.chr (f3 w hw)
  replace fl0 := hk.ob fl0 (by decide)
  replace f4 := hk.ac f4
  replace f5 := fun w hw => hk.chr (f5 w hw)
  have hA := zup_sameE hM33
  refine zaload_n C dX7_init_36 rfl ?_
  refine znew C hw_X7_16 rfl (by omega) (by omega) dX7_init_37 (fun l1 hl10 => ?_)
  refine zdup C dX7_init_40 rfl ?_
  refine zcallI C (l_init zup_same) hy_Jx4a65c_init_da8c8 hi_Jx4a65c_init_da8c8 hl_X7_18 rfl rfl (by decide) (by decide) (by omega) (by omega) rfl (by exact Nat.le_of_ble_eq_true rfl) dX7_init_41 (fun Ml1 hMl1 => ?_)
  rw [zup_up2] at hMl1
  have gl1 : M l1 = none := fr_none fr hA hl10
  replace fr : ∀ x e, M x = some e → x ≠ a → Ml1 x = some e := fun x e hx hn => by rw [hMl1, zup_ne (znone (fr x e hx hn) hl10)]; exact fr x e hx hn
  have hk := kp8_new (e := zob 0 [.int 0, .ref (g.2.2.2.1 4), .int 0]) hl10
  rw [← hMl1] at hk
  have d10 : l0 ≠ l1 := znone fl0 hl10
  replace f1 := hk.ob f1 (by decide)
  replace f2 := hk.ac f2
  replace f3 := fun w hw => hk.chr (f3 w hw)
  replace fl0 := hk.ob fl0 (by decide)
  replace f4 := hk.ac f4
  replace f5 := fun w hw => hk.chr (f5 w hw)
  have hA := zup_neE hMl1 (znone hA hl10) hA
  have fl1 : Ml1 l1 = some (zob 0 [.int 0, .ref (g.2.2.2.1 4), .int 0]) := by rw [hMl1]; exact zup_same
  refine zputF (fs1 := [_, _, _, _, _, _, _, _, _, _]) C hnm hf_X7_35 hp_X7 rfl rfl hA rfl rfl (by exact Nat.le_of_ble_eq_true rfl) (by rfl) dX7_init_44 ?_
  generalize hM44 : zup _ a (zob 8 _) = M44
  replace fr : ∀ x e, M x = some e → x ≠ a → M44 x = some e := fun x e hx hn => by rw [← hM44, zup_ne hn]; exact fr x e hx hn
  have hk := kp8_putE hA hM44
  replace f1 := hk.ob f1 (by decide)
  replace f2 := hk.ac f2
  replace f3 := fun w hw => hk.chr (f3 w hw)
  replace fl0 := hk.ob fl0 (by decide)
  replace f4 := hk.ac f4
  replace f5 := fun w hw => hk.chr (f5 w hw)
  replace fl1 := hk.ob fl1 (by decide)
  have hA := zup_sameE hM44
  refine zaload_n C dX7_init_47 rfl ?_
  refine znew C hw_X7_16 rfl (by omega) (by omega) dX7_init_48 (fun l2 hl20 => ?_)
  refine zdup C dX7_init_51 rfl ?_
  refine zcallI C (l_init zup_same) hy_Jx4a65c_init_da8c8 hi_Jx4a65c_init_da8c8 hl_X7_18 rfl rfl (by decide) (by decide) (by omega) (by omega) rfl (by exact Nat.le_of_ble_eq_true rfl) dX7_init_52 (fun Ml2 hMl2 => ?_)
  rw [zup_up2] at hMl2
  have gl2 : M l2 = none := fr_none fr hA hl20
  replace fr : ∀ x e, M x = some e → x ≠ a → Ml2 x = some e := fun x e hx hn => by rw [hMl2, zup_ne (znone (fr x e hx hn) hl20)]; exact fr x e hx hn
  have hk := kp8_new (e := zob 0 [.int 0, .ref (g.2.2.2.1 4), .int 0]) hl20
  rw [← hMl2] at hk
  have d20 : l0 ≠ l2 := znone fl0 hl20
  have d21 : l1 ≠ l2 := znone fl1 hl20
  replace f1 := hk.ob f1 (by decide)
  replace f2 := hk.ac f2
  replace f3 := fun w hw => hk.chr (f3 w hw)
  replace fl0 := hk.ob fl0 (by decide)
  replace f4 := hk.ac f4
  replace f5 := fun w hw => hk.chr (f5 w hw)
  replace fl1 := hk.ob fl1 (by decide)
  have hA := zup_neE hMl2 (znone hA hl20) hA
  have fl2 : Ml2 l2 = some (zob 0 [.int 0, .ref (g.2.2.2.1 4), .int 0]) := by rw [hMl2]; exact zup_same
  refine zputF (fs1 := [_, _, _, _, _, _, _, _, _, _]) C hnm hf_X7_38 hp_X7 rfl rfl hA rfl rfl (by exact Nat.le_of_ble_eq_true rfl) (by rfl) dX7_init_55 ?_
  generalize hM55 : zup _ a (zob 8 _) = M55
  replace fr : ∀ x e, M x = some e → x ≠ a → M55 x = some e := fun x e hx hn => by rw [← hM55, zup_ne hn]; exact fr x e hx hn
  have hk := kp8_putE hA hM55
  replace f1 := hk.ob f1 (by decide)
  replace f2 := hk.ac f2
  replace f3 := fun w hw => hk.chr (f3 w hw)
  replace fl0 := hk.ob fl0 (by decide)
  replace f4 := hk.ac f4
  replace f5 := fun w hw => hk.chr (f5 w hw)
  replace fl1 := hk.ob fl1 (by decide)
  replace fl2 := hk.ob fl2 (by decide)
  have hA := zup_sameE hM55
  refine zaload_n C dX7_init_58 rfl ?_
  refine znew C hw_X7_16 rfl (by omega) (by omega) dX7_init_59 (fun l3 hl30 => ?_)
  refine zdup C dX7_init_62 rfl ?_
  refine zcallI C (l_init zup_same) hy_Jx4a65c_init_da8c8 hi_Jx4a65c_init_da8c8 hl_X7_18 rfl rfl (by decide) (by decide) (by omega) (by omega) rfl (by exact Nat.le_of_ble_eq_true rfl) dX7_init_63 (fun Ml3 hMl3 => ?_)
  rw [zup_up2] at hMl3
  have gl3 : M l3 = none := fr_none fr hA hl30
  replace fr : ∀ x e, M x = some e → x ≠ a → Ml3 x = some e := fun x e hx hn => by rw [hMl3, zup_ne (znone (fr x e hx hn) hl30)]; exact fr x e hx hn
  have hk := kp8_new (e := zob 0 [.int 0, .ref (g.2.2.2.1 4), .int 0]) hl30
  rw [← hMl3] at hk
  have d30 : l0 ≠ l3 := znone fl0 hl30
  have d31 : l1 ≠ l3 := znone fl1 hl30
  have d32 : l2 ≠ l3 := znone fl2 hl30
  replace f1 := hk.ob f1 (by decide)
  replace f2 := hk.ac f2
  replace f3 := fun w hw => hk.chr (f3 w hw)
  replace fl0 := hk.ob fl0 (by decide)
  replace f4 := hk.ac f4
  replace f5 := fun w hw => hk.chr (f5 w hw)
  replace fl1 := hk.ob fl1 (by decide)
  replace fl2 := hk.ob fl2 (by decide)
  have hA := zup_neE hMl3 (znone hA hl30) hA
  have fl3 : Ml3 l3 = some (zob 0 [.int 0, .ref (g.2.2.2.1 4), .int 0]) := by rw [hMl3]; exact zup_same
  refine zputF (fs1 := [_, _, _, _, _, _, _, _, _, _]) C hnm hf_X7_41 hp_X7 rfl rfl hA rfl rfl (by exact Nat.le_of_ble_eq_true rfl) (by rfl) dX7_init_66 ?_
  generalize hM66 : zup _ a (zob 8 _) = M66
  replace fr : ∀ x e, M x = some e → x ≠ a → M66 x = some e := fun x e hx hn => by rw [← hM66, zup_ne hn]; exact fr x e hx hn
  have hk := kp8_putE hA hM66
  replace f1 := hk.ob f1 (by decide)
  replace f2 := hk.ac f2
  replace f3 := fun w hw => hk.chr (f3 w hw)
  replace fl0 := hk.ob fl0 (by decide)
  replace f4 := hk.ac f4
  replace f5 := fun w hw => hk.chr (f5 w hw)
  replace fl1 := hk.ob fl1 (by decide)
  replace fl2 := hk.ob fl2 (by decide)
  replace fl3 := hk.ob fl3 (by decide)
  have hA := zup_sameE hM66
  refine zaload_n C dX7_init_69 rfl ?_
  refine zconst (v := 0) C dX7_init_70 (by decide) ?_
  refine zput (fs1 := [_, _, _, _, _, _, _, _, _, _]) C hf_X7_44 hp_X7 rfl hA rfl rfl (by exact Nat.le_of_ble_eq_true rfl) (by rfl) dX7_init_71 ?_
  generalize hM71 : zup _ a (zob 8 _) = M71
  replace fr : ∀ x e, M x = some e → x ≠ a → M71 x = some e := fun x e hx hn => by rw [← hM71, zup_ne hn]; exact fr x e hx hn
  have hk := kp8_putE hA hM71
  replace f1 := hk.ob f1 (by decide)
  replace f2 := hk.ac f2
  replace f3 := fun w hw => hk.chr (f3 w hw)
  replace fl0 := hk.ob fl0 (by decide)
  replace f4 := hk.ac f4
  replace f5 := fun w hw => hk.chr (f5 w hw)
  replace fl1 := hk.ob fl1 (by decide)
  replace fl2 := hk.ob fl2 (by decide)
  replace fl3 := hk.ob fl3 (by decide)
  have hA := zup_sameE hM71
  refine zaload_n C dX7_init_74 rfl ?_
  refine zconst (v := 0) C dX7_init_75 (by decide) ?_
  refine zput (fs1 := [_, _, _, _, _, _, _, _, _, _]) C hf_X7_48 hp_X7 rfl hA rfl rfl (by exact Nat.le_of_ble_eq_true rfl) (by rfl) dX7_init_76 ?_
  generalize hM76 : zup _ a (zob 8 _) = M76
  replace fr : ∀ x e, M x = some e → x ≠ a → M76 x = some e := fun x e hx hn => by rw [← hM76, zup_ne hn]; exact fr x e hx hn
  have hk := kp8_putE hA hM76
  replace f1 := hk.ob f1 (by decide)
  replace f2 := hk.ac f2
  replace f3 := fun w hw => hk.chr (f3 w hw)
  replace fl0 := hk.ob fl0 (by decide)
  replace f4 := hk.ac f4
  replace f5 := fun w hw => hk.chr (f5 w hw)
  replace fl1 := hk.ob fl1 (by decide)
  replace fl2 := hk.ob fl2 (by decide)
  replace fl3 := hk.ob fl3 (by decide)
  have hA := zup_sameE hM76
  refine zaload_n C dX7_init_79 rfl ?_
  refine zconst (v := 0) C dX7_init_80 (by decide) ?_
  refine zput (fs1 := [_, _, _, _, _, _, _, _, _, _]) C hf_X7_51 hp_X7 rfl hA rfl rfl (by exact Nat.le_of_ble_eq_true rfl) (by rfl) dX7_init_81 ?_
  generalize hM81 : zup _ a (zob 8 _) = M81
  replace fr : ∀ x e, M x = some e → x ≠ a → M81 x = some e := fun x e hx hn => by rw [← hM81, zup_ne hn]; exact fr x e hx hn
  have hk := kp8_putE hA hM81
  replace f1 := hk.ob f1 (by decide)
  replace f2 := hk.ac f2
  replace f3 := fun w hw => hk.chr (f3 w hw)
  replace fl0 := hk.ob fl0 (by decide)
  replace f4 := hk.ac f4
  replace f5 := fun w hw => hk.chr (f5 w hw)
  replace fl1 := hk.ob fl1 (by decide)
  replace fl2 := hk.ob fl2 (by decide)
  replace fl3 := hk.ob fl3 (by decide)
  have hA := zup_sameE hM81
  refine zaload_n C dX7_init_84 rfl ?_
  refine zlconst (v := 0) C dX7_init_85 rfl ?_
  refine zput (fs1 := [_, _, _, _, _, _, _, _, _, _]) C hf_X7_54 hp_X7 rfl hA rfl rfl (by exact Nat.le_of_ble_eq_true rfl) (by rfl) dX7_init_86 ?_
  generalize hM86 : zup _ a (zob 8 _) = M86
  replace fr : ∀ x e, M x = some e → x ≠ a → M86 x = some e := fun x e hx hn => by rw [← hM86, zup_ne hn]; exact fr x e hx hn
  have hk := kp8_putE hA hM86
  replace f1 := hk.ob f1 (by decide)
  replace f2 := hk.ac f2
  replace f3 := fun w hw => hk.chr (f3 w hw)
  replace fl0 := hk.ob fl0 (by decide)
  replace f4 := hk.ac f4
  replace f5 := fun w hw => hk.chr (f5 w hw)
  replace fl1 := hk.ob fl1 (by decide)
  replace fl2 := hk.ob fl2 (by decide)
  replace fl3 := hk.ob fl3 (by decide)
  have hA := zup_sameE hM86
  refine zend_v C hE dX7_init_89 (by omega) (by omega) (kx_end (zP_K0X (P := fun x => M x = none) (q1 := q1) (r7 := r7) (r4 := r4) (cA := fun i => if i < 4 then c4 i else cq (i - 4)) (dA := fun i => if i < 4 then d4 i else dq (i - 4)) (nA := fun i => if i < 4 then n4 i else nq (i - 4)) (lA := fun j => if j = 0 then l0 else if j = 1 then l1 else if j = 2 then l2 else l3) hA f1 ?_ ?_ hr74 ?_ ?_ ?_ ?_ ?_) fr)
  · rw [f2]; congr 2; funext w; by_cases h : w < 7
    · simp [h, show 4 + w - 4 = w by omega, show ¬ 4 + w < 4 by omega]
    · simp [h]
  · rw [f4]; congr 2; funext w; by_cases h : w < 4
    · simp [h]
    · simp [h]
  · intro i hi; by_cases h : i < 4
    · simp only [h, if_true]; exact f5 i h
    · simp only [h, if_false]; exact f3 (i - 4) (by omega)
  · intro i j hi hj hij; by_cases h : i < 4 <;> by_cases h2 : j < 4
    · simp only [h, h2, if_true]; exact f5d i j h h2 hij
    · simp only [h, h2, if_true, if_false]; obtain ⟨z1, z2, z3, z4, z5⟩ := x1 (j - 4) i (by omega) h; exact ⟨z1.symm, z2.symm, z3.symm, z5.symm⟩
    · simp only [h, h2, if_true, if_false]; obtain ⟨z1, z2, z3, z4, z5⟩ := x1 (i - 4) j (by omega) h2; exact ⟨z1, z2, z3, z4⟩
    · simp only [h, h2, if_false]; exact f3d (i - 4) (j - 4) (by omega) (by omega) (by omega)
  · intro j hj; have : j = 0 ∨ j = 1 ∨ j = 2 ∨ j = 3 := by omega
    rcases this with rfl | rfl | rfl | rfl
    · exact fl0
    · exact fl1
    · exact fl2
    · exact fl3
  · intro i j hi hj hij; have a1 : i = 0 ∨ i = 1 ∨ i = 2 ∨ i = 3 := by omega
    have a2 : j = 0 ∨ j = 1 ∨ j = 2 ∨ j = 3 := by omega
    rcases a1 with rfl | rfl | rfl | rfl <;> rcases a2 with rfl | rfl | rfl | rfl <;> first | rfl | exact absurd hij d10 | exact absurd hij.symm d10 | exact absurd hij d20 | exact absurd hij.symm d20 | exact absurd hij d21 | exact absurd hij.symm d21 | exact absurd hij d30 | exact absurd hij.symm d30 | exact absurd hij d31 | exact absurd hij.symm d31 | exact absurd hij d32 | exact absurd hij.symm d32
  · refine ⟨hq1, g7, g4, fun i hi => ?_, fun j hj => ?_⟩
    · by_cases h : i < 4
      · simp only [h, if_true]; exact g5 i h
      · simp only [h, if_false]; exact gc (i - 4) (by omega)
    · have : j = 0 ∨ j = 1 ∨ j = 2 ∨ j = 3 := by omega
      rcases this with rfl | rfl | rfl | rfl
      · exact gl0
      · exact gl1
      · exact gl2
      · exact gl3
theorem zW2.start {g : zGh} {M2 M4 : zM} {ao ap : zg → Nat} {y : Nat} {e0 : va_E} (h : zP g K0 nX ao M2) (hy : M2 y = none) (h2 : zP g K0 nX ap M4) (hy2 : ap (0, 0) = y) (hn : ∀ t, kva g K0 ap nX t ≠ none → t = (0, 0) ∨ zup M2 y e0 (ap t) = none) (hf : ∀ x e, zup M2 y e0 x = some e → x ≠ y → M4 x = some e) : zW2 g K0 K0 ao ap M4 := by
  have hx : ∀ t e, kva g K0 ao nX t = some e → ao t ≠ y ∧ zup M2 y e0 (ao t) = some e := fun t e ht => by
    have h1 := h.1 t e ht
    have h3 : ao t ≠ y := fun e2 => by rw [e2, hy] at h1; cases h1
    exact ⟨h3, by rw [zup_ne h3]; exact h1⟩
  refine ⟨⟨fun t e ht => hf _ _ (hx t e ht).2 (hx t e ht).1, h.2⟩, h2, fun t u ht hu he => ?_⟩
  obtain ⟨e, het⟩ := Option.ne_none_iff_exists'.mp ht
  obtain ⟨a1, a2⟩ := hx t e het
  rcases hn u hu with rfl | hz
  · exact a1 (he.trans hy2)
  · rw [← he, a2] at hz
    cases hz
