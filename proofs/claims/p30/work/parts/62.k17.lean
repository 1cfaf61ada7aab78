section K17
variable {g : zGh} {K : zK} {X : zg → Option va_E} {ad : zg → Nat} {M M1 : zM}
theorem lifg {K K1 : zK} {j : Nat} (j0 : Nat) (h2 : j0 ≠ 0 → K1.1 2 = K.1 2) (h13 : j0 ≠ 1 → K1.1 13 = K.1 13) (h25 : j0 ≠ 2 → K1.1 25 = K.1 25) (h33 : j0 ≠ 3 → K1.1 33 = K.1 33) (hws : 4 ≤ j → j < 24 → (if j - 4 < K1.1 33 then some (lof (kws K1 (j - 4)).1 (fun i => ((13, 64 * (j - 4) + i) : zg))) else none) = (if j - 4 < K.1 33 then some (lof (kws K (j - 4)).1 (fun i => ((13, 64 * (j - 4) + i) : zg))) else none)) (htl : ktl K1 = ktl K) (hj : j ≠ j0) : linfo K1 j = linfo K j := by
  unfold linfo
  by_cases e0 : j = 0
  · rw [if_pos e0, if_pos e0, h2 (by omega)]
  · rw [if_neg e0, if_neg e0]
    by_cases e1 : j = 1
    · rw [if_pos e1, if_pos e1, h13 (by omega)]
    · rw [if_neg e1, if_neg e1]
      by_cases e2 : j = 2
      · rw [if_pos e2, if_pos e2, h25 (by omega)]
      · rw [if_neg e2, if_neg e2]
        by_cases e3 : j = 3
        · rw [if_pos e3, if_pos e3, h33 (by omega)]
        · rw [if_neg e3, if_neg e3]
          by_cases e4 : j < 24
          · rw [if_pos e4, if_pos e4, hws (by omega) e4]
          · rw [if_neg e4, if_neg e4, htl]
def newP (K : zK) (c : zCh) (x : zPe) : zK := sN (spe (sch K (100 + K.1 13) c) (K.1 13) x) 13 (K.1 13 + 1)
theorem lifP {c : zCh} {x : zPe} {j : Nat} (hj : j ≠ 1) : linfo (newP K c x) j = linfo K j := lifg (K := K) (K1 := newP K c x) 1 (fun _ => rfl) (fun h => absurd rfl h) (fun _ => rfl) (fun _ => rfl) (fun _ _ => rfl) rfl hj
theorem chA_P {c : zCh} {x : zPe} {b : Nat} (h : chA K b) (h13 : K.1 2 ≤ 6) : chA (newP K c x) b ∧ b ≠ 100 + K.1 13 := by
  have e13 : (newP K c x).1 13 = K.1 13 + 1 := rfl
  have e2 : (newP K c x).1 2 = K.1 2 := rfl
  unfold chA at h ⊢
  rw [e13, e2]
  omega
theorem chA_P2 {c : zCh} {x : zPe} {b : Nat} (h : chA (newP K c x) b) : chA K b ∨ b = 100 + K.1 13 := by
  have e13 : (newP K c x).1 13 = K.1 13 + 1 := rfl
  have e2 : (newP K c x).1 2 = K.1 2 := rfl
  unfold chA at h ⊢
  rw [e13, e2] at h
  omega
def TP (K : zK) (t : zg) : Bool := decide (t = (10, K.1 13)) || (decide (t = (3, 100 + K.1 13)) || (decide (t = (4, 100 + K.1 13)) || decide (t = (5, 100 + K.1 13))))
theorem TP_of {t : zg} (h : TP K t = true) : t = (10, K.1 13) ∨ t = (3, 100 + K.1 13) ∨ t = (4, 100 + K.1 13) ∨ t = (5, 100 + K.1 13) := by
  simpa [TP] using h
theorem TP_no {t : zg} (h1 : t ≠ (10, K.1 13)) (h2 : t ≠ (3, 100 + K.1 13)) (h3 : t ≠ (4, 100 + K.1 13)) (h4 : t ≠ (5, 100 + K.1 13)) : TP K t = false := by simp [TP, h1, h2, h3, h4]
theorem newP_k (h2 : K.1 2 ≤ 6) {c : zCh} {x : zPe} (ad1 : zg → Nat) (t : zg) (h : alv K t) (h7 : t ≠ (7, 1)) (h8 : t ≠ (8, 1)) : kva g (newP K c x) ad1 X t = kva g K ad1 X t := by
  obtain ⟨a, b⟩ := t
  match a, h, h7, h8 with
  | 0, _, _, _ => rfl
  | 1, _, _, _ => rfl
  | 2, _, _, _ => rfl
  | 3, h, h7, h8 =>
    have hq := chA_P (c := c) (x := x) h h2
    show (if chA (newP K c x) b then some (chrE ad1 b (va_up (kch K) (100 + K.1 13) c b)) else none) = (if chA K b then some (chrE ad1 b (kch K b)) else none)
    rw [if_pos hq.1, if_pos (show chA K b from h), up_ne hq.2]
  | 4, h, h7, h8 =>
    have hq := chA_P (c := c) (x := x) h h2
    show (if chA (newP K c x) b then some (zai g (va_up (kch K) (100 + K.1 13) c b).1 (va_up (kch K) (100 + K.1 13) c b).2.2.1) else none) = (if chA K b then some (zai g (kch K b).1 (kch K b).2.2.1) else none)
    rw [if_pos hq.1, if_pos (show chA K b from h), up_ne hq.2]
  | 5, h, h7, h8 =>
    have hq := chA_P (c := c) (x := x) h h2
    show (if chA (newP K c x) b then some (zai g (va_up (kch K) (100 + K.1 13) c b).1 (va_up (kch K) (100 + K.1 13) c b).2.2.2) else none) = (if chA K b then some (zai g (kch K b).1 (kch K b).2.2.2) else none)
    rw [if_pos hq.1, if_pos (show chA K b from h), up_ne hq.2]
  | 6, _, _, _ => rfl
  | 7, h, h7, h8 =>
    have hb : b ≠ 1 := fun e => h7 (by rw [e])
    show (linfo _ b).map (lisE g ad1 b) = (linfo K b).map (lisE g ad1 b)
    rw [lifP (K := K) hb]
  | 8, h, h7, h8 =>
    have hb : b ≠ 1 := fun e => h8 (by rw [e])
    show ((linfo _ b).bind fun q => if q.2.1 = 0 then none else some (lirE g ad1 q)) = ((linfo K b).bind fun q => if q.2.1 = 0 then none else some (lirE g ad1 q))
    rw [lifP (K := K) hb]
  | 9, _, _, _ => rfl
  | 10, h, h7, h8 =>
    have h : b < K.1 13 := h
    show (if b < K.1 13 + 1 then some (perE ad1 b (va_up (kpe K) (K.1 13) x b)) else none) = (if b < K.1 13 then some (perE ad1 b (kpe K b)) else none)
    rw [if_pos h, if_pos (by omega), up_ne (by omega)]
  | 11, _, _, _ => rfl
  | 12, _, _, _ => rfl
  | 13, _, _, _ => rfl
  | _ + 14, _, _, _ => rfl
theorem newP_d {c : zCh} {x : zPe} (t : zg) (h14 : t.1 < 14) (h : alv (newP K c x) t) (h8 : t ≠ (8, 1)) : alv K t ∨ TP K t = true := by
  obtain ⟨a, b⟩ := t
  match a, h14, h, h8 with
  | 0, _, h, _ => exact Or.inl h
  | 1, _, h, _ => exact Or.inl h
  | 2, _, h, _ => exact Or.inl h
  | 3, _, h, h8 =>
    rcases chA_P2 h with h | h
    · exact Or.inl h
    · have h : b = 100 + K.1 13 := h
      exact Or.inr (by rw [h]; simp [TP])
  | 4, _, h, h8 =>
    rcases chA_P2 h with h | h
    · exact Or.inl h
    · have h : b = 100 + K.1 13 := h
      exact Or.inr (by rw [h]; simp [TP])
  | 5, _, h, h8 =>
    rcases chA_P2 h with h | h
    · exact Or.inl h
    · have h : b = 100 + K.1 13 := h
      exact Or.inr (by rw [h]; simp [TP])
  | 6, _, h, _ => exact Or.inl h
  | 7, _, h, h8 =>
    by_cases hb : b = 1
    · subst hb
      exact Or.inl (alv_7 ⟨_, rfl⟩)
    · obtain ⟨q, e⟩ := h
      exact Or.inl (alv_7 ⟨q, by rw [← lifP (K := K) (c := c) (x := x) hb]; exact e⟩)
  | 8, _, h, h8 =>
    have hb : b ≠ 1 := fun e => h8 (by rw [e])
    obtain ⟨q, e, h0⟩ := h
    exact Or.inl (alv_8 ⟨q, by rw [← lifP (K := K) (c := c) (x := x) hb]; exact e, h0⟩)
  | 9, _, h, _ => exact Or.inl h
  | 10, _, h, h8 =>
    have h : b < K.1 13 + 1 := h
    by_cases hb : b = K.1 13
    · exact Or.inr (by rw [hb]; simp [TP])
    · exact Or.inl (show b < K.1 13 by omega)
  | 11, _, h, _ => exact Or.inl h
  | 12, _, h, _ => exact Or.inl h
  | 13, _, h, _ => exact Or.inl h
  | _ + 14, h, _, _ => exact absurd h (by show ¬ _ + 14 < 14; omega)
theorem growP (hp : zP g K X ad M) (h33 : K.1 33 ≤ 20) (h2 : K.1 2 ≤ 6) (hw : iWf K) (h13 : K.1 13 ≤ 48) {c : zCh} {x : zPe} (hx : (∀ p, x.2.1 = some p → p < K.1 13) ∧ ∀ p, x.2.2.1 = some p → p < K.1 13) {q qc d1 n1 e1 : Nat} (hq0 : M q = none) (hc0 : M qc = none) (hd0 : M d1 = none) (hn0 : M n1 = none) (hcn : M1 qc = some (zob 1 [.ref d1, .ref n1, .int (nI (c.2.1 + 1))])) (hdn : M1 d1 = some (zai g c.1 c.2.2.1)) (hnn : M1 n1 = some (zai g c.1 c.2.2.2)) (hdd : d1 ≠ n1)
    (hq : M1 q = some (zob 5 (perF (nI (K.1 13)) (b2i x.1) (x.2.1.map fun q => ad (10, q)) (x.2.2.1.map fun q => ad (10, q)) x.2.2.2.1 qc (b2i x.2.2.2.2.1) x.2.2.2.2.2.1 x.2.2.2.2.2.2.1 x.2.2.2.2.2.2.2.1 x.2.2.2.2.2.2.2.2))) (hl : M1 (ad (7, 1)) = some (zob 0 [.int (nI (K.1 13 + 1)), .ref e1, .int (nI (K.1 13 + 1))])) (hr : M1 e1 = some (zao g (lcap (K.1 13 + 1)) (va_up (fun i => if i < K.1 13 then some (ad (10, i)) else none) (K.1 13) (some q))))
    (he : (e1 = ad (8, 1) ∧ lcap (K.1 13) ≠ 0) ∨ M e1 = none) (hf : ∀ z e, M z = some e → z ≠ ad (7, 1) → (lcap (K.1 13) ≠ 0 → z ≠ ad (8, 1)) → M1 z = some e) : ∃ ad1, zP g (newP K c x) X ad1 M1 ∧ ∀ t : zg, (t.1 = 0 ∨ 14 ≤ t.1) → ad1 t = ad t := by
  have r1 : q ≠ qc := zob_dif hq hcn (by decide)
  have r2 : q ≠ d1 := zob_ai hq hdn
  have r3 : q ≠ n1 := zob_ai hq hnn
  have r4 : qc ≠ d1 := zob_ai hcn hdn
  have r5 : qc ≠ n1 := zob_ai hcn hnn
  have s1 : e1 ≠ q := (zob_ao hq hr).symm
  have s2 : e1 ≠ qc := (zob_ao hcn hr).symm
  have s3 : e1 ≠ d1 := fun e => by rw [e, hdn] at hr; simp [zai, zao] at hr
  have s4 : e1 ≠ n1 := fun e => by rw [e, hnn] at hr; simp [zai, zao] at hr
  obtain ⟨ad0, had0⟩ : ∃ ad0 : zg → Nat, ad0 = fun t => if t.1 = 10 then q else if t.1 = 3 then qc else if t.1 = 4 then d1 else n1 := ⟨_, rfl⟩
  have z1 : ad0 (10, K.1 13) = q := by rw [had0]; rfl
  have z2 : ad0 (3, 100 + K.1 13) = qc := by rw [had0]; rfl
  have z3 : ad0 (4, 100 + K.1 13) = d1 := by rw [had0]; rfl
  have z4 : ad0 (5, 100 + K.1 13) = n1 := by rw [had0]; rfl
  have hA : chA (newP K c x) (100 + K.1 13) := Or.inr (Or.inr ⟨by omega, by show _ < 100 + (K.1 13 + 1); omega⟩)
  obtain ⟨ad1, h1, h2, h3⟩ := hp.growL (K1 := newP K c x) (M1 := M1) (e1 := e1) h33 hw 1 (el := fun i => (10, i)) rfl rfl h13 (TP K) ad0 (fun t h ha => by
      rcases TP_of h with e | e | e | e <;> subst e
      · exact absurd (show K.1 13 < K.1 13 from ha) (by omega)
      · have ha : chA K (100 + K.1 13) := ha
        unfold chA at ha; omega
      · have ha : chA K (100 + K.1 13) := ha
        unfold chA at ha; omega
      · have ha : chA K (100 + K.1 13) := ha
        unfold chA at ha; omega) (by simp [TP]) (by simp [TP]) hl (by rw [z1]; exact hr) (he.imp id fun h => ⟨h, fun t ht => by
      rcases TP_of ht with e | e | e | e <;> subst e
      · rw [z1]; exact s1
      · rw [z2]; exact s2
      · rw [z3]; exact s3
      · rw [z4]; exact s4⟩) hf (newP_k h2) newP_d (fun t h => by
      rcases TP_of h with e | e | e | e <;> subst e
      · rw [z1]; exact hq0
      · rw [z2]; exact hc0
      · rw [z3]; exact hd0
      · rw [z4]; exact hn0) (fun t u ht hu e => by
      rcases TP_of ht with a | a | a | a <;> rcases TP_of hu with b | b | b | b <;> subst a <;> subst b <;> simp only [z1, z2, z3, z4] at e <;> first | rfl | exact absurd e r1 | exact absurd e.symm r1 | exact absurd e r2 | exact absurd e.symm r2 | exact absurd e r3 | exact absurd e.symm r3 | exact absurd e r4 | exact absurd e.symm r4 | exact absurd e r5 | exact absurd e.symm r5 | exact absurd e hdd | exact absurd e.symm hdd) (fun ad1 ht ho t e h hv => by
      have y10 : ∀ p, p < K.1 13 → ad1 (10, p) = ad (10, p) := fun p hpn => ho (10, p) (TP_no (by simp; omega) (by simp) (by simp) (by simp)) (by simp)
      have w1 : ad1 (3, 100 + K.1 13) = qc := (ht _ (by simp [TP])).trans z2
      have w2 : ad1 (4, 100 + K.1 13) = d1 := (ht _ (by simp [TP])).trans z3
      have w3 : ad1 (5, 100 + K.1 13) = n1 := (ht _ (by simp [TP])).trans z4
      have om : ∀ r : Option Nat, (∀ p, r = some p → p < K.1 13) → (r.map fun q => ad1 (10, q)) = (r.map fun q => ad (10, q)) := fun r hr => by
        cases r with
        | none => rfl
        | some p => show some (ad1 (10, p)) = some (ad (10, p)); rw [y10 p (hr p rfl)]
      rcases TP_of h with a | a | a | a <;> subst a
      · have e1 : kva g (newP K c x) ad1 X (10, K.1 13) = some (perE ad1 (K.1 13) x) := by
          show (if K.1 13 < K.1 13 + 1 then some (perE ad1 (K.1 13) (va_up (kpe K) (K.1 13) x (K.1 13))) else none) = _
          rw [if_pos (Nat.lt_succ_self _), up_eq]
        rw [e1] at hv
        rw [z1, hq, ← hv]
        unfold perE
        rw [om _ hx.1, om _ hx.2, w1]
      · have e1 : kva g (newP K c x) ad1 X (3, 100 + K.1 13) = some (chrE ad1 (100 + K.1 13) c) := by
          show (if chA (newP K c x) (100 + K.1 13) then some (chrE ad1 (100 + K.1 13) (va_up (kch K) (100 + K.1 13) c (100 + K.1 13))) else none) = _
          rw [if_pos hA, up_eq]
        rw [e1] at hv
        rw [z2, hcn, ← hv]
        unfold chrE
        rw [w2, w3]
      · have e1 : kva g (newP K c x) ad1 X (4, 100 + K.1 13) = some (zai g c.1 c.2.2.1) := by
          show (if chA (newP K c x) (100 + K.1 13) then some (zai g (va_up (kch K) (100 + K.1 13) c (100 + K.1 13)).1 (va_up (kch K) (100 + K.1 13) c (100 + K.1 13)).2.2.1) else none) = _
          rw [if_pos hA, up_eq]
        rw [e1] at hv
        rw [z3, hdn, ← hv]
      · have e1 : kva g (newP K c x) ad1 X (5, 100 + K.1 13) = some (zai g c.1 c.2.2.2) := by
          show (if chA (newP K c x) (100 + K.1 13) then some (zai g (va_up (kch K) (100 + K.1 13) c (100 + K.1 13)).1 (va_up (kch K) (100 + K.1 13) c (100 + K.1 13)).2.2.2) else none) = _
          rw [if_pos hA, up_eq]
        rw [e1] at hv
        rw [z4, hnn, ← hv])
  refine ⟨ad1, h1, fun t ht => h3 t (TP_no ?_ ?_ ?_ ?_) ?_⟩ <;> intro e <;> rw [e] at ht <;> rcases ht with h | h <;> simp at h
end K17
