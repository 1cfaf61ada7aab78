section K21
variable {g : zGh} {K : zK} {X : zg → Option va_E} {ad : zg → Nat} {M M0 M1 : zM}
def ch0 (day x : Int32) : zCh := (2, 0, upd (fun _ => 0) 0 day, upd (fun _ => 0) 0 x)
def comF (f : Nat → zCh) (c : Nat) (day : Int32) : Nat → zCh := fun i => if 12 + 8 * c ≤ i ∧ i < 20 + 8 * c then (if i = 19 + 8 * c then ch0 day 1 else ch0 0 (zLF (i - (12 + 8 * c)))) else f i
def newC (K : zK) (day : Int32) : zK := (va_up K.1 2 (K.1 2 + 1), K.2.1, comF (kch K) (K.1 2) day, K.2.2.2)
theorem lifC {day : Int32} {j : Nat} (hj : j ≠ 0) : linfo (newC K day) j = linfo K j := lifg (K := K) (K1 := newC K day) 0 (fun h => absurd rfl h) (fun _ => rfl) (fun _ => rfl) (fun _ => rfl) (fun _ _ => rfl) rfl hj
theorem chA_C {day : Int32} {b : Nat} (h : chA K b) (h2 : K.1 2 < 6) : chA (newC K day) b ∧ kch (newC K day) b = kch K b := by
  have e13 : (newC K day).1 13 = K.1 13 := rfl
  have e2 : (newC K day).1 2 = K.1 2 + 1 := rfl
  refine ⟨?_, if_neg ?_⟩
  · unfold chA at h ⊢
    rw [e13, e2]
    omega
  · unfold chA at h
    omega
theorem chA_C2 {day : Int32} {b : Nat} (h : chA (newC K day) b) : chA K b ∨ (12 + 8 * K.1 2 ≤ b ∧ b < 20 + 8 * K.1 2) := by
  have e13 : (newC K day).1 13 = K.1 13 := rfl
  have e2 : (newC K day).1 2 = K.1 2 + 1 := rfl
  unfold chA at h ⊢
  rw [e13, e2] at h
  omega
def TC (K : zK) (t : zg) : Bool := decide (t = (9, K.1 2)) || (decide (t = (1, K.1 2 + 1)) || (decide (t = (2, K.1 2 + 1)) || (decide (3 ≤ t.1 ∧ t.1 ≤ 5) && decide (12 + 8 * K.1 2 ≤ t.2 ∧ t.2 < 20 + 8 * K.1 2))))
theorem TC_of {t : zg} (h : TC K t = true) : t = (9, K.1 2) ∨ t = (1, K.1 2 + 1) ∨ t = (2, K.1 2 + 1) ∨ ∃ w, w < 8 ∧ (t = (3, 12 + 8 * K.1 2 + w) ∨ t = (4, 12 + 8 * K.1 2 + w) ∨ t = (5, 12 + 8 * K.1 2 + w)) := by
  obtain ⟨a, b⟩ := t
  simp only [TC, Bool.or_eq_true, Bool.and_eq_true, decide_eq_true_eq] at h
  rcases h with h | h | h | ⟨⟨h1, h2⟩, h3, h4⟩
  · exact Or.inl h
  · exact Or.inr (Or.inl h)
  · exact Or.inr (Or.inr (Or.inl h))
  · refine Or.inr (Or.inr (Or.inr ⟨b - (12 + 8 * K.1 2), by omega, ?_⟩))
    rw [show 12 + 8 * K.1 2 + (b - (12 + 8 * K.1 2)) = b by omega]
    have : a = 3 ∨ a = 4 ∨ a = 5 := by omega
    rcases this with rfl | rfl | rfl
    · exact Or.inl rfl
    · exact Or.inr (Or.inl rfl)
    · exact Or.inr (Or.inr rfl)
theorem TC_c {a w : Nat} (ha : 3 ≤ a ∧ a ≤ 5) (hw : w < 8) : TC K (a, 12 + 8 * K.1 2 + w) = true := by
  simp only [TC, Bool.or_eq_true, Bool.and_eq_true, decide_eq_true_eq]
  exact Or.inr (Or.inr (Or.inr ⟨ha, by omega, by omega⟩))
theorem TC_no {a b : Nat} (h9 : a ≠ 9) (h1 : a = 0 ∨ 6 ≤ a) : TC K (a, b) = false := by
  apply Bool.eq_false_iff.mpr
  intro h
  rcases TC_of h with e | e | e | ⟨w, _, e | e | e⟩ <;> cases e <;> omega
theorem newC_k (h2 : K.1 2 < 6) {day : Int32} (ad1 : zg → Nat) (t : zg) (h : alv K t) (h7 : t ≠ (7, 0)) (h8 : t ≠ (8, 0)) : kva g (newC K day) ad1 X t = kva g K ad1 X t := by
  obtain ⟨a, b⟩ := t
  match a, h, h7, h8 with
  | 0, _, _, _ => rfl
  | 1, h, h7, h8 =>
    have h : b ≤ K.1 2 := h
    show (if b ≤ K.1 2 + 1 then some (zob 3 [.ref (ad1 (2, b))]) else none) = (if b ≤ K.1 2 then some (zob 3 [.ref (ad1 (2, b))]) else none)
    rw [if_pos h, if_pos (by omega)]
  | 2, h, h7, h8 =>
    have h : b ≤ K.1 2 := h
    show (if b ≤ K.1 2 + 1 then some (zac g 7 (fun w => if w < 7 then some (ad1 (3, lch b w)) else none)) else none) = (if b ≤ K.1 2 then some (zac g 7 (fun w => if w < 7 then some (ad1 (3, lch b w)) else none)) else none)
    rw [if_pos h, if_pos (by omega)]
  | 3, h, h7, h8 =>
    have hq := chA_C (day := day) h h2
    show (if chA (newC K day) b then some (chrE ad1 b (kch (newC K day) b)) else none) = (if chA K b then some (chrE ad1 b (kch K b)) else none)
    rw [if_pos hq.1, if_pos (show chA K b from h), hq.2]
  | 4, h, h7, h8 =>
    have hq := chA_C (day := day) h h2
    show (if chA (newC K day) b then some (zai g (kch (newC K day) b).1 (kch (newC K day) b).2.2.1) else none) = (if chA K b then some (zai g (kch K b).1 (kch K b).2.2.1) else none)
    rw [if_pos hq.1, if_pos (show chA K b from h), hq.2]
  | 5, h, h7, h8 =>
    have hq := chA_C (day := day) h h2
    show (if chA (newC K day) b then some (zai g (kch (newC K day) b).1 (kch (newC K day) b).2.2.2) else none) = (if chA K b then some (zai g (kch K b).1 (kch K b).2.2.2) else none)
    rw [if_pos hq.1, if_pos (show chA K b from h), hq.2]
  | 6, _, _, _ => rfl
  | 7, h, h7, h8 =>
    have hb : b ≠ 0 := fun e => h7 (by rw [e])
    show (linfo _ b).map (lisE g ad1 b) = (linfo K b).map (lisE g ad1 b)
    rw [lifC (K := K) (day := day) hb]
  | 8, h, h7, h8 =>
    have hb : b ≠ 0 := fun e => h8 (by rw [e])
    show ((linfo _ b).bind fun q => if q.2.1 = 0 then none else some (lirE g ad1 q)) = ((linfo K b).bind fun q => if q.2.1 = 0 then none else some (lirE g ad1 q))
    rw [lifC (K := K) (day := day) hb]
  | 9, h, h7, h8 =>
    have h : b < K.1 2 := h
    show (if b < K.1 2 + 1 then some (zob 2 [.ref (ad1 (1, b + 1)), .ref (ad1 (3, rch b))]) else none) = (if b < K.1 2 then some (zob 2 [.ref (ad1 (1, b + 1)), .ref (ad1 (3, rch b))]) else none)
    rw [if_pos h, if_pos (by omega)]
  | 10, _, _, _ => rfl
  | 11, _, _, _ => rfl
  | 12, _, _, _ => rfl
  | 13, _, _, _ => rfl
  | _ + 14, _, _, _ => rfl
theorem newC_d {day : Int32} (t : zg) (h14 : t.1 < 14) (h : alv (newC K day) t) (h8 : t ≠ (8, 0)) : alv K t ∨ TC K t = true := by
  obtain ⟨a, b⟩ := t
  match a, h14, h, h8 with
  | 0, _, h, _ => exact Or.inl h
  | 1, _, h, h8 =>
    have h : b ≤ K.1 2 + 1 := h
    by_cases hb : b = K.1 2 + 1
    · exact Or.inr (by rw [hb]; simp [TC])
    · exact Or.inl (show b ≤ K.1 2 by omega)
  | 2, _, h, h8 =>
    have h : b ≤ K.1 2 + 1 := h
    by_cases hb : b = K.1 2 + 1
    · exact Or.inr (by rw [hb]; simp [TC])
    · exact Or.inl (show b ≤ K.1 2 by omega)
  | 3, _, h, h8 =>
    rcases chA_C2 h with h | h
    · exact Or.inl h
    · have h : 12 + 8 * K.1 2 ≤ b ∧ b < 20 + 8 * K.1 2 := h
      exact Or.inr (by rw [show b = 12 + 8 * K.1 2 + (b - (12 + 8 * K.1 2)) by omega]; exact TC_c (by decide) (by omega))
  | 4, _, h, h8 =>
    rcases chA_C2 h with h | h
    · exact Or.inl h
    · have h : 12 + 8 * K.1 2 ≤ b ∧ b < 20 + 8 * K.1 2 := h
      exact Or.inr (by rw [show b = 12 + 8 * K.1 2 + (b - (12 + 8 * K.1 2)) by omega]; exact TC_c (by decide) (by omega))
  | 5, _, h, h8 =>
    rcases chA_C2 h with h | h
    · exact Or.inl h
    · have h : 12 + 8 * K.1 2 ≤ b ∧ b < 20 + 8 * K.1 2 := h
      exact Or.inr (by rw [show b = 12 + 8 * K.1 2 + (b - (12 + 8 * K.1 2)) by omega]; exact TC_c (by decide) (by omega))
  | 6, _, h, _ => exact Or.inl h
  | 7, _, h, h8 =>
    by_cases hb : b = 0
    · subst hb
      exact Or.inl (alv_7 ⟨_, rfl⟩)
    · obtain ⟨q, e⟩ := h
      exact Or.inl (alv_7 ⟨q, by rw [← lifC (K := K) (day := day) hb]; exact e⟩)
  | 8, _, h, h8 =>
    have hb : b ≠ 0 := fun e => h8 (by rw [e])
    obtain ⟨q, e, h0⟩ := h
    exact Or.inl (alv_8 ⟨q, by rw [← lifC (K := K) (day := day) hb]; exact e, h0⟩)
  | 9, _, h, h8 =>
    have h : b < K.1 2 + 1 := h
    by_cases hb : b = K.1 2
    · exact Or.inr (by rw [hb]; simp [TC])
    · exact Or.inl (show b < K.1 2 by omega)
  | 10, _, h, _ => exact Or.inl h
  | 11, _, h, _ => exact Or.inl h
  | 12, _, h, _ => exact Or.inl h
  | 13, _, h, _ => exact Or.inl h
  | _ + 14, h, _, _ => exact absurd h (by show ¬ _ + 14 < 14; omega)
/-- a community made: it, its law, the row of that, the eight chronicles, all new, apart -/
def cB (g : zGh) (M0 M1 : zM) (a ql r : Nat) (cQ dQ nQ : Nat → Nat) (day : Int32) : Prop :=
  (M1 a = some (zob 2 [.ref ql, .ref (cQ 7)]) ∧ M1 ql = some (zob 3 [.ref r]) ∧ M1 r = some (zac g 7 (fun j => if j < 7 then some (cQ j) else none))) ∧
  (∀ w, w < 8 → zChr g M1 (cQ w) (dQ w) (nQ w) 2 0 (upd (fun _ => 0) 0 (if w = 7 then day else 0)) (upd (fun _ => 0) 0 (if w = 7 then 1 else zLF w))) ∧
  (M0 a = none ∧ M0 ql = none ∧ M0 r = none ∧ ∀ w, w < 8 → M0 (cQ w) = none ∧ M0 (dQ w) = none ∧ M0 (nQ w) = none) ∧
  (∀ j l, j < 8 → l < 8 → j ≠ l → cQ j ≠ cQ l ∧ dQ j ≠ dQ l ∧ nQ j ≠ nQ l ∧ dQ j ≠ nQ l) ∧ ∀ x e, M0 x = some e → M1 x = some e
theorem growC (hp : zP g K X ad M0) (hw : iWf K) (h33 : K.1 33 ≤ 20) (h2 : K.1 2 < 6) {day : Int32} {M3 : zM} {a ql r e1 : Nat} {cQ dQ nQ : Nat → Nat} (hB : cB g M0 M1 a ql r cQ dQ nQ day) (hl : M3 (ad (7, 0)) = some (zob 0 [.int (nI (K.1 2 + 1)), .ref e1, .int (nI (K.1 2 + 1))])) (hr : M3 e1 = some (zao g (lcap (K.1 2 + 1)) (va_up (fun i => if i < K.1 2 then some (ad (9, i)) else none) (K.1 2) (some a))))
    (he : (e1 = ad (8, 0) ∧ lcap (K.1 2) ≠ 0) ∨ M1 e1 = none) (hf : ∀ z e, M1 z = some e → z ≠ ad (7, 0) → (lcap (K.1 2) ≠ 0 → z ≠ ad (8, 0)) → M3 z = some e) : ∃ ad1, zP g (newC K day) X ad1 M3 ∧ ∀ t : zg, (t.1 = 0 ∨ 14 ≤ t.1) → ad1 t = ad t := by
  obtain ⟨⟨b1, b2, b3⟩, b4, ⟨b5, b6, b7, b8⟩, b9, b10⟩ := hB
  obtain ⟨ad0, had0⟩ : ∃ ad0 : zg → Nat, ad0 = fun t => if t.1 = 9 then a else if t.1 = 1 then ql else if t.1 = 2 then r else if t.1 = 3 then cQ (t.2 - (12 + 8 * K.1 2)) else if t.1 = 4 then dQ (t.2 - (12 + 8 * K.1 2)) else nQ (t.2 - (12 + 8 * K.1 2)) := ⟨_, rfl⟩
  have sb : ∀ w, 12 + 8 * K.1 2 + w - (12 + 8 * K.1 2) = w := fun w => by omega
  have z9 : ad0 (9, K.1 2) = a := by rw [had0]; rfl
  have z1 : ad0 (1, K.1 2 + 1) = ql := by rw [had0]; rfl
  have z2 : ad0 (2, K.1 2 + 1) = r := by rw [had0]; rfl
  have z3 : ∀ w, ad0 (3, 12 + 8 * K.1 2 + w) = cQ w := fun w => by rw [had0]; show cQ (12 + 8 * K.1 2 + w - (12 + 8 * K.1 2)) = _; rw [sb]
  have z4 : ∀ w, ad0 (4, 12 + 8 * K.1 2 + w) = dQ w := fun w => by rw [had0]; show dQ (12 + 8 * K.1 2 + w - (12 + 8 * K.1 2)) = _; rw [sb]
  have z5 : ∀ w, ad0 (5, 12 + 8 * K.1 2 + w) = nQ w := fun w => by rw [had0]; show nQ (12 + 8 * K.1 2 + w - (12 + 8 * K.1 2)) = _; rw [sb]
  have n7 : ∀ x, M0 x = none → x ≠ ad (7, 0) := fun x hx => (znone hp.lo0 hx).symm
  have n8 : ∀ x, M0 x = none → lcap (K.1 2) ≠ 0 → x ≠ ad (8, 0) := fun x hx h0 => (znone (zPic.at hp (t := (8, 0)) (if_neg h0)) hx).symm
  have k3 : ∀ x e, M1 x = some e → M0 x = none → M3 x = some e := fun x e hx h0 => hf x e hx (n7 x h0) (n8 x h0)
  have y1 := k3 _ _ b1 b5
  have y2 := k3 _ _ b2 b6
  have y3 := k3 _ _ b3 b7
  have y4 : ∀ w, w < 8 → zChr g M3 (cQ w) (dQ w) (nQ w) 2 0 (upd (fun _ => 0) 0 (if w = 7 then day else 0)) (upd (fun _ => 0) 0 (if w = 7 then 1 else zLF w)) := fun w hw => (b4 w hw).keep (fun x e hx hxx => k3 x e hx (by
    obtain ⟨q1, q2, q3⟩ := b8 w hw
    rcases hxx with rfl | rfl | rfl
    · exact q1
    · exact q2
    · exact q3))
  have fresh1 : ∀ x, M1 x = none → M0 x = none := fun x hx => by
    cases hz : M0 x with
    | none => rfl
    | some w => rw [b10 _ _ hz] at hx; cases hx
  have hdd : ∀ j l, j < 8 → l < 8 → dQ j ≠ nQ l := fun j l hj hl => by
    by_cases e : j = l
    · subst e; exact (b4 j hj).2.2.2.2.2
    · exact (b9 j l hj hl e).2.2.2
  have hA : ∀ w, w < 8 → chA (newC K day) (12 + 8 * K.1 2 + w) ∧ kch (newC K day) (12 + 8 * K.1 2 + w) = ch0 (if w = 7 then day else 0) (if w = 7 then 1 else zLF w) := fun w hw => by
    refine ⟨Or.inr (Or.inl ⟨by omega, ?_, by omega⟩), ?_⟩
    · show _ < 12 + 8 * (K.1 2 + 1)
      omega
    · show comF (kch K) (K.1 2) day (12 + 8 * K.1 2 + w) = _
      unfold comF
      rw [if_pos ⟨by omega, by omega⟩]
      by_cases e : w = 7
      · rw [if_pos (by omega), if_pos e, if_pos e]
      · rw [if_neg (by omega), if_neg e, if_neg e, sb]
  obtain ⟨ad1, h1, h2', h3⟩ := hp.growL (K1 := newC K day) (M1 := M3) (e1 := e1) h33 hw 0 (el := fun i => (9, i)) rfl rfl (by omega) (TC K) ad0 (fun t h ha => by
      rcases TC_of h with e | e | e | ⟨w, hw8, e | e | e⟩ <;> subst e
      · exact absurd (show K.1 2 < K.1 2 from ha) (by omega)
      · exact absurd (show K.1 2 + 1 ≤ K.1 2 from ha) (by omega)
      · exact absurd (show K.1 2 + 1 ≤ K.1 2 from ha) (by omega)
      · have ha : chA K (12 + 8 * K.1 2 + w) := ha
        unfold chA at ha; omega
      · have ha : chA K (12 + 8 * K.1 2 + w) := ha
        unfold chA at ha; omega
      · have ha : chA K (12 + 8 * K.1 2 + w) := ha
        unfold chA at ha; omega) (TC_no (by decide) (by decide)) (by simp [TC]) hl (by rw [z9]; exact hr) (he.imp id fun h => ⟨fresh1 _ h, fun t ht => by
      rcases TC_of ht with e | e | e | ⟨w, hw8, e | e | e⟩ <;> subst e
      · rw [z9]; exact (zob_ao y1 hr).symm
      · rw [z1]; exact (zob_ao y2 hr).symm
      · rw [z2]; exact (znone b3 h).symm
      · rw [z3]; exact (zob_ao (y4 w hw8).1 hr).symm
      · rw [z4]; exact fun e => by rw [e, (y4 w hw8).2.1] at hr; simp [zai, zao] at hr
      · rw [z5]; exact fun e => by rw [e, (y4 w hw8).2.2.1] at hr; simp [zai, zao] at hr⟩) (fun z e hz a b => hf z e (b10 z e hz) a b) (newC_k h2) newC_d (fun t h => by
      rcases TC_of h with e | e | e | ⟨w, hw8, e | e | e⟩ <;> subst e
      · rw [z9]; exact b5
      · rw [z1]; exact b6
      · rw [z2]; exact b7
      · rw [z3]; exact (b8 w hw8).1
      · rw [z4]; exact (b8 w hw8).2.1
      · rw [z5]; exact (b8 w hw8).2.2) (fun t u ht hu e => by
      have q12 : ql ≠ a := zob_dif y2 y1 (by decide)
      have q13 : a ≠ r := zob_ac y1 y3
      have q23 : ql ≠ r := zob_ac y2 y3
      have p1 : ∀ w, w < 8 → cQ w ≠ a := fun w hw => zob_dif (y4 w hw).1 y1 (by decide)
      have p2 : ∀ w, w < 8 → cQ w ≠ ql := fun w hw => zob_dif (y4 w hw).1 y2 (by decide)
      have p3 : ∀ w, w < 8 → cQ w ≠ r := fun w hw => zob_ac (y4 w hw).1 y3
      have p4 : ∀ w, w < 8 → a ≠ dQ w := fun w hw => zob_ai y1 (y4 w hw).2.1
      have p5 : ∀ w, w < 8 → a ≠ nQ w := fun w hw => zob_ai y1 (y4 w hw).2.2.1
      have p6 : ∀ w, w < 8 → ql ≠ dQ w := fun w hw => zob_ai y2 (y4 w hw).2.1
      have p7 : ∀ w, w < 8 → ql ≠ nQ w := fun w hw => zob_ai y2 (y4 w hw).2.2.1
      have p8 : ∀ w, w < 8 → dQ w ≠ r := fun w hw => zai_ac (y4 w hw).2.1 y3
      have p9 : ∀ w, w < 8 → nQ w ≠ r := fun w hw => zai_ac (y4 w hw).2.2.1 y3
      have p10 : ∀ w v, w < 8 → v < 8 → cQ w ≠ dQ v := fun w v hw hv => zob_ai (y4 w hw).1 (y4 v hv).2.1
      have p11 : ∀ w v, w < 8 → v < 8 → cQ w ≠ nQ v := fun w v hw hv => zob_ai (y4 w hw).1 (y4 v hv).2.2.1
      have i3 : ∀ w v, w < 8 → v < 8 → cQ w = cQ v → w = v := fun w v hw hv e => Classical.byContradiction fun hn => (b9 w v hw hv hn).1 e
      have i4 : ∀ w v, w < 8 → v < 8 → dQ w = dQ v → w = v := fun w v hw hv e => Classical.byContradiction fun hn => (b9 w v hw hv hn).2.1 e
      have i5 : ∀ w v, w < 8 → v < 8 → nQ w = nQ v → w = v := fun w v hw hv e => Classical.byContradiction fun hn => (b9 w v hw hv hn).2.2.1 e
      rcases TC_of ht with f | f | f | ⟨w, hw8, f | f | f⟩ <;> rcases TC_of hu with f2 | f2 | f2 | ⟨v, hv8, f2 | f2 | f2⟩ <;> subst f <;> subst f2 <;> simp only [z9, z1, z2, z3, z4, z5] at e <;>
      first
        | rfl
        | exact absurd e q12 | exact absurd e.symm q12 | exact absurd e q13 | exact absurd e.symm q13 | exact absurd e q23 | exact absurd e.symm q23
        | exact absurd e (p1 _ hw8) | exact absurd e.symm (p1 _ hv8) | exact absurd e (p2 _ hw8) | exact absurd e.symm (p2 _ hv8) | exact absurd e (p3 _ hw8) | exact absurd e.symm (p3 _ hv8)
        | exact absurd e (p4 _ hv8) | exact absurd e.symm (p4 _ hw8) | exact absurd e (p5 _ hv8) | exact absurd e.symm (p5 _ hw8) | exact absurd e (p6 _ hv8) | exact absurd e.symm (p6 _ hw8) | exact absurd e (p7 _ hv8) | exact absurd e.symm (p7 _ hw8)
        | exact absurd e (p8 _ hw8) | exact absurd e.symm (p8 _ hv8) | exact absurd e (p9 _ hw8) | exact absurd e.symm (p9 _ hv8)
        | exact absurd e (p10 _ _ hw8 hv8) | exact absurd e.symm (p10 _ _ hv8 hw8) | exact absurd e (p11 _ _ hw8 hv8) | exact absurd e.symm (p11 _ _ hv8 hw8)
        | exact absurd e (hdd _ _ hw8 hv8) | exact absurd e.symm (hdd _ _ hv8 hw8)
        | rw [i3 _ _ hw8 hv8 e] | rw [i4 _ _ hw8 hv8 e] | rw [i5 _ _ hw8 hv8 e]) (fun ad1 ht ho t e h hv => by
      have w1 : ad1 (1, K.1 2 + 1) = ql := (ht _ (by simp [TC])).trans z1
      have w2 : ad1 (2, K.1 2 + 1) = r := (ht _ (by simp [TC])).trans z2
      have w3 : ∀ w, w < 8 → ad1 (3, 12 + 8 * K.1 2 + w) = cQ w := fun w hw => (ht _ (TC_c (by decide) hw)).trans (z3 w)
      have w4 : ∀ w, w < 8 → ad1 (4, 12 + 8 * K.1 2 + w) = dQ w := fun w hw => (ht _ (TC_c (by decide) hw)).trans (z4 w)
      have w5 : ∀ w, w < 8 → ad1 (5, 12 + 8 * K.1 2 + w) = nQ w := fun w hw => (ht _ (TC_c (by decide) hw)).trans (z5 w)
      rcases TC_of h with a0 | a0 | a0 | ⟨w, hw8, a0 | a0 | a0⟩ <;> subst a0
      · have e1 : kva g (newC K day) ad1 X (9, K.1 2) = some (zob 2 [.ref (ad1 (1, K.1 2 + 1)), .ref (ad1 (3, rch (K.1 2)))]) := if_pos (show K.1 2 < K.1 2 + 1 from Nat.lt_succ_self _)
        rw [e1, w1, show rch (K.1 2) = 12 + 8 * K.1 2 + 7 from by unfold rch; omega, w3 7 (by decide)] at hv
        rw [z9, y1, ← hv]
      · have e1 : kva g (newC K day) ad1 X (1, K.1 2 + 1) = some (zob 3 [.ref (ad1 (2, K.1 2 + 1))]) := if_pos (show K.1 2 + 1 ≤ K.1 2 + 1 from Nat.le_refl _)
        rw [e1, w2] at hv
        rw [z1, y2, ← hv]
      · have e1 : kva g (newC K day) ad1 X (2, K.1 2 + 1) = some (zac g 7 (fun w => if w < 7 then some (ad1 (3, lch (K.1 2 + 1) w)) else none)) := if_pos (show K.1 2 + 1 ≤ K.1 2 + 1 from Nat.le_refl _)
        rw [e1] at hv
        rw [z2, y3, ← hv]
        congr 2
        funext w
        by_cases hw : w < 7
        · rw [if_pos hw, if_pos hw, show lch (K.1 2 + 1) w = 12 + 8 * K.1 2 + w from by unfold lch; omega, w3 w (by omega)]
        · rw [if_neg hw, if_neg hw]
      · have e1 : kva g (newC K day) ad1 X (3, 12 + 8 * K.1 2 + w) = some (chrE ad1 (12 + 8 * K.1 2 + w) (kch (newC K day) (12 + 8 * K.1 2 + w))) := if_pos (hA w hw8).1
        rw [e1, (hA w hw8).2] at hv
        rw [z3, (y4 w hw8).1, ← hv]
        unfold chrE
        rw [w4 w hw8, w5 w hw8]
        rfl
      · have e1 : kva g (newC K day) ad1 X (4, 12 + 8 * K.1 2 + w) = some (zai g (kch (newC K day) (12 + 8 * K.1 2 + w)).1 (kch (newC K day) (12 + 8 * K.1 2 + w)).2.2.1) := if_pos (hA w hw8).1
        rw [e1, (hA w hw8).2] at hv
        rw [z4, (y4 w hw8).2.1, ← hv]
        rfl
      · have e1 : kva g (newC K day) ad1 X (5, 12 + 8 * K.1 2 + w) = some (zai g (kch (newC K day) (12 + 8 * K.1 2 + w)).1 (kch (newC K day) (12 + 8 * K.1 2 + w)).2.2.2) := if_pos (hA w hw8).1
        rw [e1, (hA w hw8).2] at hv
        rw [z5, (y4 w hw8).2.2.1, ← hv]
        rfl)
  refine ⟨ad1, h1, fun t ht => h3 t ?_ ?_⟩
  · obtain ⟨x, y⟩ := t
    exact TC_no (by rcases ht with h | h <;> simp at h <;> omega) (by rcases ht with h | h <;> simp at h <;> omega)
  · intro e
    rw [e] at ht
    rcases ht with h | h <;> simp at h
end K21
