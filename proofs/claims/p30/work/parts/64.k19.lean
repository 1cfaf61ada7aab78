section K19
variable {g : zGh} {K : zK} {X : zg → Option va_E} {ad : zg → Nat} {M M1 : zM}
def newS (K : zK) (x : zSu) : zK := sN (ssu (sws K (K.1 33) (0, fun _ => 0, fun _ => false)) (K.1 33) x) 33 (K.1 33 + 1)
theorem linfo_dead (h : K.1 33 < 20) : linfo K (4 + K.1 33) = none := by
  unfold linfo
  rw [if_neg (by omega), if_neg (by omega), if_neg (by omega), if_neg (by omega), if_pos (by omega), if_neg (by omega)]
theorem newS_ws {x : zSu} {s : Nat} (h : s ≠ K.1 33) : kws (newS K x) s = kws K s := up_ne h
theorem lifS {x : zSu} {j : Nat} (hj2 : j ≠ 4 + K.1 33) (hj : j ≠ 3) : linfo (newS K x) j = linfo K j := by
  refine lifg (K := K) (K1 := newS K x) 3 (fun _ => rfl) (fun _ => rfl) (fun _ => rfl) (fun h => absurd rfl h) (fun h4 h24 => ?_) rfl hj
  have e33 : (newS K x).1 33 = K.1 33 + 1 := rfl
  rw [e33, newS_ws (by omega)]
  by_cases h : j - 4 < K.1 33
  · rw [if_pos h, if_pos (by omega)]
  · rw [if_neg h, if_neg (by omega)]
theorem linfo_new {x : zSu} (h : K.1 33 < 20) : linfo (newS K x) (4 + K.1 33) = some (lof 0 (fun i => (13, 64 * K.1 33 + i))) := by
  have e33 : (newS K x).1 33 = K.1 33 + 1 := rfl
  have := linfo_w (K := newS K x) (s := K.1 33) (by omega) (by omega)
  rw [this, show kws (newS K x) (K.1 33) = (0, fun _ => 0, fun _ => false) from up_eq]
def TS (K : zK) (t : zg) : Bool := decide (t = (12, K.1 33)) || decide (t = (7, 4 + K.1 33))
theorem TS_of {t : zg} (h : TS K t = true) : t = (12, K.1 33) ∨ t = (7, 4 + K.1 33) := by simpa [TS] using h
theorem TS_no {t : zg} (h1 : t ≠ (12, K.1 33)) (h2 : t ≠ (7, 4 + K.1 33)) : TS K t = false := by simp [TS, h1, h2]
theorem newS_k (h20 : K.1 33 < 20) {x : zSu} (ad1 : zg → Nat) (t : zg) (h : alv K t) (h7 : t ≠ (7, 3)) (h8 : t ≠ (8, 3)) : kva g (newS K x) ad1 X t = kva g K ad1 X t := by
  obtain ⟨a, b⟩ := t
  match a, h, h7, h8 with
  | 0, _, _, _ => rfl
  | 1, _, _, _ => rfl
  | 2, _, _, _ => rfl
  | 3, _, _, _ => rfl
  | 4, _, _, _ => rfl
  | 5, _, _, _ => rfl
  | 6, _, _, _ => rfl
  | 7, h, h7, h8 =>
    have hb2 : b ≠ 4 + K.1 33 := fun e => by obtain ⟨q, e2⟩ := h; have e2 : linfo K b = some q := e2; rw [e, linfo_dead h20] at e2; cases e2
    have hb : b ≠ 3 := fun e => h7 (by rw [e])
    show (linfo _ b).map (lisE g ad1 b) = (linfo K b).map (lisE g ad1 b)
    rw [lifS (K := K) (x := x) hb2 hb]
  | 8, h, h7, h8 =>
    have hb2 : b ≠ 4 + K.1 33 := fun e => by obtain ⟨q, e2, _⟩ := h; have e2 : linfo K b = some q := e2; rw [e, linfo_dead h20] at e2; cases e2
    have hb : b ≠ 3 := fun e => h8 (by rw [e])
    show ((linfo _ b).bind fun q => if q.2.1 = 0 then none else some (lirE g ad1 q)) = ((linfo K b).bind fun q => if q.2.1 = 0 then none else some (lirE g ad1 q))
    rw [lifS (K := K) (x := x) hb2 hb]
  | 9, _, _, _ => rfl
  | 10, _, _, _ => rfl
  | 11, _, _, _ => rfl
  | 12, h, h7, h8 =>
    have h : b < K.1 33 := h
    show (if b < K.1 33 + 1 then some (suiE ad1 b (va_up (ksu K) (K.1 33) x b)) else none) = (if b < K.1 33 then some (suiE ad1 b (ksu K b)) else none)
    rw [if_pos h, if_pos (by omega), up_ne (by omega)]
  | 13, h, h7, h8 =>
    have h : b / 64 < K.1 33 ∧ b % 64 < (kws K (b / 64)).1 := h
    have e : kws (newS K x) (b / 64) = kws K (b / 64) := newS_ws (by omega)
    show (if b / 64 < K.1 33 + 1 ∧ b % 64 < (kws (newS K x) (b / 64)).1 then some (zob 7 [.ref (ad1 (10, (kws (newS K x) (b / 64)).2.1 (b % 64))), .int (b2i ((kws (newS K x) (b / 64)).2.2 (b % 64)))]) else none) = (if b / 64 < K.1 33 ∧ b % 64 < (kws K (b / 64)).1 then some (zob 7 [.ref (ad1 (10, (kws K (b / 64)).2.1 (b % 64))), .int (b2i ((kws K (b / 64)).2.2 (b % 64)))]) else none)
    rw [e, if_pos h, if_pos ⟨by omega, h.2⟩]
  | _ + 14, _, _, _ => rfl
theorem newS_d (h20 : K.1 33 < 20) {x : zSu} (t : zg) (h14 : t.1 < 14) (h : alv (newS K x) t) (h8 : t ≠ (8, 3)) : alv K t ∨ TS K t = true := by
  obtain ⟨a, b⟩ := t
  match a, h14, h, h8 with
  | 0, _, h, _ => exact Or.inl h
  | 1, _, h, _ => exact Or.inl h
  | 2, _, h, _ => exact Or.inl h
  | 3, _, h, _ => exact Or.inl h
  | 4, _, h, _ => exact Or.inl h
  | 5, _, h, _ => exact Or.inl h
  | 6, _, h, _ => exact Or.inl h
  | 7, _, h, h8 =>
    by_cases hb : b = 3
    · subst hb
      exact Or.inl (alv_7 ⟨_, rfl⟩)
    · by_cases hb2 : b = 4 + K.1 33
      · exact Or.inr (by rw [hb2]; simp [TS])
      · obtain ⟨q, e⟩ := h
        exact Or.inl (alv_7 ⟨q, by rw [← lifS (K := K) (x := x) hb2 hb]; exact e⟩)
  | 8, _, h, h8 =>
    have hb : b ≠ 3 := fun e => h8 (by rw [e])
    obtain ⟨q, e, h0⟩ := h
    have e : linfo (newS K x) b = some q := e
    by_cases hb2 : b = 4 + K.1 33
    · rw [hb2, linfo_new h20] at e
      cases e
      exact absurd rfl h0
    · exact Or.inl (alv_8 ⟨q, by rw [← lifS (K := K) (x := x) hb2 hb]; exact e, h0⟩)
  | 9, _, h, _ => exact Or.inl h
  | 10, _, h, _ => exact Or.inl h
  | 11, _, h, _ => exact Or.inl h
  | 12, _, h, h8 =>
    have h : b < K.1 33 + 1 := h
    by_cases hb : b = K.1 33
    · exact Or.inr (by rw [hb]; simp [TS])
    · exact Or.inl (show b < K.1 33 by omega)
  | 13, _, h, h8 =>
    have h : b / 64 < K.1 33 + 1 ∧ b % 64 < (kws (newS K x) (b / 64)).1 := h
    by_cases hb : b / 64 = K.1 33
    · rw [hb, show kws (newS K x) (K.1 33) = (0, fun _ => 0, fun _ => false) from up_eq] at h
      exact absurd h.2 (Nat.not_lt_zero _)
    · rw [newS_ws hb] at h
      exact Or.inl (show b / 64 < K.1 33 ∧ b % 64 < (kws K (b / 64)).1 from ⟨by omega, h.2⟩)
  | _ + 14, h, _, _ => exact absurd h (by show ¬ _ + 14 < 14; omega)
theorem growS (hp : zP g K X ad M) (hw : iWf K) (h20 : K.1 33 < 20) {x : zSu} (hx : x.1 < K.1 13 ∧ x.2.1 < K.1 13) {q qw e1 : Nat} (hq0 : M q = none) (hw0 : M qw = none) (hwl : M1 qw = some (zob 0 [.int 0, .ref (g.2.2.2.1 4), .int 0]))
    (hq : M1 q = some (zob 6 (suiF (ad (10, x.1)) (ad (10, x.2.1)) x.2.2.1 x.2.2.2.1 qw x.2.2.2.2.1 (b2i x.2.2.2.2.2.1) x.2.2.2.2.2.2.1 x.2.2.2.2.2.2.2.1 (b2i x.2.2.2.2.2.2.2.2)))) (hl : M1 (ad (7, 3)) = some (zob 0 [.int (nI (K.1 33 + 1)), .ref e1, .int (nI (K.1 33 + 1))])) (hr : M1 e1 = some (zao g (lcap (K.1 33 + 1)) (va_up (fun i => if i < K.1 33 then some (ad (12, i)) else none) (K.1 33) (some q))))
    (he : (e1 = ad (8, 3) ∧ lcap (K.1 33) ≠ 0) ∨ M e1 = none) (hf : ∀ z e, M z = some e → z ≠ ad (7, 3) → (lcap (K.1 33) ≠ 0 → z ≠ ad (8, 3)) → M1 z = some e) : ∃ ad1, zP g (newS K x) X ad1 M1 ∧ ∀ t : zg, t ≠ (12, K.1 33) → t ≠ (7, 4 + K.1 33) → t ≠ (8, 3) → ad1 t = ad t := by
  have r1 : q ≠ qw := zob_dif hq hwl (by decide)
  have s1 : e1 ≠ q := (zob_ao hq hr).symm
  have s2 : e1 ≠ qw := (zob_ao hwl hr).symm
  obtain ⟨ad0, had0⟩ : ∃ ad0 : zg → Nat, ad0 = fun t => if t.1 = 12 then q else qw := ⟨_, rfl⟩
  have z1 : ad0 (12, K.1 33) = q := by rw [had0]; rfl
  have z2 : ad0 (7, 4 + K.1 33) = qw := by rw [had0]; rfl
  obtain ⟨ad1, h1, h2, h3⟩ := hp.growL (K1 := newS K x) (M1 := M1) (e1 := e1) (by omega) hw 3 (el := fun i => (12, i)) rfl rfl (by omega) (TS K) ad0 (fun t h ha => by
      rcases TS_of h with e | e <;> subst e
      · exact absurd (show K.1 33 < K.1 33 from ha) (by omega)
      · obtain ⟨q2, e2⟩ := ha
        have e2 : linfo K (4 + K.1 33) = some q2 := e2
        rw [linfo_dead h20] at e2
        cases e2) (by simp [TS]) (by simp [TS]) hl (by rw [z1]; exact hr) (he.imp id fun h => ⟨h, fun t ht => by
      rcases TS_of ht with e | e <;> subst e
      · rw [z1]; exact s1
      · rw [z2]; exact s2⟩) hf (newS_k h20) (newS_d h20) (fun t h => by
      rcases TS_of h with e | e <;> subst e
      · rw [z1]; exact hq0
      · rw [z2]; exact hw0) (fun t u ht hu e => by
      rcases TS_of ht with a | a <;> rcases TS_of hu with b | b <;> subst a <;> subst b <;> simp only [z1, z2] at e <;> first | rfl | exact absurd e r1 | exact absurd e.symm r1) (fun ad1 ht ho t e h hv => by
      rcases TS_of h with a | a <;> subst a
      · have e1 : kva g (newS K x) ad1 X (12, K.1 33) = some (suiE ad1 (K.1 33) x) := by
          show (if K.1 33 < K.1 33 + 1 then some (suiE ad1 (K.1 33) (va_up (ksu K) (K.1 33) x (K.1 33))) else none) = _
          rw [if_pos (Nat.lt_succ_self _), up_eq]
        rw [e1] at hv
        rw [z1, hq, ← hv]
        unfold suiE
        rw [ho (10, x.1) (TS_no (by simp) (by simp)) (by simp), ho (10, x.2.1) (TS_no (by simp) (by simp)) (by simp), ht (7, 4 + K.1 33) (by simp [TS]), z2]
      · have e1 : kva g (newS K x) ad1 X (7, 4 + K.1 33) = some (zob 0 [.int 0, .ref (g.2.2.2.1 4), .int 0]) := by
          show (linfo (newS K x) (4 + K.1 33)).map (lisE g ad1 (4 + K.1 33)) = _
          rw [linfo_new h20]
          rfl
        rw [e1] at hv
        rw [z2, hwl, ← hv])
  exact ⟨ad1, h1, fun t a b c => h3 t (TS_no a b) c⟩
def newW (K : zK) (s p : Nat) (b : Bool) : zK := sws K s ((kws K s).1 + 1, va_up (kws K s).2.1 (kws K s).1 p, va_up (kws K s).2.2 (kws K s).1 b)
theorem lifW {s p : Nat} {bb : Bool} {j : Nat} (hs : s < 20) (hj : j ≠ 4 + s) : linfo (newW K s p bb) j = linfo K j := by
  refine lifg (K := K) (K1 := newW K s p bb) (4 + s) (fun _ => rfl) (fun _ => rfl) (fun _ => rfl) (fun _ => rfl) (fun h4 h24 => ?_) rfl hj
  rw [show kws (newW K s p bb) (j - 4) = kws K (j - 4) from up_ne (by omega)]
  rfl
theorem newW_k {s p : Nat} {bb : Bool} (hs : s < K.1 33) (h33 : K.1 33 ≤ 20) (ad1 : zg → Nat) (t : zg) (h : alv K t) (h7 : t ≠ (7, 4 + s)) (h8 : t ≠ (8, 4 + s)) : kva g (newW K s p bb) ad1 X t = kva g K ad1 X t := by
  obtain ⟨a, b⟩ := t
  match a, h, h7, h8 with
  | 0, _, _, _ => rfl
  | 1, _, _, _ => rfl
  | 2, _, _, _ => rfl
  | 3, _, _, _ => rfl
  | 4, _, _, _ => rfl
  | 5, _, _, _ => rfl
  | 6, _, _, _ => rfl
  | 7, h, h7, h8 =>
    have hb : b ≠ 4 + s := fun e => h7 (by rw [e])
    show (linfo _ b).map (lisE g ad1 b) = (linfo K b).map (lisE g ad1 b)
    rw [lifW (K := K) (s := s) (p := p) (bb := bb) (by omega) hb]
  | 8, h, h7, h8 =>
    have hb : b ≠ 4 + s := fun e => h8 (by rw [e])
    show ((linfo _ b).bind fun q => if q.2.1 = 0 then none else some (lirE g ad1 q)) = ((linfo K b).bind fun q => if q.2.1 = 0 then none else some (lirE g ad1 q))
    rw [lifW (K := K) (s := s) (p := p) (bb := bb) (by omega) hb]
  | 9, _, _, _ => rfl
  | 10, _, _, _ => rfl
  | 11, _, _, _ => rfl
  | 12, _, _, _ => rfl
  | 13, h, h7, h8 =>
    have h : b / 64 < K.1 33 ∧ b % 64 < (kws K (b / 64)).1 := h
    show (if b / 64 < K.1 33 ∧ b % 64 < (kws (newW K s p bb) (b / 64)).1 then some (zob 7 [.ref (ad1 (10, (kws (newW K s p bb) (b / 64)).2.1 (b % 64))), .int (b2i ((kws (newW K s p bb) (b / 64)).2.2 (b % 64)))]) else none) = (if b / 64 < K.1 33 ∧ b % 64 < (kws K (b / 64)).1 then some (zob 7 [.ref (ad1 (10, (kws K (b / 64)).2.1 (b % 64))), .int (b2i ((kws K (b / 64)).2.2 (b % 64)))]) else none)
    by_cases e : b / 64 = s
    · rw [e] at h ⊢
      rw [show kws (newW K s p bb) s = ((kws K s).1 + 1, va_up (kws K s).2.1 (kws K s).1 p, va_up (kws K s).2.2 (kws K s).1 bb) from up_eq, if_pos h, if_pos ⟨h.1, by show _ < (kws K s).1 + 1; omega⟩]
      show some (zob 7 [.ref (ad1 (10, va_up (kws K s).2.1 (kws K s).1 p (b % 64))), .int (b2i (va_up (kws K s).2.2 (kws K s).1 bb (b % 64)))]) = _
      rw [up_ne (by omega), up_ne (by omega)]
    · rw [show kws (newW K s p bb) (b / 64) = kws K (b / 64) from up_ne e]
  | _ + 14, _, _, _ => rfl
theorem newW_d {s p : Nat} {bb : Bool} (hs : s < K.1 33) (h33 : K.1 33 ≤ 20) (t : zg) (h14 : t.1 < 14) (h : alv (newW K s p bb) t) (h8 : t ≠ (8, 4 + s)) : alv K t ∨ decide (t = (13, 64 * s + (kws K s).1)) = true := by
  obtain ⟨a, b⟩ := t
  match a, h14, h, h8 with
  | 0, _, h, _ => exact Or.inl h
  | 1, _, h, _ => exact Or.inl h
  | 2, _, h, _ => exact Or.inl h
  | 3, _, h, _ => exact Or.inl h
  | 4, _, h, _ => exact Or.inl h
  | 5, _, h, _ => exact Or.inl h
  | 6, _, h, _ => exact Or.inl h
  | 7, _, h, h8 =>
    by_cases hb : b = 4 + s
    · subst hb
      exact Or.inl (alv_7 ⟨_, linfo_w hs h33⟩)
    · obtain ⟨q, e⟩ := h
      exact Or.inl (alv_7 ⟨q, by rw [← lifW (K := K) (s := s) (p := p) (bb := bb) (by omega) hb]; exact e⟩)
  | 8, _, h, h8 =>
    have hb : b ≠ 4 + s := fun e => h8 (by rw [e])
    obtain ⟨q, e, h0⟩ := h
    exact Or.inl (alv_8 ⟨q, by rw [← lifW (K := K) (s := s) (p := p) (bb := bb) (by omega) hb]; exact e, h0⟩)
  | 9, _, h, _ => exact Or.inl h
  | 10, _, h, _ => exact Or.inl h
  | 11, _, h, _ => exact Or.inl h
  | 12, _, h, _ => exact Or.inl h
  | 13, _, h, h8 =>
    have h : b / 64 < K.1 33 ∧ b % 64 < (kws (newW K s p bb) (b / 64)).1 := h
    by_cases e : b / 64 = s
    · rw [e, show kws (newW K s p bb) s = ((kws K s).1 + 1, va_up (kws K s).2.1 (kws K s).1 p, va_up (kws K s).2.2 (kws K s).1 bb) from up_eq] at h
      have h2 : b % 64 < (kws K s).1 + 1 := h.2
      by_cases e2 : b % 64 = (kws K s).1
      · exact Or.inr (decide_eq_true (by rw [← e2, ← e]; congr 1; omega))
      · exact Or.inl (show b / 64 < K.1 33 ∧ b % 64 < (kws K (b / 64)).1 by rw [e]; exact ⟨hs, by omega⟩)
    · rw [show kws (newW K s p bb) (b / 64) = kws K (b / 64) from up_ne e] at h
      exact Or.inl h
  | _ + 14, h, _, _ => exact absurd h (by show ¬ _ + 14 < 14; omega)
theorem growW (hp : zP g K X ad M) (hw : iWf K) {s p : Nat} {bb : Bool} (hs : s < K.1 33) (h33 : K.1 33 ≤ 20) (hn : (kws K s).1 ≤ 40) (hpn : p < K.1 13) {q e1 : Nat} (hq0 : M q = none) (hq : M1 q = some (zob 7 [.ref (ad (10, p)), .int (b2i bb)])) (hl : M1 (ad (7, 4 + s)) = some (zob 0 [.int (nI ((kws K s).1 + 1)), .ref e1, .int (nI ((kws K s).1 + 1))])) (hr : M1 e1 = some (zao g (lcap ((kws K s).1 + 1)) (va_up (fun i => if i < (kws K s).1 then some (ad (13, 64 * s + i)) else none) (kws K s).1 (some q))))
    (he : (e1 = ad (8, 4 + s) ∧ lcap (kws K s).1 ≠ 0) ∨ M e1 = none) (hf : ∀ z e, M z = some e → z ≠ ad (7, 4 + s) → (lcap (kws K s).1 ≠ 0 → z ≠ ad (8, 4 + s)) → M1 z = some e) : ∃ ad1, zP g (newW K s p bb) X ad1 M1 ∧ ∀ t : zg, t ≠ (13, 64 * s + (kws K s).1) → t ≠ (8, 4 + s) → ad1 t = ad t := by
  have s1 : e1 ≠ q := (zob_ao hq hr).symm
  have dt : ∀ t : zg, decide (t = (13, 64 * s + (kws K s).1)) = true → t = (13, 64 * s + (kws K s).1) := fun t h => of_decide_eq_true h
  have d64 : (64 * s + (kws K s).1) / 64 = s := by omega
  have m64 : (64 * s + (kws K s).1) % 64 = (kws K s).1 := by omega
  have li : linfo (newW K s p bb) (4 + s) = some (lof ((kws K s).1 + 1) (fun i => (13, 64 * s + i))) := by
    rw [linfo_w (K := newW K s p bb) hs h33, show kws (newW K s p bb) s = ((kws K s).1 + 1, va_up (kws K s).2.1 (kws K s).1 p, va_up (kws K s).2.2 (kws K s).1 bb) from up_eq]
  obtain ⟨ad1, h1, h2, h3⟩ := hp.growL (K1 := newW K s p bb) (M1 := M1) (e1 := e1) h33 hw (4 + s) (el := fun i => (13, 64 * s + i)) (linfo_w hs h33) li (by omega) (fun t => decide (t = (13, 64 * s + (kws K s).1))) (fun _ => q) (fun t h ha => by
      rw [dt t h] at ha
      have ha : (64 * s + (kws K s).1) / 64 < K.1 33 ∧ (64 * s + (kws K s).1) % 64 < (kws K ((64 * s + (kws K s).1) / 64)).1 := ha
      rw [d64, m64] at ha
      omega) (by simp) (by simp) hl hr (he.imp id fun h => ⟨h, fun _ _ => s1⟩) hf (newW_k hs h33) (newW_d hs h33) (fun _ _ => hq0) (fun t u h1 h2 _ => by rw [dt t h1, dt u h2]) (fun ad1 ht ho t e h hv => by
      rw [dt t h] at hv
      have e1 : kva g (newW K s p bb) ad1 X (13, 64 * s + (kws K s).1) = some (zob 7 [.ref (ad1 (10, p)), .int (b2i bb)]) := by
        show (if (64 * s + (kws K s).1) / 64 < K.1 33 ∧ (64 * s + (kws K s).1) % 64 < (kws (newW K s p bb) ((64 * s + (kws K s).1) / 64)).1 then some (zob 7 [.ref (ad1 (10, (kws (newW K s p bb) ((64 * s + (kws K s).1) / 64)).2.1 ((64 * s + (kws K s).1) % 64))), .int (b2i ((kws (newW K s p bb) ((64 * s + (kws K s).1) / 64)).2.2 ((64 * s + (kws K s).1) % 64)))]) else none) = _
        rw [d64, m64, show kws (newW K s p bb) s = ((kws K s).1 + 1, va_up (kws K s).2.1 (kws K s).1 p, va_up (kws K s).2.2 (kws K s).1 bb) from up_eq, if_pos ⟨hs, Nat.lt_succ_self _⟩]
        show some (zob 7 [.ref (ad1 (10, va_up (kws K s).2.1 (kws K s).1 p (kws K s).1)), .int (b2i (va_up (kws K s).2.2 (kws K s).1 bb (kws K s).1))]) = _
        rw [up_eq, up_eq]
      rw [e1] at hv
      rw [← hv, hq, ho (10, p) (by simp) (by simp)])
  exact ⟨ad1, h1, fun t a b => h3 t (decide_eq_false a) b⟩
end K19
