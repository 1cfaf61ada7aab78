/-- what lives -/
def alv (K : zK) (t : zg) : Prop := match t.1 with
  | 0 => t.2 = 0
  | 1 => t.2 ≤ K.1 2
  | 2 => t.2 ≤ K.1 2
  | 3 => chA K t.2
  | 4 => chA K t.2
  | 5 => chA K t.2
  | 6 => t.2 = 0
  | 7 => ∃ q, linfo K t.2 = some q
  | 8 => ∃ q, linfo K t.2 = some q ∧ q.2.1 ≠ 0
  | 9 => t.2 < K.1 2
  | 10 => t.2 < K.1 13
  | 11 => t.2 < K.1 25
  | 12 => t.2 < K.1 33
  | 13 => t.2 / 64 < K.1 33 ∧ t.2 % 64 < (kws K (t.2 / 64)).1
  | _ => True
/-- lists that are thrown away hold persons that there are -/
def iTl (K : zK) : Prop := ∀ j q, ktl K j = some q → ∀ i, i < q.1 → q.2.2.2 i < K.1 13
def iWf (K : zK) : Prop := (iMa K ∧ iSui K ∧ iPa K) ∧ iWi K ∧ iW4 K ∧ iTl K
theorem alv_l {K : zK} {l : Nat} (h : l ≤ K.1 2) : alv K (1, l) := h
theorem alv_c {K : zK} {i : Nat} (h : chA K i) : alv K (3, i) := h
theorem alv_p {K : zK} {p : Nat} (h : p < K.1 13) : alv K (10, p) := h
theorem alv_7 {K : zK} {j : Nat} (h : ∃ q, linfo K j = some q) : alv K (7, j) := h
theorem alv_8 {K : zK} {j : Nat} (h : ∃ q, linfo K j = some q ∧ q.2.1 ≠ 0) : alv K (8, j) := h
theorem if_ne {α : Type} {P : Prop} [h : Decidable P] {x : α} (h1 : (if P then some x else none) ≠ none) : P := by
  by_cases hp : P
  · exact hp
  · rw [if_neg hp] at h1; exact absurd rfl h1
section K15
variable {g : zGh} {K : zK} {X : zg → Option va_E} {ad ad1 : zg → Nat} {M M1 : zM}
theorem alv_of {t : zg} (h : kva g K ad X t ≠ none) : alv K t := by
  obtain ⟨a, b⟩ := t
  match a, h with
  | 0, h => exact (if_ne (P := b = 0) h : b = 0)
  | 1, h => exact (if_ne (P := b ≤ K.1 2) h : b ≤ K.1 2)
  | 2, h => exact (if_ne (P := b ≤ K.1 2) h : b ≤ K.1 2)
  | 3, h => exact (if_ne (P := chA K b) h : chA K b)
  | 4, h => exact (if_ne (P := chA K b) h : chA K b)
  | 5, h => exact (if_ne (P := chA K b) h : chA K b)
  | 6, h => exact (if_ne (P := b = 0) h : b = 0)
  | 7, h =>
    have h : (linfo K b).map (lisE g ad b) ≠ none := h
    cases e : linfo K b with
    | none => rw [e] at h; exact absurd rfl h
    | some q => exact ⟨q, e⟩
  | 8, h =>
    have h : ((linfo K b).bind fun q => if q.2.1 = 0 then none else some (lirE g ad q)) ≠ none := h
    cases e : linfo K b with
    | none => rw [e] at h; exact absurd rfl h
    | some q =>
      refine ⟨q, e, fun h0 => ?_⟩
      rw [e] at h
      exact h (if_pos h0)
  | 9, h => exact (if_ne (P := b < K.1 2) h : b < K.1 2)
  | 10, h => exact (if_ne (P := b < K.1 13) h : b < K.1 13)
  | 11, h => exact (if_ne (P := b < K.1 25) h : b < K.1 25)
  | 12, h => exact (if_ne (P := b < K.1 33) h : b < K.1 33)
  | 13, h => exact (if_ne (P := b / 64 < K.1 33 ∧ b % 64 < (kws K (b / 64)).1) h : b / 64 < K.1 33 ∧ b % 64 < (kws K (b / 64)).1)
  | _ + 14, _ => trivial
theorem of_alv {t : zg} (h : alv K t) (h14 : t.1 < 14) : kva g K ad X t ≠ none := by
  obtain ⟨a, b⟩ := t
  match a, h, h14 with
  | 0, h, _ => have h : b = 0 := h; show (if b = 0 then _ else none) ≠ none; rw [if_pos h]; simp
  | 1, h, _ => have h : b ≤ K.1 2 := h; show (if b ≤ K.1 2 then _ else none) ≠ none; rw [if_pos h]; simp
  | 2, h, _ => have h : b ≤ K.1 2 := h; show (if b ≤ K.1 2 then _ else none) ≠ none; rw [if_pos h]; simp
  | 3, h, _ => have h : chA K b := h; show (if chA K b then _ else none) ≠ none; rw [if_pos h]; simp
  | 4, h, _ => have h : chA K b := h; show (if chA K b then _ else none) ≠ none; rw [if_pos h]; simp
  | 5, h, _ => have h : chA K b := h; show (if chA K b then _ else none) ≠ none; rw [if_pos h]; simp
  | 6, h, _ => have h : b = 0 := h; show (if b = 0 then _ else none) ≠ none; rw [if_pos h]; simp
  | 7, h, _ =>
    obtain ⟨q, e⟩ := h
    have e : linfo K b = some q := e
    show (linfo K b).map (lisE g ad b) ≠ none
    rw [e]; simp
  | 8, h, _ =>
    obtain ⟨q, e, h0⟩ := h
    have e : linfo K b = some q := e
    show ((linfo K b).bind fun q => if q.2.1 = 0 then none else some (lirE g ad q)) ≠ none
    rw [e]
    show (if q.2.1 = 0 then none else some (lirE g ad q)) ≠ none
    rw [if_neg h0]; simp
  | 9, h, _ => have h : b < K.1 2 := h; show (if b < K.1 2 then _ else none) ≠ none; rw [if_pos h]; simp
  | 10, h, _ => have h : b < K.1 13 := h; show (if b < K.1 13 then _ else none) ≠ none; rw [if_pos h]; simp
  | 11, h, _ => have h : b < K.1 25 := h; show (if b < K.1 25 then _ else none) ≠ none; rw [if_pos h]; simp
  | 12, h, _ => have h : b < K.1 33 := h; show (if b < K.1 33 then _ else none) ≠ none; rw [if_pos h]; simp
  | 13, h, _ => have h : b / 64 < K.1 33 ∧ b % 64 < (kws K (b / 64)).1 := h; show (if b / 64 < K.1 33 ∧ b % 64 < (kws K (b / 64)).1 then _ else none) ≠ none; rw [if_pos h]; simp
/-- what a list that lives refers to lives -/
theorem linfo_alv (h25 : K.1 33 ≤ 20) (hw : iWf K) {j : Nat} {q : zLi} (h : linfo K j = some q) {i : Nat} (hi : i < q.1) : alv K (q.2.2.2 i) ∧ (q.2.2.2 i).1 ≠ 8 := by
  unfold linfo lof at h
  split at h
  · cases h; exact ⟨(show i < K.1 2 from hi), (show (9 : Nat) ≠ 8 by decide)⟩
  · split at h
    · cases h; exact ⟨(show i < K.1 13 from hi), (show (10 : Nat) ≠ 8 by decide)⟩
    · split at h
      · cases h; exact ⟨(show i < K.1 25 from hi), (show (11 : Nat) ≠ 8 by decide)⟩
      · split at h
        · cases h; exact ⟨(show i < K.1 33 from hi), (show (12 : Nat) ≠ 8 by decide)⟩
        · split at h
          · split at h
            · rename_i h4
              cases h
              have hi : i < (kws K (j - 4)).1 := hi
              have := hw.2.2.1 (j - 4)
              have e1 : (64 * (j - 4) + i) / 64 = j - 4 := by omega
              have e2 : (64 * (j - 4) + i) % 64 = i := by omega
              refine ⟨?_, (show (13 : Nat) ≠ 8 by decide)⟩
              show (64 * (j - 4) + i) / 64 < K.1 33 ∧ (64 * (j - 4) + i) % 64 < (kws K ((64 * (j - 4) + i) / 64)).1
              rw [e1, e2]
              exact ⟨h4, hi⟩
            · cases h
          · cases e : ktl K j with
            | none => rw [e] at h; cases h
            | some x => rw [e] at h; cases h; exact ⟨(show x.2.2.2 i < K.1 13 from hw.2.2.2 j x e i hi), (show (10 : Nat) ≠ 8 by decide)⟩
/-- addresses changed but where something lives -/
theorem kva_ad (h33 : K.1 33 ≤ 20) (hw : iWf K) {j0 : Nat} (hs : ∀ t, alv K t → t ≠ (8, j0) → ad1 t = ad t) {u : zg} (hu : alv K u) (h7 : u ≠ (7, j0)) : kva g K ad1 X u = kva g K ad X u := by
  have h8 : ∀ a b, a ≠ 8 → alv K (a, b) → ad1 (a, b) = ad (a, b) := fun a b ha h => hs _ h (fun e => ha (congrArg Prod.fst e))
  obtain ⟨a, b⟩ := u
  match a, hu, h7 with
  | 0, hu, _ =>
    have e : mainE ad1 K = mainE ad K := by
      unfold mainE
      rw [h8 1 0 (by decide) (Nat.zero_le _), h8 7 0 (by decide) ⟨_, rfl⟩, h8 6 0 (by decide) rfl, h8 7 1 (by decide) ⟨_, rfl⟩, h8 7 2 (by decide) ⟨_, rfl⟩, h8 7 3 (by decide) ⟨_, rfl⟩]
    show (if b = 0 then some (mainE ad1 K) else none) = (if b = 0 then some (mainE ad K) else none)
    rw [e]
  | 1, hu, _ =>
    show (if b ≤ K.1 2 then some (zob 3 [.ref (ad1 (2, b))]) else none) = (if b ≤ K.1 2 then some (zob 3 [.ref (ad (2, b))]) else none)
    rw [h8 2 b (by decide) hu]
  | 2, hu, _ =>
    have hu : b ≤ K.1 2 := hu
    show (if b ≤ K.1 2 then some (zac g 7 (fun w => if w < 7 then some (ad1 (3, lch b w)) else none)) else none) = (if b ≤ K.1 2 then some (zac g 7 (fun w => if w < 7 then some (ad (3, lch b w)) else none)) else none)
    rw [show (fun w => if w < 7 then some (ad1 (3, lch b w)) else none) = (fun w => if w < 7 then some (ad (3, lch b w)) else none) from funext fun w => by
      split
      · rename_i h; rw [h8 3 _ (by decide) (alv_c (chA_law hu h))]
      · rfl]
  | 3, hu, _ =>
    show (if chA K b then some (chrE ad1 b (kch K b)) else none) = (if chA K b then some (chrE ad b (kch K b)) else none)
    unfold chrE
    rw [h8 4 b (by decide) hu, h8 5 b (by decide) hu]
  | 4, _, _ => rfl
  | 5, _, _ => rfl
  | 6, _, _ =>
    show (if b = 0 then some (zac g 4 (fun w => if w < 4 then some (ad1 (3, w)) else none)) else none) = (if b = 0 then some (zac g 4 (fun w => if w < 4 then some (ad (3, w)) else none)) else none)
    rw [show (fun w => if w < 4 then some (ad1 (3, w)) else none) = (fun w => if w < 4 then some (ad (3, w)) else none) from funext fun w => by
      split
      · rename_i h; rw [h8 3 w (by decide) (alv_c (Or.inl h))]
      · rfl]
  | 7, hu, h7 =>
    obtain ⟨q, e⟩ := hu
    have e : linfo K b = some q := e
    show (linfo K b).map (lisE g ad1 b) = (linfo K b).map (lisE g ad b)
    rw [e]
    show some (lisE g ad1 b q) = some (lisE g ad b q)
    unfold lisE
    split
    · rfl
    · rename_i h0
      rw [hs (8, b) ⟨q, e, h0⟩ (fun e2 => h7 (by cases e2; rfl))]
  | 8, hu, _ =>
    obtain ⟨q, e, h0⟩ := hu
    have e : linfo K b = some q := e
    show ((linfo K b).bind fun q => if q.2.1 = 0 then none else some (lirE g ad1 q)) = ((linfo K b).bind fun q => if q.2.1 = 0 then none else some (lirE g ad q))
    rw [e]
    show (if q.2.1 = 0 then none else some (lirE g ad1 q)) = (if q.2.1 = 0 then none else some (lirE g ad q))
    unfold lirE
    rw [show (fun i => if i < q.1 then some (ad1 (q.2.2.2 i)) else none) = (fun i => if i < q.1 then some (ad (q.2.2.2 i)) else none) from funext fun i => by
      split
      · rename_i h
        obtain ⟨h1, h2⟩ := linfo_alv h33 hw e h
        rw [hs _ h1 (fun e2 => h2 (congrArg Prod.fst e2))]
      · rfl]
  | 9, hu, _ =>
    have hu : b < K.1 2 := hu
    show (if b < K.1 2 then some (zob 2 [.ref (ad1 (1, b + 1)), .ref (ad1 (3, rch b))]) else none) = (if b < K.1 2 then some (zob 2 [.ref (ad (1, b + 1)), .ref (ad (3, rch b))]) else none)
    rw [h8 1 (b + 1) (by decide) (alv_l hu), h8 3 (rch b) (by decide) (alv_c (chA_rec hu))]
  | 10, hu, _ =>
    have hu : b < K.1 13 := hu
    have hpa := hw.1.2.2 b hu
    have e1 : ∀ r : Option Nat, (∀ q, r = some q → q < b) → (r.map fun q => ad1 (10, q)) = (r.map fun q => ad (10, q)) := fun r hr => by
      cases r with
      | none => rfl
      | some q => show some (ad1 (10, q)) = some (ad (10, q)); rw [h8 10 q (by decide) (Nat.lt_trans (hr q rfl) hu)]
    show (if b < K.1 13 then some (perE ad1 b (kpe K b)) else none) = (if b < K.1 13 then some (perE ad b (kpe K b)) else none)
    unfold perE
    rw [e1 _ hpa.1, e1 _ hpa.2, h8 3 (100 + b) (by decide) (alv_c (chA_per hu))]
  | 11, hu, _ =>
    have hu : b < K.1 25 := hu
    have hm := hw.1.1 b hu
    show (if b < K.1 25 then some (marE ad1 (kma K b)) else none) = (if b < K.1 25 then some (marE ad (kma K b)) else none)
    unfold marE
    rw [h8 10 _ (by decide) (alv_p hm.1), h8 10 _ (by decide) (alv_p hm.2.1)]
  | 12, hu, _ =>
    have hu : b < K.1 33 := hu
    have hm := hw.1.2.1 b hu
    show (if b < K.1 33 then some (suiE ad1 b (ksu K b)) else none) = (if b < K.1 33 then some (suiE ad b (ksu K b)) else none)
    unfold suiE
    rw [h8 10 _ (by decide) (alv_p hm.1), h8 10 _ (by decide) (alv_p hm.2.1), h8 7 (4 + b) (by decide) (alv_7 ⟨_, linfo_w hu h33⟩)]
  | 13, hu, _ =>
    have hu : b / 64 < K.1 33 ∧ b % 64 < (kws K (b / 64)).1 := hu
    show (if b / 64 < K.1 33 ∧ b % 64 < (kws K (b / 64)).1 then some (zob 7 [.ref (ad1 (10, (kws K (b / 64)).2.1 (b % 64))), .int (b2i ((kws K (b / 64)).2.2 (b % 64)))]) else none) = _
    rw [h8 10 _ (by decide) (alv_p (hw.2.1 _ _ hu.1 hu.2))]
    rfl
  | _ + 14, _, _ => rfl
/-- a picture that grows: new things, one list's object and row changed -/
theorem zP.grow {K1 : zK} (hp : zP g K X ad M) (h33 : K.1 33 ≤ 20) (hw : iWf K) (j0 : Nat) (N : zg → Prop) (hs : ∀ t, ¬ N t → ad1 t = ad t) (hN : ∀ t, N t → ¬ alv K t ∨ t = (8, j0))
    (hk : ∀ t, alv K t → t ≠ (7, j0) → t ≠ (8, j0) → kva g K1 ad1 X t = kva g K ad1 X t) (hd : ∀ t, t.1 < 14 → kva g K1 ad1 X t ≠ none → alv K t ∨ N t)
    (hf : ∀ z e, M z = some e → (alv K (7, j0) → z ≠ ad (7, j0)) → (alv K (8, j0) → z ≠ ad (8, j0)) → M1 z = some e) (hnew : ∀ t, N t → kva g K1 ad1 X t ≠ none → M (ad1 t) = none)
    (hinj : ∀ t u, N t → N u → kva g K1 ad1 X t ≠ none → kva g K1 ad1 X u ≠ none → ad1 t = ad1 u → t = u) (hval : ∀ t e, (N t ∨ t = (7, j0) ∨ t = (8, j0)) → kva g K1 ad1 X t = some e → M1 (ad1 t) = some e) : zP g K1 X ad1 M1 := by
  have hsa : ∀ t, alv K t → t ≠ (8, j0) → ad1 t = ad t := fun t h h8 => hs t (fun hn => (hN t hn).elim (fun e => e h) h8)
  have hx : ∀ t, alv K t → t ≠ (7, j0) → t ≠ (8, j0) → kva g K1 ad1 X t = kva g K ad X t := fun t h h7 h8 => (hk t h h7 h8).trans (kva_ad h33 hw hsa h h7)
  have al7 : alv K (7, j0) → kva g K ad X (7, j0) ≠ none := fun h => of_alv h (by show 7 < 14; decide)
  have al8 : alv K (8, j0) → kva g K ad X (8, j0) ≠ none := fun h => of_alv h (by show 8 < 14; decide)
  have h14 : ∀ t : zg, 14 ≤ t.1 → alv K t := fun t h => by
    obtain ⟨a, b⟩ := t
    obtain ⟨c, rfl⟩ : ∃ c, a = c + 14 := ⟨a - 14, by have : 14 ≤ a := h; omega⟩
    trivial
  refine zPic.mk' hp N (fun t e ht => ?_) (fun t ht => ?_) (fun t hn ht => hnew t hn ht) hinj
  · by_cases hn : N t ∨ t = (7, j0) ∨ t = (8, j0)
    · exact hval t e hn ht
    · have hn1 : ¬ N t := fun h => hn (Or.inl h)
      have hn7 : t ≠ (7, j0) := fun h => hn (Or.inr (Or.inl h))
      have hn8 : t ≠ (8, j0) := fun h => hn (Or.inr (Or.inr h))
      have ha : alv K t := by
        by_cases h : t.1 < 14
        · exact (hd t h (by rw [ht]; simp)).resolve_right hn1
        · exact h14 t (by omega)
      rw [hx t ha hn7 hn8] at ht
      rw [hs t hn1]
      exact hf _ e (hp.1 t e ht) (fun h e2 => hn7 (hp.2 t _ (by rw [ht]; simp) (al7 h) e2)) (fun h e2 => hn8 (hp.2 t _ (by rw [ht]; simp) (al8 h) e2))
  · by_cases hn : N t
    · exact Or.inl hn
    · refine Or.inr ⟨?_, hs t hn⟩
      by_cases h : t.1 < 14
      · exact of_alv ((hd t h ht).resolve_right hn) h
      · obtain ⟨a, b⟩ := t
        obtain ⟨c, rfl⟩ : ∃ c, a = c + 14 := ⟨a - 14, by have : ¬ a < 14 := h; omega⟩
        exact ht
theorem zP.fresh (hp : zP g K X ad M) {q : Nat} {e : va_E} (hq : M q = none) : zP g K X ad (zup M q e) := zPic.keep hp (fun t f _ hM => by rw [zup_ne (znone hM hq)]; exact hM)
theorem zP.keepM (hp : zP g K X ad M) (hf : ∀ z e, M z = some e → M1 z = some e) : zP g K X ad M1 := zPic.keep hp (fun t f _ hM => hf _ _ hM)
end K15
theorem lcap_step : ∀ n, n ≤ 48 → n = 0 ∨ (n < lcap n ∧ lcap (n + 1) = lcap n ∧ 10 ≤ lcap n ∧ lcap n ≤ 49) ∨ (n = lcap n ∧ lcap (n + 1) = n + n / 2 ∧ 10 ≤ n) := by decide +kernel
theorem lcap_full : ∀ n, n ≤ 48 → n = lcap n → 10 ≤ n → n = 10 ∨ n = 15 ∨ n = 22 ∨ n = 33 := by decide +kernel
/-- adding to a list -/
theorem zaddl {g : zGh} {X : zX} {own : String} {cc : ByteArray} {nL fr lc mc ms : Nat} {M : zM} {k n pc : Nat} {L : List (Option Value)} {rest : List Value} (C : zC g X own cc nL fr lc mc ms) {idx a ea len v0 ci : Nat} {vs : List Value} {r : vw_C} {f : Nat → Option Nat}
    (hA : M a = some (zob 0 [.int (nI len), .ref (if lcap len = 0 then g.2.2.2.1 4 else ea), .int (nI len)])) (hE : lcap len ≠ 0 → M ea = some (zao g (lcap len) f)) (hlen : len ≤ 48) (hf : ∀ i, len ≤ i → f i = none) (hel : zEl M ci len f)
    (hc : vwCl[ci]? = some r) (hw : Cond.castable r.1 "java/lang/Object" ∈ lw_tbl) (hci : ci ≠ 0) (hv : M v0 = some (zob ci vs)) (hl : Cond.methodLink own idx yJx4a65c_add_9ea2d ∈ GW) (hL : L.length = nL) (hfr : 7 ≤ fr) (hlc : 171 ≤ lc) (hmc : k + 1 ≤ mc) (hms : n + 64 ≤ ms) (hcat : (rest.map fun v => v.category).sum ≤ 8) (hd : decode cc pc = .ok (.invokevirtual idx, 3))
    (kk : ∀ (M1 : zM) (e1 : Nat), M1 a = some (zob 0 [.int (nI (len + 1)), .ref e1, .int (nI (len + 1))]) → M1 e1 = some (zao g (lcap (len + 1)) (va_up f len (some v0))) → ((e1 = ea ∧ lcap len ≠ 0) ∨ M e1 = none) → (∀ q e, M q = some e → q ≠ a → (lcap len ≠ 0 → q ≠ ea) → M1 q = some e) → zG g X M1 (k + 1) (n + 64) (pc + 3) L (.int 1 :: rest)) :
    zG g X M k n pc L (.ref v0 :: .ref a :: rest) := by
  have ab : a ≠ v0 := zob_dif hA hv (Ne.symm hci)
  have ni : nI len + 1 = nI (len + 1) := nI_1 len
  rcases lcap_step len hlen with h0 | ⟨h1, h2, h3, h4⟩ | ⟨h1, h2, h3⟩
  · subst h0
    have hf0 : f = fun _ => none := funext fun i => hf i (Nat.zero_le _)
    rw [if_pos (show lcap 0 = 0 from rfl)] at hA
    refine zcallV C (l_addC hA hc hw hci hv) hy_Jx4a65c_add_9ea2d hv_Jx4a65c_add_9ea2d hl hA rfl rfl rfl hL (by omega) (by omega) (by omega) (by omega) rfl hcat hd (fun v M1 ⟨e0, e1, z1, z2, z3⟩ => ?_)
    subst e0
    rw [ni] at z2
    refine zwid (k1 := k + 1) (n1 := n + 64) (by omega) (by omega) (kk M1 e1 z2.1 ?_ (Or.inr z1) (fun q e hq ha _ => z3 q e hq ha))
    rw [hf0]
    exact z2.2.1
  · have hc0 : lcap len ≠ 0 := by omega
    rw [if_neg hc0] at hA
    have hE := hE hc0
    refine zcallV C (l_addA ⟨hA, hE, by omega, h3, by omega⟩ h1 hc hw hci hv) hy_Jx4a65c_add_9ea2d hv_Jx4a65c_add_9ea2d hl hA rfl rfl rfl hL (by omega) (by omega) (by omega) (by omega) rfl hcat hd (fun v M1 ⟨e0, z2, z3⟩ => ?_)
    subst e0
    rw [ni] at z2
    refine zwid (k1 := k + 1) (n1 := n + 64) (by omega) (by omega) (kk M1 ea z2.1 (by rw [h2]; exact z2.2.1) (Or.inl ⟨rfl, hc0⟩) (fun q e hq ha hb => z3 q e hq ha (hb hc0)))
  · have hc0 : lcap len ≠ 0 := by omega
    rw [if_neg hc0] at hA
    have hE := hE hc0
    rw [← h1] at hE
    have hx : extO len f = f := funext fun i => by
      unfold extO
      split
      · rfl
      · rw [hf i (by omega)]
    refine zcallV C (l_addB ⟨hA, hE, Nat.le_refl _, h3, by omega⟩ (by omega) hc hw hci hel hv) hy_Jx4a65c_add_9ea2d hv_Jx4a65c_add_9ea2d hl hA rfl rfl rfl hL (by omega) (by omega) (by omega) (by have h9 : len = 10 ∨ len = 15 ∨ len = 22 ∨ len = 33 := lcap_full len hlen h1 h3; omega) rfl hcat hd (fun v M1 ⟨e0, e1, z1, z2, z3⟩ => ?_)
    subst e0
    rw [ni, hx] at z2
    have h9 : len = 10 ∨ len = 15 ∨ len = 22 ∨ len = 33 := lcap_full len hlen h1 h3
    refine zwid (k1 := k + 1) (n1 := n + 64) (by omega) (by omega) (kk M1 e1 z2.1 (by rw [h2]; exact z2.2.1) (Or.inr z1) (fun q e hq ha _ => z3 q e hq ha))
