section K16
variable {g : zGh} {K : zK} {X : zg → Option va_E} {ad : zg → Nat} {M M1 : zM}
/-- a list gets one thing more, and new things lie in the memory -/
theorem zP.growL {K1 : zK} {e1 : Nat} (hp : zP g K X ad M) (h33 : K.1 33 ≤ 20) (hw : iWf K) (j : Nat) {n : Nat} {el : Nat → zg} (hj : linfo K j = some (lof n el)) (hj1 : linfo K1 j = some (lof (n + 1) el)) (hn : n ≤ 48) (T : zg → Bool) (ad0 : zg → Nat)
    (hT : ∀ t, T t = true → ¬ alv K t) (hT8 : T (8, j) = false) (hel : T (el n) = true) (hl : M1 (ad (7, j)) = some (zob 0 [.int (nI (n + 1)), .ref e1, .int (nI (n + 1))])) (hr : M1 e1 = some (zao g (lcap (n + 1)) (va_up (fun i => if i < n then some (ad (el i)) else none) n (some (ad0 (el n))))))
    (he : (e1 = ad (8, j) ∧ lcap n ≠ 0) ∨ (M e1 = none ∧ ∀ t, T t = true → e1 ≠ ad0 t)) (hf : ∀ z e, M z = some e → z ≠ ad (7, j) → (lcap n ≠ 0 → z ≠ ad (8, j)) → M1 z = some e)
    (hk : ∀ ad1 t, alv K t → t ≠ (7, j) → t ≠ (8, j) → kva g K1 ad1 X t = kva g K ad1 X t) (hd : ∀ t, t.1 < 14 → alv K1 t → t ≠ (8, j) → alv K t ∨ T t = true) (hnew : ∀ t, T t = true → M (ad0 t) = none) (hinj : ∀ t u, T t = true → T u = true → ad0 t = ad0 u → t = u)
    (hval : ∀ ad1 : zg → Nat, (∀ t, T t = true → ad1 t = ad0 t) → (∀ t, T t = false → t ≠ (8, j) → ad1 t = ad t) → ∀ t e, T t = true → kva g K1 ad1 X t = some e → M1 (ad0 t) = some e) :
    ∃ ad1, zP g K1 X ad1 M1 ∧ (∀ t, T t = true → ad1 t = ad0 t) ∧ ∀ t, T t = false → t ≠ (8, j) → ad1 t = ad t := by
  have hc1 : lcap (n + 1) ≠ 0 := by
    rcases lcap_step n hn with h | ⟨_, h, _⟩ | ⟨_, h, _⟩ <;> (try subst h) <;> first | decide | omega
  have a7 : alv K (7, j) := alv_7 ⟨_, hj⟩
  have a8 : lcap n ≠ 0 → alv K (8, j) := fun h => alv_8 ⟨_, hj, h⟩
  have n8 : alv K (8, j) → lcap n ≠ 0 := fun ⟨q, e, h⟩ => by
    have e : linfo K j = some q := e
    rw [hj] at e
    cases e
    exact h
  have hel0 : ∀ i, i < n → T (el i) = false ∧ el i ≠ (8, j) := fun i hi => by
    obtain ⟨h1, h2⟩ := linfo_alv h33 hw hj (i := i) hi
    exact ⟨Bool.eq_false_iff.mpr fun h => hT _ h h1, fun e => h2 (congrArg Prod.fst e)⟩
  obtain ⟨ad1, had⟩ : ∃ ad1 : zg → Nat, ad1 = fun t => if T t = true then ad0 t else if t = (8, j) then e1 else ad t := ⟨_, rfl⟩
  have ht : ∀ t, T t = true → ad1 t = ad0 t := fun t h => by rw [had]; exact if_pos h
  have ho : ∀ t, T t = false → t ≠ (8, j) → ad1 t = ad t := fun t h h8 => by rw [had]; simp [h, h8]
  have h8 : ad1 (8, j) = e1 := by rw [had]; simp [hT8]
  have T7 : T (7, j) = false := Bool.eq_false_iff.mpr fun h => hT _ h a7
  have k7 : kva g K1 ad1 X (7, j) = some (zob 0 [.int (nI (n + 1)), .ref e1, .int (nI (n + 1))]) := by
    show (linfo K1 j).map (lisE g ad1 j) = _
    rw [hj1]
    show some (zob 0 [.int (nI (n + 1)), .ref (if lcap (n + 1) = 0 then g.2.2.2.1 4 else ad1 (8, j)), .int (nI (n + 1))]) = _
    rw [if_neg hc1, h8]
  have k8 : kva g K1 ad1 X (8, j) = some (zao g (lcap (n + 1)) (va_up (fun i => if i < n then some (ad (el i)) else none) n (some (ad0 (el n))))) := by
    show ((linfo K1 j).bind fun q => if q.2.1 = 0 then none else some (lirE g ad1 q)) = _
    rw [hj1]
    show (if lcap (n + 1) = 0 then none else some (zao g (lcap (n + 1)) (fun i => if i < n + 1 then some (ad1 (el i)) else none))) = _
    rw [if_neg hc1]
    congr 2
    funext i
    by_cases h : i = n
    · subst h
      rw [up_eq, if_pos (Nat.lt_succ_self _), ht _ hel]
    · rw [up_ne h]
      by_cases h2 : i < n
      · rw [if_pos h2, if_pos (by omega), ho _ (hel0 i h2).1 (hel0 i h2).2]
      · rw [if_neg h2, if_neg (by omega)]
  refine ⟨ad1, hp.grow h33 hw j (fun t => T t = true ∨ (t = (8, j) ∧ ¬ (e1 = ad (8, j) ∧ lcap n ≠ 0))) (fun t h => ?_) (fun t h => ?_) (fun t a b c => hk ad1 t a b c) (fun t h14 h => ?_) (fun z e hz h7 h8 => hf z e hz (h7 a7) (fun h => h8 (a8 h))) (fun t h _ => ?_) (fun t u h1 h2 _ _ e => ?_) (fun t e h hv => ?_), ht, ho⟩
  · by_cases h1 : t = (8, j)
    · have h2 : e1 = ad (8, j) ∧ lcap n ≠ 0 := Classical.byContradiction fun h3 => h (Or.inr ⟨h1, h3⟩)
      rw [h1, h8, h2.1]
    · exact ho t (Bool.eq_false_iff.mpr fun h3 => h (Or.inl h3)) h1
  · rcases h with h | h
    · exact Or.inl (hT t h)
    · exact Or.inr h.1
  · have ha := alv_of h
    by_cases h1 : t = (8, j)
    · subst h1
      by_cases h2 : lcap n = 0
      · exact Or.inr (Or.inr ⟨rfl, fun h3 => h3.2 h2⟩)
      · exact Or.inl (a8 h2)
    · rcases hd t h14 ha h1 with h2 | h2
      · exact Or.inl h2
      · exact Or.inr (Or.inl h2)
  · rcases h with h | ⟨h, h3⟩
    · rw [ht t h]
      exact hnew t h
    · rw [h, h8]
      exact (he.resolve_left h3).1
  · rcases h1 with h1 | ⟨h1, h3⟩ <;> rcases h2 with h2 | ⟨h2, h4⟩
    · rw [ht t h1, ht u h2] at e
      exact hinj t u h1 h2 e
    · rw [ht t h1, h2, h8] at e
      exact absurd e.symm ((he.resolve_left h4).2 t h1)
    · rw [h1, h8, ht u h2] at e
      exact absurd e ((he.resolve_left h3).2 u h2)
    · rw [h1, h2]
  · by_cases h1 : T t = true
    · rw [ht t h1]
      exact hval ad1 ht ho t e h1 hv
    · by_cases h2 : t = (8, j)
      · rw [h2] at hv ⊢
        rw [h8]
        rw [k8] at hv
        rw [← hv]
        exact hr
      · have h3 : t = (7, j) := by
          rcases h with (h | h) | h | h
          · exact absurd h h1
          · exact absurd h.1 h2
          · exact h
          · exact absurd h h2
        rw [h3] at hv ⊢
        rw [ho _ T7 (by simp), ← hv, k7]
        exact hl
def newM (K : zK) (x : zMa) : zK := sN (sma K (K.1 25) x) 25 (K.1 25 + 1)
theorem lif {K K1 : zK} (h2 : K1.1 2 = K.1 2) (h13 : K1.1 13 = K.1 13) (h33 : K1.1 33 = K.1 33) (hws : kws K1 = kws K) (htl : ktl K1 = ktl K) {j : Nat} (hj : j ≠ 2) : linfo K1 j = linfo K j := by
  unfold linfo
  rw [h2, h13, h33, hws, htl]
  split
  · rfl
  · split
    · rfl
    · rfl
theorem newM_k {x : zMa} (ad1 : zg → Nat) (t : zg) (h : alv K t) (h7 : t ≠ (7, 2)) (h8 : t ≠ (8, 2)) : kva g (newM K x) ad1 X t = kva g K ad1 X t := by
  have c2 : (newM K x).1 2 = K.1 2 := rfl
  have c13 : (newM K x).1 13 = K.1 13 := rfl
  have c33 : (newM K x).1 33 = K.1 33 := rfl
  obtain ⟨a, b⟩ := t
  match a, h, h7, h8 with
  | 0, _, _, _ => rfl
  | 1, _, _, _ => rfl
  | 2, _, _, _ => rfl
  | 3, _, _, _ => rfl
  | 4, _, _, _ => rfl
  | 5, _, _, _ => rfl
  | 6, _, _, _ => rfl
  | 7, _, h7, _ =>
    have hb : b ≠ 2 := fun e => h7 (by rw [e])
    show (linfo (newM K x) b).map (lisE g ad1 b) = (linfo K b).map (lisE g ad1 b)
    rw [lif c2 c13 c33 rfl rfl hb]
  | 8, _, _, h8 =>
    have hb : b ≠ 2 := fun e => h8 (by rw [e])
    show ((linfo (newM K x) b).bind fun q => if q.2.1 = 0 then none else some (lirE g ad1 q)) = ((linfo K b).bind fun q => if q.2.1 = 0 then none else some (lirE g ad1 q))
    rw [lif c2 c13 c33 rfl rfl hb]
  | 9, _, _, _ => rfl
  | 10, _, _, _ => rfl
  | 11, h, _, _ =>
    have h : b < K.1 25 := h
    show (if b < K.1 25 + 1 then some (marE ad1 (va_up (kma K) (K.1 25) x b)) else none) = (if b < K.1 25 then some (marE ad1 (kma K b)) else none)
    rw [if_pos h, if_pos (by omega), up_ne (by omega)]
  | 12, _, _, _ => rfl
  | 13, _, _, _ => rfl
  | _ + 14, _, _, _ => rfl
theorem newM_d {x : zMa} (t : zg) (h14 : t.1 < 14) (h : alv (newM K x) t) (h8 : t ≠ (8, 2)) : alv K t ∨ decide (t = (11, K.1 25)) = true := by
  obtain ⟨a, b⟩ := t
  match a, h14, h, h8 with
  | 0, _, h, _ => exact Or.inl h
  | 1, _, h, _ => exact Or.inl h
  | 2, _, h, _ => exact Or.inl h
  | 3, _, h, _ => exact Or.inl h
  | 4, _, h, _ => exact Or.inl h
  | 5, _, h, _ => exact Or.inl h
  | 6, _, h, _ => exact Or.inl h
  | 7, _, h, _ =>
    by_cases hb : b = 2
    · subst hb
      exact Or.inl (alv_7 ⟨_, rfl⟩)
    · obtain ⟨q, e⟩ := h
      exact Or.inl (alv_7 ⟨q, by rw [← lif (K := K) (K1 := newM K x) rfl rfl rfl rfl rfl hb]; exact e⟩)
  | 8, _, h, h8 =>
    have hb : b ≠ 2 := fun e => h8 (by rw [e])
    obtain ⟨q, e, h0⟩ := h
    exact Or.inl (alv_8 ⟨q, by rw [← lif (K := K) (K1 := newM K x) rfl rfl rfl rfl rfl hb]; exact e, h0⟩)
  | 9, _, h, _ => exact Or.inl h
  | 10, _, h, _ => exact Or.inl h
  | 11, _, h, _ =>
    have h : b < K.1 25 + 1 := h
    by_cases hb : b = K.1 25
    · exact Or.inr (decide_eq_true (by rw [hb]))
    · exact Or.inl (show b < K.1 25 by omega)
  | 12, _, h, _ => exact Or.inl h
  | 13, _, h, _ => exact Or.inl h
  | _ + 14, h, _, _ => exact absurd h (by show ¬ _ + 14 < 14; omega)
theorem zP.gM (hp : zP g K X ad M) (h33 : K.1 33 ≤ 20) (hw : iWf K) (h25 : K.1 25 ≤ 48) {x : zMa} (hx : x.1 < K.1 13 ∧ x.2.1 < K.1 13) {q e1 : Nat} (hq0 : M q = none) (hq : M1 q = some (marE ad x)) (hl : M1 (ad (7, 2)) = some (zob 0 [.int (nI (K.1 25 + 1)), .ref e1, .int (nI (K.1 25 + 1))])) (hr : M1 e1 = some (zao g (lcap (K.1 25 + 1)) (va_up (fun i => if i < K.1 25 then some (ad (11, i)) else none) (K.1 25) (some q))))
    (he : (e1 = ad (8, 2) ∧ lcap (K.1 25) ≠ 0) ∨ (M e1 = none ∧ e1 ≠ q)) (hf : ∀ z e, M z = some e → z ≠ ad (7, 2) → (lcap (K.1 25) ≠ 0 → z ≠ ad (8, 2)) → M1 z = some e) : ∃ ad1, zP g (newM K x) X ad1 M1 ∧ ∀ t : zg, t ≠ (11, K.1 25) → t ≠ (8, 2) → ad1 t = ad t := by
  have dt : ∀ t : zg, decide (t = (11, K.1 25)) = true → t = (11, K.1 25) := fun t h => of_decide_eq_true h
  obtain ⟨ad1, h1, h2, h3⟩ := hp.growL (K1 := newM K x) (M1 := M1) (e1 := e1) h33 hw 2 (el := fun i => (11, i)) rfl rfl h25 (fun t => decide (t = (11, K.1 25))) (fun _ => q) (fun t h => by
      rw [dt t h]
      show ¬ K.1 25 < K.1 25
      omega) (by simp) (by simp) hl hr (he.imp id fun h => ⟨h.1, fun _ _ => h.2⟩) hf newM_k newM_d (fun _ _ => hq0) (fun t u h1 h2 _ => by rw [dt t h1, dt u h2]) (fun ad1 ht ho t e h hv => by
      rw [dt t h] at hv
      have e1 : kva g (newM K x) ad1 X (11, K.1 25) = some (marE ad1 x) := by
        show (if K.1 25 < K.1 25 + 1 then some (marE ad1 (va_up (kma K) (K.1 25) x (K.1 25))) else none) = _
        rw [if_pos (Nat.lt_succ_self _), up_eq]
      rw [e1] at hv
      rw [← hv, hq]
      unfold marE
      rw [ho (10, x.1) (by simp) (by simp), ho (10, x.2.1) (by simp) (by simp)])
  exact ⟨ad1, h1, fun t a b => h3 t (decide_eq_false a) b⟩
end K16
def x_marry (K : zK) (h w d : Int32) : Nat := if (zix h (K.1 13) && zix w (K.1 13)) = false then 1
  else if (((kpe K h.toNatClampNeg).1 && !(kpe K w.toNatClampNeg).1) && wthn d 0 1000000) = false then 2
  else if ((groK K h.toNatClampNeg (nI (K.1 1)) && groK K w.toNatClampNeg (nI (K.1 1))) && (mayK K h.toNatClampNeg w.toNatClampNeg (lixN (crtK K 0 h.toNatClampNeg w.toNatClampNeg (nI (K.1 1)))) && decide (K.1 25 < 30))) = false then 3 else 0
def marX (K : zK) (h w : Nat) (d : Int32) : zMa := (h, w, crtK K 0 h w (nI (K.1 1)), 0, d, false, false)
def k_marry (K : zK) (h w d : Int32) : zK := newM K (marX K h.toNatClampNeg w.toNatClampNeg d)
theorem iWf_of {K : zK} (hma : iMa K) (hsu : iSui K) (hpa : iPa K) (hwp : iWi K) (hwi : iW4 K) (htl : ∀ j, ktl K j = none) : iWf K := ⟨⟨hma, hsu, hpa⟩, hwp, hwi, fun j q h => by rw [htl j] at h; cases h⟩
set_option maxRecDepth 100000 in
set_option maxHeartbeats 1000000 in
theorem K_marry {g : zGh} {K : zK} {X : zg → Option va_E} {ad : zg → Nat} {M : zM} (h w d : Int32) (hp : zP g K X ad M) (hi : iK K) (htl : ∀ j, ktl K j = none) : zCt g yX7_marry cX7_marry 7 (some .int) 8 171 mkI [.ref (ad (0, 0)), .int h, .int w, .int d] M 12 160 (fun v M1 => x_marry K h w d = 0 ∧ v = nI (K.1 25) ∧ ∃ ad1, zP g (k_marry K h w d) X ad1 M1 ∧ ∀ t : zg, (t.1 = 0 ∨ 14 ≤ t.1) → ad1 t = ad t) (fun E M1 => thr E (x_marry K h w d) ∧ M1 = M) := by
  refine zof [some (.ref (ad (0, 0))), some (.int h), some (.int w), some (.int d), none, none, none] (by decide +kernel) rfl rfl (Nat.le_of_ble_eq_true rfl) ?_
  intro Z C hE hnm
  have C : zC g Z RX7 cX7_marry 7 8 171 12 160 := C
  obtain ⟨⟨hb1, h2, h4, h9, h13, h25, h33⟩, ⟨hch, hf⟩, ⟨hma, hsu, hpa⟩, hwp, hwi, hsc⟩ := hi
  have hw64 : ∀ s, (kws K s).1 ≤ 64 := fun s => Nat.le_trans (hwi s) (by decide)
  have hWf := iWf_of hma hsu hpa hwp hwi htl
  refine zaload_n C dX7_marry_0 rfl ?_
  refine ziload_n C dX7_marry_1 rfl ?_
  refine zcallVX C (k_personAt _ hp h13) hy_X7_personAt hv_X7_personAt hl_X7_123 hp.main rfl rfl rfl rfl (by decide) (by decide) (by omega) (by omega) rfl (by exact Nat.le_of_ble_eq_true rfl) dX7_marry_2 (fun E M1 hx => zout C hE (by omega) (by omega) (by obtain ⟨e, hz, hm⟩ := hx; subst e; subst hm; exact ⟨thr1 (by simp [x_marry, okK, hz]), rfl⟩)) (fun v2 M hp2 => ?_)
  obtain ⟨⟨hn, hhn, rfl, rfl⟩, rfl⟩ := hp2
  have zhn : zix (nI hn) (K.1 13) = true := zix_t hhn (by omega)
  have ehn : (nI hn).toNatClampNeg = hn := nI_clamp (by omega)
  refine zastore (L1 := [_, _, _, _, _, _, _]) C dX7_marry_5 rfl (Nat.le_of_ble_eq_true rfl) ?_
  refine zaload_n C dX7_marry_7 rfl ?_
  refine ziload_n C dX7_marry_8 rfl ?_
  refine zcallVX C (k_personAt _ hp h13) hy_X7_personAt hv_X7_personAt hl_X7_123 hp.main rfl rfl rfl rfl (by decide) (by decide) (by omega) (by omega) rfl (by exact Nat.le_of_ble_eq_true rfl) dX7_marry_9 (fun E M1 hx => zout C hE (by omega) (by omega) (by obtain ⟨e, hz, hm⟩ := hx; subst e; subst hm; exact ⟨thr1 (by simp [x_marry, zhn, okK, hz]), rfl⟩)) (fun v9 M hp9 => ?_)
  obtain ⟨⟨wn, hwn, rfl, rfl⟩, rfl⟩ := hp9
  have zwn : zix (nI wn) (K.1 13) = true := zix_t hwn (by omega)
  have ewn : (nI wn).toNatClampNeg = wn := nI_clamp (by omega)
  refine zastore (L1 := [_, _, _, _, _, _, _]) C dX7_marry_12 rfl (Nat.le_of_ble_eq_true rfl) ?_
  refine zaload C dX7_marry_14 rfl ?_
  refine zget C hf_X7_144 (hp.per (p := hn) hhn) (by rfl) dX7_marry_16 ?_
  refine zif_eq (tgt := 30) C dX7_marry_19 (by decide) (fun h19 => ?_) (fun h19 => ?_)
  · replace h19 := b2i_0.mp h19
    exact zthrow C hE ht_X7_204_152 rfl (by decide) (by exact Nat.le_of_ble_eq_true rfl) (by omega) (by omega) dX7_marry_30 dX7_marry_33 dX7_marry_34 dX7_marry_36 dX7_marry_39 ⟨thr2 (by simp [x_marry, zhn, zwn, ehn, ewn, h19]), rfl⟩
  · replace h19 := b2i_n0.mp h19
    refine zaload C dX7_marry_22 rfl ?_
    refine zget C hf_X7_144 (hp.per (p := wn) hwn) (by rfl) dX7_marry_24 ?_
    refine zif_eq (tgt := 40) C dX7_marry_27 (by decide) (fun h27 => ?_) (fun h27 => ?_)
    · replace h27 := b2i_0.mp h27
      refine ziload_n C dX7_marry_40 rfl ?_
      refine zconst (v := 0) C dX7_marry_41 (by decide) ?_
      refine zldc C hk_X7_206 dX7_marry_42 ?_
      refine zcallSX C (k_needWithin _ _ _) hy_X7_needWithin hst_X7_needWithin hl_X7_102 rfl rfl (by decide) (by decide) (by omega) (by omega) rfl (by exact Nat.le_of_ble_eq_true rfl) dX7_marry_44 (fun E M1 hx => zout C hE (by omega) (by omega) (by obtain ⟨e, hz, hm⟩ := hx; subst e; subst hm; exact ⟨thr2 (by simp [x_marry, zhn, zwn, ehn, ewn, h19, h27, hz]), rfl⟩)) (fun v44 M hp44 => ?_)
      obtain ⟨w44, rfl⟩ := hp44
      refine zaload C dX7_marry_47 rfl ?_
      refine zaload_n C dX7_marry_49 rfl ?_
      refine zget C hf_X7_51 hp.main (by rfl) dX7_marry_50 ?_
      refine zcallV C (k_isGrown hp hhn _) hy_X4_isGrownOn hv_X4_isGrownOn hl_X7_168 (hp.per (p := hn) hhn) rfl rfl rfl rfl (by decide) (by decide) (by omega) (by omega) rfl (by exact Nat.le_of_ble_eq_true rfl) dX7_marry_53 (fun v53 M hp53 => ?_)
      obtain ⟨rfl, rfl⟩ := hp53
      refine zif_eq (tgt := 71) C dX7_marry_56 (by decide) (fun h56 => ?_) (fun h56 => ?_)
      · replace h56 := b2i_0.mp h56
        exact zthrow C hE ht_X7_207_66 rfl (by decide) (by exact Nat.le_of_ble_eq_true rfl) (by omega) (by omega) dX7_marry_71 dX7_marry_74 dX7_marry_75 dX7_marry_77 dX7_marry_80 ⟨thr3 (by simp [x_marry, zhn, zwn, ehn, ewn, h19, h27, h56, w44]), rfl⟩
      · replace h56 := b2i_n0.mp h56
        refine zaload C dX7_marry_59 rfl ?_
        refine zaload_n C dX7_marry_61 rfl ?_
        refine zget C hf_X7_51 hp.main (by rfl) dX7_marry_62 ?_
        refine zcallV C (k_isGrown hp hwn _) hy_X4_isGrownOn hv_X4_isGrownOn hl_X7_168 (hp.per (p := wn) hwn) rfl rfl rfl rfl (by decide) (by decide) (by omega) (by omega) rfl (by exact Nat.le_of_ble_eq_true rfl) dX7_marry_65 (fun v65 M hp65 => ?_)
        obtain ⟨rfl, rfl⟩ := hp65
        refine zif_ne (tgt := 81) C dX7_marry_68 (by decide) (fun h68 => ?_) (fun h68 => ?_)
        · replace h68 := b2i_n0.mp h68
          refine zaload_n C dX7_marry_81 rfl ?_
          refine zconst (v := 0) C dX7_marry_82 (by decide) ?_
          refine zaload C dX7_marry_83 rfl ?_
          refine zaload C dX7_marry_85 rfl ?_
          refine zaload_n C dX7_marry_87 rfl ?_
          refine zget C hf_X7_51 hp.main (by rfl) dX7_marry_88 ?_
          refine zcallVX C (k_courtOf 0 0 _ rfl (by decide) hhn hwn hp h2 hch hf) hy_X7_courtOf hv_X7_courtOf hl_X7_137 hp.main rfl rfl rfl rfl (by decide) (by decide) (by omega) (by omega) rfl (by exact Nat.le_of_ble_eq_true rfl) dX7_marry_91 (fun E M1 hx => hx.elim) (fun v91 M hp91 => ?_)
          obtain ⟨hv91, rfl⟩ := hp91
          have hlc := crtK_c hf hhn hwn 0 (nI (K.1 1))
          rw [← hv91] at hlc
          refine zistore (L1 := [_, _, _, _, _, _, _]) C dX7_marry_94 rfl (Nat.le_of_ble_eq_true rfl) ?_
          refine zaload_n C dX7_marry_96 rfl ?_
          refine zaload C dX7_marry_97 rfl ?_
          refine zaload C dX7_marry_99 rfl ?_
          refine zaload_n C dX7_marry_101 rfl ?_
          refine ziload C dX7_marry_102 rfl ?_
          refine zcallVX C (k_lawAt _ hp h2) hy_X7_lawAt hv_X7_lawAt hl_X7_95 hp.main rfl rfl rfl rfl (by decide) (by decide) (by omega) (by omega) rfl (by exact Nat.le_of_ble_eq_true rfl) dX7_marry_104 (fun E M1 hx => absurd hx.2.1 (okK_x hlc h2)) (fun v104 M hp104 => ?_)
          obtain ⟨⟨l, hl, e104, rfl⟩, rfl⟩ := hp104
          have exl : lixN (crtK K 0 hn wn (nI (K.1 1))) = l := by rw [← hv91, e104]; exact lixN_l (show l ≤ 6 from Nat.le_trans hl h2)
          refine zcallV C (k_mayMarry hhn hwn hl hp h25 hma hch) hy_X7_mayMarry hv_X7_mayMarry hl_X7_209 hp.main rfl rfl rfl rfl (by decide) (by decide) (by omega) (by omega) rfl (by exact Nat.le_of_ble_eq_true rfl) dX7_marry_107 (fun v107 M hp107 => ?_)
          obtain ⟨rfl, rfl⟩ := hp107
          refine zif_ne (tgt := 123) C dX7_marry_110 (by decide) (fun h110 => ?_) (fun h110 => ?_)
          · replace h110 := b2i_n0.mp h110
            refine zaload_n C dX7_marry_123 rfl ?_
            refine zget C hf_X7_38 hp.main (by rfl) dX7_marry_124 ?_
            refine zcallV C (q_size (hp.lq2 (by omega))) hy_Jx4a65c_size_8abf5 hv_Jx4a65c_size_8abf5 hl_X7_58 (hp.lo2) rfl rfl rfl rfl (by decide) (by decide) (by omega) (by omega) rfl (by exact Nat.le_of_ble_eq_true rfl) dX7_marry_127 (fun v127 M hp127 => ?_)
            obtain ⟨rfl, rfl⟩ := hp127
            refine zbipush (v := 30) C dX7_marry_130 (by decide) ?_
            refine zicmp_lt (tgt := 145) C dX7_marry_132 (by decide) (fun h132 => ?_) (fun h132 => ?_)
            · have h132b : K.1 25 < 30 := (nI_ltI (a := K.1 25) (b := 30) (by omega) (by decide)).mp h132
              refine zaload_n C dX7_marry_145 rfl ?_
              refine zget C hf_X7_38 hp.main (by rfl) dX7_marry_146 ?_
              refine znew C hw_X7_217 rfl (by omega) (by omega) dX7_marry_149 (fun q hq => ?_)
              refine zdup C dX7_marry_152 rfl ?_
              refine zaload C dX7_marry_153 rfl ?_
              refine zaload C dX7_marry_155 rfl ?_
              refine ziload_n C dX7_marry_157 rfl ?_
              refine ziload C dX7_marry_158 rfl ?_
              refine zcallI C (r_init (ad (10, hn)) (ad (10, wn)) d v91 zup_same) hy_X3_init hi_X3_init hl_X7_219 rfl rfl (by decide) (by decide) (by omega) (by omega) rfl (by exact Nat.le_of_ble_eq_true rfl) dX7_marry_160 (fun M2 hp2 => ?_)
              rw [zup_up2] at hp2
              subst hp2
              have hpo := hp.fresh (e := zob 4 (marF (ad (10, hn)) (ad (10, wn)) v91 0 d 0 0)) hq
              refine zaddl C (len := K.1 25) (ci := 4) (ea := ad (8, 2)) (f := fun i => if i < K.1 25 then some (ad (11, i)) else none) hpo.lo2 (fun h0 => zPic.at hpo (t := (8, 2)) (if_neg h0)) (by omega) (fun i hi => if_neg (by omega)) (fun i hi => ⟨_, _, if_pos hi, hpo.mar hi⟩) rfl hca_Marriage (by decide) zup_same hl_X7_74 rfl (by decide) (by decide) (by omega) (by omega) (by exact Nat.le_of_ble_eq_true rfl) dX7_marry_163 (fun M3 e1 g1 g2 g3 g4 => ?_)
              have a7q : ad (7, 2) ≠ q := znone hp.lo2 hq
              have a8q : lcap (K.1 25) ≠ 0 → ad (8, 2) ≠ q := fun h0 => znone (zPic.at hp (t := (8, 2)) (if_neg h0)) hq
              have hq3 := g4 q _ zup_same a7q.symm (fun h0 => (a8q h0).symm)
              obtain ⟨ad1, hp1, hst⟩ := hp.gM (x := marX K hn wn d) h33 hWf (by omega) ⟨hhn, hwn⟩ hq (by rw [hq3, marX, ← hv91]; rfl) g1 g2 (g3.imp id fun h0 => ⟨znoneU h0, fun e => by rw [e, zup_same] at h0; cases h0⟩) (fun z e hz a b => g4 z e (by rw [zup_ne (znone hz hq)]; exact hz) a b)
              clear hp hpo
              have hp := hp1
              rw [← hst (0, 0) (by simp) (by simp)]
              refine zpop C dX7_marry_166 rfl ?_
              refine zaload_n C dX7_marry_167 rfl ?_
              refine zget C hf_X7_38 hp.main (by rfl) dX7_marry_168 ?_
              refine zcallV C (q_size (hp.lq2 (by show K.1 25 + 1 ≤ 49; omega))) hy_Jx4a65c_size_8abf5 hv_Jx4a65c_size_8abf5 hl_X7_58 (hp.lo2) rfl rfl rfl rfl (by decide) (by decide) (by omega) (by omega) rfl (by exact Nat.le_of_ble_eq_true rfl) dX7_marry_171 (fun v171 M hp171 => ?_)
              obtain ⟨rfl, rfl⟩ := hp171
              refine zconst (v := 1) C dX7_marry_174 (by decide) ?_
              refine zisub C dX7_marry_175 ?_
              exact zend_i C hE dX7_marry_176 (by omega) (by omega) ⟨by simp [x_marry, zhn, zwn, ehn, ewn, h19, h27, w44, h56, h68, exl, h110, h132b], (show nI (K.1 25 + 1) - 1 = nI (K.1 25) from nI_pred _), ad1, by rw [k_marry, ehn, ewn]; exact hp, fun t ht => hst t (fun e => by rw [e] at ht; rcases ht with h | h <;> simp at h) (fun e => by rw [e] at ht; rcases ht with h | h <;> simp at h)⟩
            · have h132b : 30 ≤ K.1 25 := Nat.not_lt.mp (fun e => h132 ((nI_ltI (a := K.1 25) (b := 30) (by omega) (by decide)).mpr e))
              exact zthrow C hE ht_X7_215_66 rfl (by decide) (by exact Nat.le_of_ble_eq_true rfl) (by omega) (by omega) dX7_marry_135 dX7_marry_138 dX7_marry_139 dX7_marry_141 dX7_marry_144 ⟨thr3 (by simp [x_marry, zhn, zwn, ehn, ewn, h19, h27, h56, h68, h110, h132b, w44, exl]), rfl⟩
          · replace h110 := b2i_0.mp h110
            exact zthrow C hE ht_X7_213_66 rfl (by decide) (by exact Nat.le_of_ble_eq_true rfl) (by omega) (by omega) dX7_marry_113 dX7_marry_116 dX7_marry_117 dX7_marry_119 dX7_marry_122 ⟨thr3 (by simp [x_marry, zhn, zwn, ehn, ewn, h19, h27, h56, h68, h110, w44, exl]), rfl⟩
        · replace h68 := b2i_0.mp h68
          exact zthrow C hE ht_X7_207_66 rfl (by decide) (by exact Nat.le_of_ble_eq_true rfl) (by omega) (by omega) dX7_marry_71 dX7_marry_74 dX7_marry_75 dX7_marry_77 dX7_marry_80 ⟨thr3 (by simp [x_marry, zhn, zwn, ehn, ewn, h19, h27, h56, h68, w44]), rfl⟩
    · replace h27 := b2i_n0.mp h27
      exact zthrow C hE ht_X7_204_152 rfl (by decide) (by exact Nat.le_of_ble_eq_true rfl) (by omega) (by omega) dX7_marry_30 dX7_marry_33 dX7_marry_34 dX7_marry_36 dX7_marry_39 ⟨thr2 (by simp [x_marry, zhn, zwn, ehn, ewn, h19, h27]), rfl⟩
