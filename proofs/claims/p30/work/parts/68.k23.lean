section K23
variable {g : zGh} {K : zK} {X : zg → Option va_E} {ad : zg → Nat} {M M1 : zM}
def tlE (q : zTl) : zLi := (q.1, q.2.1, q.2.2.1, fun i => (10, q.2.2.2 i))
theorem linfo_t {j : Nat} (hj : 24 ≤ j) : linfo K j = (ktl K j).map tlE := by
  unfold linfo
  rw [if_neg (by omega), if_neg (by omega), if_neg (by omega), if_neg (by omega), if_neg (by omega)]
  rfl
theorem linfo_ts {j : Nat} {q : Option zTl} (hj : 24 ≤ j) : linfo (stl K j q) j = q.map tlE := by
  rw [linfo_t hj]
  show (va_up (ktl K) j q j).map tlE = _
  rw [up_eq]
theorem linfo_tn {j i : Nat} {q : Option zTl} (hj : 24 ≤ j) (hi : i ≠ j) : linfo (stl K j q) i = linfo K i := by
  by_cases h : 24 ≤ i
  · rw [linfo_t h, linfo_t h]
    show (va_up (ktl K) j q i).map tlE = _
    rw [up_ne hi]
  · unfold linfo
    by_cases e0 : i = 0
    · rw [if_pos e0, if_pos e0]; rfl
    · rw [if_neg e0, if_neg e0]
      by_cases e1 : i = 1
      · rw [if_pos e1, if_pos e1]; rfl
      · rw [if_neg e1, if_neg e1]
        by_cases e2 : i = 2
        · rw [if_pos e2, if_pos e2]; rfl
        · rw [if_neg e2, if_neg e2]
          by_cases e3 : i = 3
          · rw [if_pos e3, if_pos e3]; rfl
          · have h24 : i < 24 := by omega
            rw [if_neg e3, if_neg e3, if_pos h24, if_pos h24]
            rfl
theorem stl_k {j : Nat} {q : Option zTl} (hj : 24 ≤ j) (ad1 : zg → Nat) (t : zg) (h : alv K t) (h7 : t ≠ (7, j)) (h8 : t ≠ (8, j)) : kva g (stl K j q) ad1 X t = kva g K ad1 X t := by
  obtain ⟨a, b⟩ := t
  match a, h, h7, h8 with
  | 0, _, _, _ => rfl
  | 1, _, _, _ => rfl
  | 2, _, _, _ => rfl
  | 3, _, _, _ => rfl
  | 4, _, _, _ => rfl
  | 5, _, _, _ => rfl
  | 6, _, _, _ => rfl
  | 7, h, h7, h8 =>
    have hb : b ≠ j := fun e => h7 (by rw [e])
    show (linfo _ b).map (lisE g ad1 b) = (linfo K b).map (lisE g ad1 b)
    rw [linfo_tn hj hb]
  | 8, h, h7, h8 =>
    have hb : b ≠ j := fun e => h8 (by rw [e])
    show ((linfo _ b).bind fun q => if q.2.1 = 0 then none else some (lirE g ad1 q)) = ((linfo K b).bind fun q => if q.2.1 = 0 then none else some (lirE g ad1 q))
    rw [linfo_tn hj hb]
  | 9, _, _, _ => rfl
  | 10, _, _, _ => rfl
  | 11, _, _, _ => rfl
  | 12, _, _, _ => rfl
  | 13, _, _, _ => rfl
  | _ + 14, _, _, _ => rfl
theorem stl_d {j : Nat} {q : Option zTl} (hj : 24 ≤ j) (t : zg) (h14 : t.1 < 14) (h : alv (stl K j q) t) (h8 : t ≠ (8, j)) : alv K t ∨ decide (t = (7, j)) = true := by
  obtain ⟨a, b⟩ := t
  match a, h14, h, h8 with
  | 0, _, h, _ => exact Or.inl h
  | 1, _, h, _ => exact Or.inl h
  | 2, _, h, _ => exact Or.inl h
  | 3, _, h, _ => exact Or.inl h
  | 4, _, h, _ => exact Or.inl h
  | 5, _, h, _ => exact Or.inl h
  | 6, _, h, _ => exact Or.inl h
  | 7, _, h, h8 =>
    by_cases hb : b = j
    · rw [hb]
      exact Or.inr (decide_eq_true rfl)
    · obtain ⟨w, e⟩ := h
      exact Or.inl (alv_7 ⟨w, by rw [← linfo_tn (q := q) hj hb]; exact e⟩)
  | 8, _, h, h8 =>
    have hb : b ≠ j := fun e => h8 (by rw [e])
    obtain ⟨w, e, h0⟩ := h
    exact Or.inl (alv_8 ⟨w, by rw [← linfo_tn (q := q) hj hb]; exact e, h0⟩)
  | 9, _, h, _ => exact Or.inl h
  | 10, _, h, _ => exact Or.inl h
  | 11, _, h, _ => exact Or.inl h
  | 12, _, h, _ => exact Or.inl h
  | 13, _, h, _ => exact Or.inl h
  | _ + 14, h, _, _ => exact absurd h (by show ¬ _ + 14 < 14; omega)
/-- a list of one's own, new and empty -/
theorem zP.newL (hp : zP g K X ad M) (h33 : K.1 33 ≤ 20) (hw : iWf K) {j : Nat} (hj : 24 ≤ j) (hn : ktl K j = none) {a : Nat} (ha0 : M a = none) (ha : M1 a = some (zob 0 [.int 0, .ref (g.2.2.2.1 4), .int 0])) (hf : ∀ z e, M z = some e → M1 z = some e) : ∃ ad1, zP g (stl K j (some (0, 0, 0, fun _ => 0))) X ad1 M1 ∧ ad1 (7, j) = a ∧ ∀ t : zg, t ≠ (7, j) → ad1 t = ad t := by
  have hl0 : linfo K j = none := by rw [linfo_t hj, hn]; rfl
  obtain ⟨ad1, had⟩ : ∃ ad1 : zg → Nat, ad1 = fun t => if t = (7, j) then a else ad t := ⟨_, rfl⟩
  have h7 : ad1 (7, j) = a := by rw [had]; simp
  have ho : ∀ t : zg, t ≠ (7, j) → ad1 t = ad t := fun t h => by rw [had]; simp [h]
  have nA7 : ¬ alv K (7, j) := fun ⟨q, e⟩ => by
    have e : linfo K j = some q := e
    rw [hl0] at e; cases e
  have nA8 : ¬ alv K (8, j) := fun ⟨q, e, _⟩ => by
    have e : linfo K j = some q := e
    rw [hl0] at e; cases e
  refine ⟨ad1, hp.grow h33 hw j (fun t => t = (7, j)) ho (fun t h => Or.inl (by rw [h]; exact nA7)) (fun t a b c => stl_k hj ad1 t a b c) (fun t h14 h => ?_) (fun z e hz _ _ => hf z e hz) (fun t h _ => by rw [h, h7]; exact ha0) (fun t u h1 h2 _ _ _ => by rw [h1, h2]) (fun t e h hv => ?_), h7, ho⟩
  · by_cases h8 : t = (8, j)
    · rw [h8] at h
      refine absurd ?_ h
      show ((linfo (stl K j (some (0, 0, 0, fun _ => 0))) j).bind _) = none
      rw [linfo_ts hj]
      rfl
    · exact (stl_d hj t h14 (alv_of h) h8).imp id of_decide_eq_true
  · by_cases h8 : t = (8, j)
    · rw [h8] at hv
      have : kva g (stl K j (some (0, 0, 0, fun _ => 0))) ad1 X (8, j) = none := by
        show ((linfo (stl K j (some (0, 0, 0, fun _ => 0))) j).bind _) = none
        rw [linfo_ts hj]
        rfl
      rw [this] at hv
      cases hv
    · have h1 : t = (7, j) := by
        rcases h with h | h | h
        · exact h
        · exact h
        · exact absurd h h8
      rw [h1] at hv ⊢
      have : kva g (stl K j (some (0, 0, 0, fun _ => 0))) ad1 X (7, j) = some (zob 0 [.int 0, .ref (g.2.2.2.1 4), .int 0]) := by
        show ((linfo (stl K j (some (0, 0, 0, fun _ => 0))) j).map _) = _
        rw [linfo_ts hj]
        rfl
      rw [this] at hv
      rw [h7, ha, ← hv]
/-- .. set -/
theorem zP.setL (hp : zP g K X ad M) (h33 : K.1 33 ≤ 20) (hw : iWf K) {j : Nat} (hj : 24 ≤ j) {q0 q : zTl} (hq0 : ktl K j = some q0) (hq : ∀ i, i < q.1 → q.2.2.2 i < K.1 13) (hc : q.2.1 ≠ 0) {e1 : Nat} (hl : M1 (ad (7, j)) = some (zob 0 [.int q.2.2.1, .ref e1, .int (nI q.1)])) (hr : M1 e1 = some (zao g q.2.1 (fun i => if i < q.1 then some (ad (10, q.2.2.2 i)) else none)))
    (he : (e1 = ad (8, j) ∧ q0.2.1 ≠ 0) ∨ M e1 = none) (hf : ∀ z e, M z = some e → z ≠ ad (7, j) → (q0.2.1 ≠ 0 → z ≠ ad (8, j)) → M1 z = some e) : ∃ ad1, zP g (stl K j (some q)) X ad1 M1 ∧ ∀ t : zg, t ≠ (8, j) → ad1 t = ad t := by
  have hl0 : linfo K j = some (tlE q0) := by rw [linfo_t hj, hq0]; rfl
  have a7 : alv K (7, j) := alv_7 ⟨_, hl0⟩
  have a8 : q0.2.1 ≠ 0 → alv K (8, j) := fun h => alv_8 ⟨_, hl0, h⟩
  obtain ⟨ad1, had⟩ : ∃ ad1 : zg → Nat, ad1 = fun t => if t = (8, j) then e1 else ad t := ⟨_, rfl⟩
  have h8 : ad1 (8, j) = e1 := by rw [had]; simp
  have ho : ∀ t : zg, t ≠ (8, j) → ad1 t = ad t := fun t h => by rw [had]; simp [h]
  refine ⟨ad1, hp.grow h33 hw j (fun t => t = (8, j) ∧ ¬ (e1 = ad (8, j) ∧ q0.2.1 ≠ 0)) (fun t h => ?_) (fun t h => Or.inr h.1) (fun t a b c => stl_k hj ad1 t a b c) (fun t h14 h => ?_) (fun z e hz h1 h2 => hf z e hz (h1 a7) (fun h => h2 (a8 h))) (fun t h _ => by rw [h.1, h8]; exact he.resolve_left h.2) (fun t u h1 h2 _ _ _ => by rw [h1.1, h2.1]) (fun t e h hv => ?_), ho⟩
  · by_cases h1 : t = (8, j)
    · have h2 : e1 = ad (8, j) ∧ q0.2.1 ≠ 0 := Classical.byContradiction fun h3 => h ⟨h1, h3⟩
      rw [h1, h8, h2.1]
    · exact ho t h1
  · by_cases h1 : t = (8, j)
    · subst h1
      by_cases h2 : q0.2.1 = 0
      · exact Or.inr ⟨rfl, fun h3 => h3.2 h2⟩
      · exact Or.inl (a8 h2)
    · rcases stl_d hj t h14 (alv_of h) h1 with h2 | h2
      · exact Or.inl h2
      · rw [of_decide_eq_true h2]
        exact Or.inl a7
  · have k7 : kva g (stl K j (some q)) ad1 X (7, j) = some (zob 0 [.int q.2.2.1, .ref e1, .int (nI q.1)]) := by
      show ((linfo (stl K j (some q)) j).map (lisE g ad1 j)) = _
      rw [linfo_ts hj]
      show some (zob 0 [.int q.2.2.1, .ref (if q.2.1 = 0 then g.2.2.2.1 4 else ad1 (8, j)), .int (nI q.1)]) = _
      rw [if_neg hc, h8]
    have k8 : kva g (stl K j (some q)) ad1 X (8, j) = some (zao g q.2.1 (fun i => if i < q.1 then some (ad (10, q.2.2.2 i)) else none)) := by
      show ((linfo (stl K j (some q)) j).bind fun q => if q.2.1 = 0 then none else some (lirE g ad1 q)) = _
      rw [linfo_ts hj]
      show (if q.2.1 = 0 then none else some (zao g q.2.1 (fun i => if i < q.1 then some (ad1 (10, q.2.2.2 i)) else none))) = _
      rw [if_neg hc]
      congr 2
      funext i
      by_cases h : i < q.1
      · rw [if_pos h, if_pos h, ho _ (by simp)]
      · rw [if_neg h, if_neg h]
    have h1 : t = (7, j) ∨ t = (8, j) := by
      rcases h with h | h | h
      · exact Or.inr h.1
      · exact Or.inl h
      · exact Or.inr h
    rcases h1 with h1 | h1 <;> rw [h1] at hv ⊢
    · rw [k7] at hv
      rw [ho _ (by simp), ← hv]
      exact hl
    · rw [k8] at hv
      rw [h8, ← hv]
      exact hr
theorem zP.loT (hp : zP g K X ad M) {j : Nat} {q : zTl} (hj : 24 ≤ j) (hq : ktl K j = some q) : M (ad (7, j)) = some (lisE g ad j (tlE q)) := zPic.at hp (show (linfo K j).map _ = _ by rw [linfo_t hj, hq]; rfl)
theorem zP.lqT (hp : zP g K X ad M) {j : Nat} {q : zTl} (hj : 24 ≤ j) (hq : ktl K j = some q) (hW : liW (tlE q)) : zLq g M (ad (7, j)) q.1 (fun i => if i < q.1 then some (ad (10, q.2.2.2 i)) else none) := hp.lst (q := tlE q) (by rw [linfo_t hj, hq]; rfl) hW
/-- lists that are thrown away are not asked for any more -/
theorem zP.drop (hp : zP g K X ad M) {j : Nat} (hj : 24 ≤ j) : zP g (stl K j none) X ad M := by
  refine zPic.less hp (fun t e h => ?_)
  obtain ⟨a, b⟩ := t
  match a, h with
  | 0, h => exact h
  | 1, h => exact h
  | 2, h => exact h
  | 3, h => exact h
  | 4, h => exact h
  | 5, h => exact h
  | 6, h => exact h
  | 7, h =>
    have h : (linfo (stl K j none) b).map (lisE g ad b) = some e := h
    by_cases hb : b = j
    · subst hb
      rw [linfo_ts hj] at h
      cases h
    · rw [linfo_tn hj hb] at h
      exact h
  | 8, h =>
    have h : ((linfo (stl K j none) b).bind fun q => if q.2.1 = 0 then none else some (lirE g ad q)) = some e := h
    by_cases hb : b = j
    · subst hb
      rw [linfo_ts hj] at h
      cases h
    · rw [linfo_tn hj hb] at h
      exact h
  | 9, h => exact h
  | 10, h => exact h
  | 11, h => exact h
  | 12, h => exact h
  | 13, h => exact h
  | _ + 14, h => exact h
/-- a list as it is while things are put into it -/
def tlA (s : Nat × (Nat → Nat)) : zTl := (s.1, lcap s.1, nI s.1, s.2)
theorem tlA_W {s : Nat × (Nat → Nat)} (h : s.1 ≤ 49) : liW (tlE (tlA s)) := lof_W (el := fun i => (10, s.2 i)) h
def addA (s : Nat × (Nat → Nat)) (p : Nat) : Nat × (Nat → Nat) := (s.1 + 1, va_up s.2 s.1 p)
theorem zaddT {Z : zX} {own : String} {cc : ByteArray} {nL fr lc mc ms : Nat} {k n pc : Nat} {L : List (Option Value)} {rest : List Value} (C : zC g Z own cc nL fr lc mc ms) {idx j p : Nat} {s : Nat × (Nat → Nat)} (hp : zP g K X ad M) (h33 : K.1 33 ≤ 20) (hw : iWf K) (hj : 24 ≤ j) (hq : ktl K j = some (tlA s)) (hs : s.1 ≤ 48) (hsp : ∀ i, i < s.1 → s.2 i < K.1 13) (hpn : p < K.1 13)
    (hl : Cond.methodLink own idx yJx4a65c_add_9ea2d ∈ GW) (hL : L.length = nL) (hfr : 7 ≤ fr) (hlc : 171 ≤ lc) (hmc : k + 1 ≤ mc) (hms : n + 64 ≤ ms) (hcat : (rest.map fun v => v.category).sum ≤ 8) (hd : decode cc pc = .ok (.invokevirtual idx, 3))
    (kk : ∀ (M1 : zM) (ad1 : zg → Nat), zP g (stl K j (some (tlA (addA s p)))) X ad1 M1 → (∀ t : zg, t ≠ (8, j) → ad1 t = ad t) → zG g Z M1 (k + 1) (n + 64) (pc + 3) L (.int 1 :: rest)) : zG g Z M k n pc L (.ref (ad (10, p)) :: .ref (ad (7, j)) :: rest) := by
  have hlo := hp.loT hj hq
  have h8 : lcap s.1 ≠ 0 → M (ad (8, j)) = some (zao g (lcap s.1) (fun i => if i < s.1 then some (ad (10, s.2 i)) else none)) := fun h0 => zPic.at hp (t := (8, j)) (show (linfo K j).bind _ = _ by rw [linfo_t hj, hq]; exact if_neg h0)
  refine zaddl C (len := s.1) (ci := 5) (ea := ad (8, j)) (f := fun i => if i < s.1 then some (ad (10, s.2 i)) else none) hlo h8 hs (fun i hi => if_neg (by omega)) (fun i hi => ⟨_, _, if_pos hi, hp.per (hsp i hi)⟩) rfl hca_Person (by decide) (hp.per hpn) hl hL hfr hlc hmc hms hcat hd (fun M1 e1 g1 g2 g3 g4 => ?_)
  have hc1 : lcap (s.1 + 1) ≠ 0 := by
    rcases lcap_step s.1 hs with h | ⟨_, h, _⟩ | ⟨_, h, _⟩
    · rw [h]; decide
    · omega
    · omega
  obtain ⟨ad1, a1, a2⟩ := hp.setL (M1 := M1) h33 hw hj hq (q := tlA (addA s p)) (fun i hi => by
    have hi : i < s.1 + 1 := hi
    show va_up s.2 s.1 p i < _
    by_cases e : i = s.1
    · rw [e, up_eq]; exact hpn
    · rw [up_ne e]; exact hsp i (by omega)) hc1 (e1 := e1) g1 (by
    rw [g2]
    show some (zao g (lcap (s.1 + 1)) _) = some (zao g (lcap (s.1 + 1)) _)
    congr 2
    funext i
    show _ = if i < s.1 + 1 then some (ad (10, va_up s.2 s.1 p i)) else none
    by_cases e : i = s.1
    · rw [e, up_eq, up_eq, if_pos (Nat.lt_succ_self _)]
    · rw [up_ne e, up_ne e]
      by_cases e2 : i < s.1
      · rw [if_pos e2, if_pos (by omega)]
      · rw [if_neg e2, if_neg (by omega)]) g3 g4
  exact kk M1 ad1 a1 a2
/-- taken out of a list -/
def rmf (f : Nat → Nat) (j : Nat) : Nat → Nat := fun i => if i < j then f i else f (i + 1)
def remT (q : zTl) (i : Nat) : zTl := (q.1 - 1, q.2.1, q.2.2.1 + 1, rmf q.2.2.2 i)
theorem k_remove (hp : zP g K X ad M) (h33 : K.1 33 ≤ 20) (hw : iWf K) {j i : Nat} {q : zTl} (hj : 24 ≤ j) (hq : ktl K j = some q) (hW : liW (tlE q)) (hsp : ∀ i, i < q.1 → q.2.2.2 i < K.1 13) (hi : i < q.1) :
    zCt g yJx4a65c_remove_915e3 cJx4a65c_remove_915e3 4 (some (.object "java/lang/Object")) 2 63 mkR [.ref (ad (7, j)), .int (nI i)] M 0 0 (fun _ M1 => ∃ ad1, zP g (stl K j (some (remT q i))) X ad1 M1 ∧ ∀ t : zg, t ≠ (8, j) → ad1 t = ad t) noX := by
  have hlo := hp.loT hj hq
  have hc0 : q.2.1 ≠ 0 := by
    rcases hW with ⟨_, h⟩ | ⟨h, _⟩
    · have h : q.1 = 0 := h
      omega
    · have h : q.2.1 = 10 ∨ q.2.1 = 15 ∨ q.2.1 = 22 ∨ q.2.1 = 33 ∨ q.2.1 = 49 := h
      omega
  have hcc : 10 ≤ q.2.1 ∧ q.2.1 ≤ 4096 ∧ q.1 ≤ q.2.1 := by
    rcases hW with ⟨h, _⟩ | ⟨h, h2⟩
    · exact absurd h hc0
    · have h : q.2.1 = 10 ∨ q.2.1 = 15 ∨ q.2.1 = 22 ∨ q.2.1 = 33 ∨ q.2.1 = 49 := h
      have h2 : q.1 ≤ q.2.1 := h2
      omega
  have h8 : M (ad (8, j)) = some (zao g q.2.1 (fun i => if i < q.1 then some (ad (10, q.2.2.2 i)) else none)) := zPic.at hp (t := (8, j)) (show (linfo K j).bind _ = _ by rw [linfo_t hj, hq]; exact if_neg hc0)
  obtain ⟨kq, hk⟩ : ∃ kq, q.1 = kq + 1 := ⟨q.1 - 1, by omega⟩
  have hlo2 : M (ad (7, j)) = some (zob 0 [.int q.2.2.1, .ref (ad (8, j)), .int (nI (kq + 1))]) := by
    rw [hlo, ← hk]
    unfold lisE
    rw [if_neg (show (tlE q).2.1 ≠ 0 from hc0)]
    rfl
  refine (l_remove (ci := 5) (k := kq) i ⟨hlo2, h8, by omega, hcc.1, hcc.2.1⟩ (by omega) rfl hca_Person (by decide) (fun x hx => ⟨_, _, if_pos (by omega), hp.per (hsp x (by omega))⟩)).post fun _ M1 ⟨z1, z2⟩ => ?_
  refine hp.setL (M1 := M1) h33 hw hj hq (q := remT q i) (fun x hx => ?_) hc0 (e1 := ad (8, j)) ?_ ?_ (Or.inl ⟨rfl, hc0⟩) (fun z e hz a b => z2 z e hz a (b hc0))
  · have hx : x < q.1 - 1 := hx
    show rmf q.2.2.2 i x < _
    unfold rmf
    split
    · exact hsp x (by omega)
    · exact hsp (x + 1) (by omega)
  · show M1 (ad (7, j)) = some (zob 0 [.int (q.2.2.1 + 1), .ref (ad (8, j)), .int (nI (q.1 - 1))])
    rw [show q.1 - 1 = kq by omega]
    exact z1.1
  · rw [z1.2.1]
    show some (zao g q.2.1 _) = some (zao g q.2.1 (fun x => if x < q.1 - 1 then some (ad (10, rmf q.2.2.2 i x)) else none))
    congr 2
    funext x
    unfold rmv rmf
    rw [show q.1 - 1 = kq by omega]
    by_cases e1 : x = kq
    · rw [if_pos e1, if_neg (by omega)]
    · rw [if_neg e1]
      by_cases e2 : i ≤ x ∧ x < kq
      · rw [if_pos e2, if_pos e2.2]
        show (if x + 1 < q.1 then some (ad (10, q.2.2.2 (x + 1))) else none) = some (ad (10, if x < i then q.2.2.2 x else q.2.2.2 (x + 1)))
        rw [if_pos (by omega), if_neg (by omega)]
      · rw [if_neg e2]
        by_cases e3 : x < kq
        · rw [if_pos e3]
          show (if x < q.1 then some (ad (10, q.2.2.2 x)) else none) = some (ad (10, if x < i then q.2.2.2 x else q.2.2.2 (x + 1)))
          rw [if_pos (by omega), if_pos (by omega)]
        · rw [if_neg e3]
          show (if x < q.1 then some (ad (10, q.2.2.2 x)) else none) = none
          rw [if_neg (by omega)]
end K23
