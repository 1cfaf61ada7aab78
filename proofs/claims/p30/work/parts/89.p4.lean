/-! ofPerson, ofMarriage, ofSuit, wins -/
section TIE4
variable {n : Nat} {K K1 : zK} {S S1 : zS}
theorem p_ofPerson (h : tie n K S) (hn : n < 512) (p w : Int32) : lcal tie n K (x_of (K.1 13) 5 p w) [1, 2] K (o_ofPerson S p w).1 (a_ofPerson K p w = (o_ofPerson S p w).2) := by
  unfold x_of o_ofPerson
  rw [rng_w, h.N.2.2.2.2.1]
  by_cases e1 : zix p (S.1 13) = false
  · rw [if_pos e1, if_pos e1]
    exact lcal_thr h hn (okcd_2 (by decide)) 0 1 rfl
  rw [if_neg e1, if_neg e1]
  have hb5 := h.bd.2.2.2.2.1
  have h13 := h.N.2.2.2.2.1
  obtain ⟨j, hj, rfl⟩ := zix_of (bF e1) (by omega)
  have hj' : j < K.1 13 := by omega
  by_cases e2 : rng w 0 5 = false
  · rw [if_pos e2, if_pos e2]
    exact lcal_thr h hn (okcd_2 (by decide)) 1 2 rfl
  rw [if_neg e2, if_neg e2]
  refine lcal_same h hn (okcd_2 (by decide)) ?_
  obtain ⟨w0, -, w1, rfl⟩ := rng_N (a := 0) (b := 5) (by decide) (by decide) (bF e2)
  unfold a_ofPerson
  dsimp only
  rw [nI_clamp (by omega), t_hml h hj', t_low h hj', t_kid h hj']
  obtain ⟨a1, a2, a3, a4, a5, a6, a7, a8⟩ := h.P.1 j hj'
  rw [a5, a6, a8]
  rcases (by omega : w0 = 0 ∨ w0 = 1 ∨ w0 = 2 ∨ w0 = 3 ∨ w0 = 4 ∨ w0 = 5) with rfl | rfl | rfl | rfl | rfl | rfl
  · rfl
  · cases (kpe K j).2.2.2.2.1 <;> rfl
  · rfl
  · rfl
  · rfl
  · rfl
theorem p_ofMarriage (h : tie n K S) (hn : n < 512) (m w : Int32) : lcal tie n K (x_of (K.1 25) 4 m w) [1, 2] K (o_ofMarriage S m w).1 (a_ofMarriage K m w = (o_ofMarriage S m w).2) := by
  unfold x_of o_ofMarriage
  rw [rng_w, h.N.2.2.2.2.2.1]
  by_cases e1 : zix m (S.1 25) = false
  · rw [if_pos e1, if_pos e1]
    exact lcal_thr h hn (okcd_2 (by decide)) 0 1 rfl
  rw [if_neg e1, if_neg e1]
  have hb5 := h.bd.2.2.2.2.2.1
  have h13 := h.N.2.2.2.2.2.1
  obtain ⟨j, hj, rfl⟩ := zix_of (bF e1) (by omega)
  by_cases e2 : rng w 0 4 = false
  · rw [if_pos e2, if_pos e2]
    exact lcal_thr h hn (okcd_2 (by decide)) 1 2 rfl
  rw [if_neg e2, if_neg e2]
  refine lcal_same h hn (okcd_2 (by decide)) ?_
  obtain ⟨w0, -, w1, rfl⟩ := rng_N (a := 0) (b := 4) (by decide) (by decide) (bF e2)
  unfold a_ofMarriage
  dsimp only
  obtain ⟨a1, a2, a3, a4, a5, -⟩ := h.M.1 j (by omega)
  rw [nI_clamp (by omega), a1, a2, a3, a4, a5]
  rcases (by omega : w0 = 0 ∨ w0 = 1 ∨ w0 = 2 ∨ w0 = 3 ∨ w0 = 4) with rfl | rfl | rfl | rfl | rfl <;> rfl
theorem p_ofSuit (h : tie n K S) (hn : n < 512) (s w : Int32) : lcal tie n K (x_of (K.1 33) 4 s w) [1, 2] K (o_ofSuit S s w).1 (a_ofSuit K s w = (o_ofSuit S s w).2) := by
  unfold x_of o_ofSuit
  rw [rng_w, h.N.2.2.2.2.2.2.1]
  by_cases e1 : zix s (S.1 33) = false
  · rw [if_pos e1, if_pos e1]
    exact lcal_thr h hn (okcd_2 (by decide)) 0 1 rfl
  rw [if_neg e1, if_neg e1]
  have hb5 := h.bd.2.2.2.2.2.2
  have h13 := h.N.2.2.2.2.2.2.1
  obtain ⟨j, hj, rfl⟩ := zix_of (bF e1) (by omega)
  by_cases e2 : rng w 0 4 = false
  · rw [if_pos e2, if_pos e2]
    exact lcal_thr h hn (okcd_2 (by decide)) 1 2 rfl
  rw [if_neg e2, if_neg e2]
  refine lcal_same h hn (okcd_2 (by decide)) ?_
  obtain ⟨w0, -, w1, rfl⟩ := rng_N (a := 0) (b := 4) (by decide) (by decide) (bF e2)
  unfold a_ofSuit
  dsimp only
  obtain ⟨a1, a2, a3, a4, a5, a6, a7, a8, a9, -⟩ := h.Su.1 j (by omega)
  have hw := (h.Su.2.2.2 j (by omega)).2.1
  unfold heard
  rw [nI_clamp (by omega), a3, a5, a7, a8, ← hw]
  rcases (by omega : w0 = 0 ∨ w0 = 1 ∨ w0 = 2 ∨ w0 = 3 ∨ w0 = 4) with rfl | rfl | rfl | rfl | rfl
  · rfl
  · rfl
  · rfl
  · show _ = (Int64.toInt32 (Int32.toInt64 _))
    rw [Int32.toInt32_toInt64]
    rfl
  · rfl
theorem forK_sum {K : zK} {s : Nat} {x : Int32} {b : Bool} : ∀ i, forK K s x b i = sumI (kws K s) b (fun p => wgK x (newK K p)) i
  | 0 => rfl
  | i + 1 => by rw [forK, sumI, forK_sum i]
theorem forL_sum (h : tie n K S) {s : Nat} (hs : s < K.1 33) {x : Int32} {b : Bool} : forL (S.2.2.1 20) (S.2.2.1 21) (S.2.2.1 41) x (nI (S.1 1)) s (if b = true then 1 else 2) (S.1 13) = sumK (S.2.2.1 41) s b (fun p => wgK x (newK K p)) 40 := by
  have h13 := h.N.2.2.2.2.1
  have hb5 := h.bd.2.2.2.2.1
  obtain ⟨-, -, h3⟩ := h.Su.2.2.2 s hs
  have key : ∀ k, k ≤ K.1 13 → forL (S.2.2.1 20) (S.2.2.1 21) (S.2.2.1 41) x (nI (S.1 1)) s (if b = true then 1 else 2) k = sumK (S.2.2.1 41) s b (fun p => wgK x (newK K p)) k := by
    intro k
    induction k with
    | zero => intro _; rfl
    | succ k ih =>
      intro hk
      unfold forL sumK
      rw [ih (by omega)]
      congr 1
      by_cases e : S.2.2.1 41 (40 * s + k) = (if b = true then 1 else 2)
      · rw [if_pos e, if_pos e]
        unfold wgt wgK
        rw [if_neg (by rw [e]; cases b <;> decide), t_new h (by omega)]
        rfl
      · rw [if_neg e, if_neg e]
  have rest : ∀ r, K.1 13 + r ≤ 40 → sumK (S.2.2.1 41) s b (fun p => wgK x (newK K p)) (K.1 13 + r) = sumK (S.2.2.1 41) s b (fun p => wgK x (newK K p)) (K.1 13) := by
    intro r
    induction r with
    | zero => intro _; rfl
    | succ r ih =>
      intro hr
      show sumK _ _ _ _ (K.1 13 + r) + (if S.2.2.1 41 (40 * s + (K.1 13 + r)) = (if b = true then 1 else 2) then _ else 0) = _
      rw [ih (by omega), if_neg (by rw [((h3 (K.1 13 + r) (by omega)).2.1 (by omega))]; cases b <;> decide)]
      rfl
  rw [← h13, key _ (Nat.le_refl _), ← rest (40 - K.1 13) (by omega), show K.1 13 + (40 - K.1 13) = 40 by omega]
theorem t_won (h : tie n K S) {s l : Nat} (hs : s < K.1 33) (hl : l ≤ K.1 2) : isWonAt S s (lcode l) = wonK K s l := by
  obtain ⟨h1, -, -⟩ := h.Su.2.2.2 s hs
  have e6 : lawOf S (lcode l) 6 (nI (S.1 1)) = lawK K l 6 (nI (K.1 1)) := by rw [← h.N.1, t_law h hl (by decide) h.bd.1]; rfl
  unfold isWonAt wonK
  have e1 := forL_sum h hs (x := lawK K l 6 (nI (K.1 1))) (b := true)
  have e2 := forL_sum h hs (x := lawK K l 6 (nI (K.1 1))) (b := false)
  rw [if_pos rfl] at e1
  rw [if_neg (by decide)] at e2
  rw [e6, e1, e2, forK_sum, forK_sum, h1, h1]
theorem p_wins (h : tie n K S) (hn : n < 512) (s c : Int32) : lcal tie n K (x_wins K s c) [1] K (o_wins S s c).1 (b2i (a_wins K s c) = (o_wins S s c).2) := by
  unfold x_wins o_wins
  rw [okc_K h, h.N.2.2.2.2.2.2.1]
  by_cases e1 : (zix s (S.1 33) && okK K c) = false
  · rw [if_pos e1, if_pos e1]
    exact lcal_thr h hn (okcd_1 (by decide)) 0 1 rfl
  rw [if_neg e1, if_neg e1]
  refine lcal_same h hn (okcd_1 (by decide)) ?_
  have e1 := bF e1
  rw [Bool.and_eq_true] at e1
  have hb5 := h.bd.2.2.2.2.2.2
  have h13 := h.N.2.2.2.2.2.2.1
  obtain ⟨j, hj, rfl⟩ := zix_of e1.1 (by omega)
  obtain ⟨l, l1, rfl, l3⟩ := okK_of e1.2 h.bd.2.1
  unfold a_wins
  dsimp only
  rw [l3, nI_clamp (by omega), t_won h (by omega) l1]
end TIE4
