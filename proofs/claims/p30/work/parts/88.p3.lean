/-! calls that change nothing -/
section TIE3
variable {n : Nat} {K K1 : zK} {S S1 : zS}
theorem bF {b : Bool} (h : ¬ b = false) : b = true := by cases b <;> simp_all
theorem t_ix (h : tie n K S) : zix = zix := rfl
theorem p_law (h : tie n K S) (hn : n < 512) (c w d : Int32) : lcal tie n K (x_law K c w d) [1, 2] K (o_law S c w d).1 (a_law K c w d = (o_law S c w d).2) := by
  unfold x_law o_law
  rw [okc_K h, rng_w, rng_w, h.N.1]
  by_cases e1 : okK K c = false
  · rw [if_pos e1, if_pos e1]
    exact lcal_thr h hn (okcd_2 (by decide)) 0 1 rfl
  rw [if_neg e1, if_neg e1]
  by_cases e2 : (rng w 0 6 && rng d 0 (nI (S.1 1))) = true
  · rw [if_neg (by simp [e2]), if_pos e2]
    refine lcal_same h hn (okcd_2 (by decide)) ?_
    rw [Bool.and_eq_true] at e2
    obtain ⟨l, l1, l2, l3⟩ := okK_of (bF e1) h.bd.2.1
    have hb1 := h.bd.1
    have hN1 := h.N.1
    obtain ⟨w0, -, w1, rfl⟩ := rng_N (a := 0) (b := 6) (by decide) (by decide) e2.1
    obtain ⟨d0, -, d1, rfl⟩ := rng_N (a := 0) (by omega) (by decide) e2.2
    show lawK K (lixN c) (nI w0).toNatClampNeg (nI d0) = lawOf S c (nI w0) (nI d0)
    rw [l3, nI_clamp (by omega), t_law h l1 (by omega) (by omega), l2]
  · rw [if_pos (by cases hb : (rng w 0 6 && rng d 0 (nI (S.1 1))) <;> simp_all), if_neg e2]
    exact lcal_thr h hn (okcd_2 (by decide)) 1 2 rfl
theorem p_faith (h : tie n K S) (hn : n < 512) (p d : Int32) : lcal tie n K (x_faith K p d) [1, 2] K (o_faith S p d).1 (a_faith K p d = (o_faith S p d).2) := by
  unfold x_faith o_faith
  rw [rng_w, h.N.1, h.N.2.2.2.2.1]
  by_cases e1 : zix p (S.1 13) = false
  · rw [if_pos e1, if_pos e1]
    exact lcal_thr h hn (okcd_2 (by decide)) 0 1 rfl
  rw [if_neg e1, if_neg e1]
  have hb5 := h.bd.2.2.2.2.1
  rw [h.N.2.2.2.2.1] at hb5
  obtain ⟨j, hj, rfl⟩ := zix_of (bF e1) (by omega)
  rw [nI_clamp (by omega), (h.P.1 j (by rw [h.N.2.2.2.2.1]; exact hj)).2.2.2.1]
  by_cases e2 : rng d (kpe K j).2.2.2.1 (nI (S.1 1)) = true
  · rw [if_neg (by simp [e2]), if_pos e2]
    refine lcal_same h hn (okcd_2 (by decide)) ?_
    show faithK K (nI j).toNatClampNeg d = faithAt S j d
    rw [nI_clamp (by omega), t_faith h (by rw [h.N.2.2.2.2.1]; exact hj)]
  · rw [if_pos (by cases hb : rng d (kpe K j).2.2.2.1 (nI (S.1 1)) <;> simp_all), if_neg e2]
    exact lcal_thr h hn (okcd_2 (by decide)) 1 2 rfl
theorem maxB_w {K : zK} {p q : Nat} {d t : Int32} : wthn d (maxB K p q) t = (rng d (kpe K p).2.2.2.1 t && rng d (kpe K q).2.2.2.1 t) := by
  unfold maxB wthn rng
  split <;> rename_i h <;> rw [Int32.lt_iff_toInt_lt] at h <;> rw [Bool.eq_iff_iff] <;> simp only [Bool.and_eq_true, decide_eq_true_eq, Int32.le_iff_toInt_le] <;> constructor <;> intro h1 <;> refine ⟨?_, ?_⟩ <;> first | omega | (constructor <;> omega)
theorem p_court (h : tie n K S) (hn : n < 512) (m p q d : Int32) : lcal tie n K (x_court K m p q d) [1, 2] K (o_court S m p q d).1 (a_court K m p q d = (o_court S m p q d).2) := by
  unfold x_court o_court
  rw [maxB_w, rng_w, h.N.2.2.2.2.1, h.N.1]
  by_cases e1 : (zix p (S.1 13) && zix q (S.1 13)) = false
  · rw [if_pos e1, if_pos e1]
    exact lcal_thr h hn (okcd_2 (by decide)) 0 1 rfl
  rw [if_neg e1, if_neg e1]
  have e1 := bF e1
  rw [Bool.and_eq_true] at e1
  have hb1 := h.bd.1
  have hN1 := h.N.1
  have hb5 := h.bd.2.2.2.2.1
  have h13 := h.N.2.2.2.2.1
  obtain ⟨i, hi, rfl⟩ := zix_of e1.1 (by omega)
  obtain ⟨j, hj, rfl⟩ := zix_of e1.2 (by omega)
  rw [nI_clamp (by omega), nI_clamp (by omega), (h.P.1 i (by omega)).2.2.2.1, (h.P.1 j (by omega)).2.2.2.1]
  by_cases e2 : (rng m 0 3 && (rng d (kpe K i).2.2.2.1 (nI (S.1 1)) && rng d (kpe K j).2.2.2.1 (nI (S.1 1)))) = true
  · rw [if_neg (by simp [e2]), if_pos e2]
    refine lcal_same h hn (okcd_2 (by decide)) ?_
    rw [Bool.and_eq_true, Bool.and_eq_true] at e2
    obtain ⟨m0, -, m1, rfl⟩ := rng_N (a := 0) (b := 3) (by decide) (by decide) e2.1
    obtain ⟨b1, a1, a2, -⟩ := h.P.2.1 i (by omega)
    obtain ⟨b2, c1, c2, -⟩ := h.P.2.1 j (by omega)
    rw [a2, c2] at e2
    obtain ⟨d0, d1, d2, rfl⟩ := rng_N (by omega) (by omega) e2.2.1
    obtain ⟨d3, d4, d5, d6⟩ := rng_N (by omega) (by omega) e2.2.2
    have : d0 = d3 := (nI_eq (by omega) (by omega)).mp d6
    subst this
    show crtK K (nI m0).toNatClampNeg (nI i).toNatClampNeg (nI j).toNatClampNeg (nI d0) = courtOn S (nI m0) i j (nI d0).toNatClampNeg
    rw [nI_clamp (by omega), nI_clamp (by omega), nI_clamp (by omega), nI_clamp (by omega), t_crt h (by omega) (by omega) (by omega) a2 c2 d1 d4 (by omega)]
  · rw [if_pos (by cases hb : (rng m 0 3 && (rng d (kpe K i).2.2.2.1 (nI (S.1 1)) && rng d (kpe K j).2.2.2.1 (nI (S.1 1)))) <;> simp_all), if_neg e2]
    exact lcal_thr h hn (okcd_2 (by decide)) 1 2 rfl
theorem p_treasury (h : tie n K S) (hn : n < 512) : K.2.1 = (o_treasury S).2 ∧ tie (n + 1) K (o_treasury S).1 := ⟨h.N.2.2.2.2.2.2.2, (h.up hn).th 0⟩
theorem p_all (h : tie n K S) (hn : n < 512) : allK K (K.1 13) = (o_all S).2 ∧ tie (n + 1) K (o_all S).1 := by
  refine ⟨?_, (h.up hn).th 0⟩
  show _ = allL (S.2.2.2 19) S.2.1 (S.1 13)
  rw [← h.N.2.2.2.2.1]
  have key : ∀ k, k ≤ K.1 13 → allK K k = allL (S.2.2.2 19) S.2.1 k := by
    intro k
    induction k with
    | zero => intro _; exact h.N.2.2.2.2.2.2.2
    | succ k ih =>
      intro hk
      show allK K k + _ = allL _ _ k + _
      rw [ih (by omega), (h.P.1 k (by omega)).2.2.2.2.2.1]
  exact key _ (Nat.le_refl _)
/-- lasting marriages -/
theorem t_las (h : tie n K S) {m p : Nat} (hm : m < K.1 25) (hp : p < K.1 13) : lastsFor (S.2.2.1 26) (S.2.2.1 27) (S.2.2.1 28) m (nI p) = lasK K m p := by
  obtain ⟨a1, a2, a3, -⟩ := h.M.1 m hm
  obtain ⟨b1, b2, -⟩ := h.ik.2.2.1.1 m hm
  have hb5 := h.bd.2.2.2.2.1
  unfold lastsFor lasK
  rw [a1, a2, a3]
  congr 1
  congr 1 <;> rw [decide_eq_decide] <;> exact nI_eq (by omega) (by omega)
theorem t_hml (h : tie n K S) {p : Nat} (hp : p < K.1 13) : lasting S (nI p) = hml K p := by
  unfold lasting hml
  rw [← h.N.2.2.2.2.2.1]
  have key : ∀ k, k ≤ K.1 25 → lastL (S.2.2.1 26) (S.2.2.1 27) (S.2.2.1 28) (nI p) k = hmlL K p k := by
    intro k
    induction k with
    | zero => intro _; rfl
    | succ k ih =>
      intro hk
      unfold lastL hmlL
      rw [ih (by omega), t_las h (by omega) hp]
  exact key _ (Nat.le_refl _)
theorem t_low (h : tie n K S) {p : Nat} (hp : p < K.1 13) : lowestMarriage S (nI p) = lowK K p (K.1 25) (K.1 25) := by
  unfold lowestMarriage
  rw [← h.N.2.2.2.2.2.1]
  have key : ∀ r, r ≤ K.1 25 → lowM (S.2.2.1 26) (S.2.2.1 27) (S.2.2.1 28) (nI p) (K.1 25) r = lowK K p (K.1 25) r := by
    intro r
    induction r with
    | zero => intro _; rfl
    | succ r ih =>
      intro hr
      unfold lowM lowK
      rw [ih (by omega), t_las h (by omega) hp]
  exact key _ (Nat.le_refl _)
theorem oc_eq {r : Option Nat} {p : Nat} (hr : ∀ q, r = some q → q < 40) (hp : p < 40) : decide (ocode r = nI p) = decide (r = some p) := by
  rw [decide_eq_decide]
  cases r with
  | none => simp [ocode]; exact fun e => nI_m1 (by omega) e.symm
  | some q => simp only [ocode, Option.some.injEq]; exact nI_eq (by have := hr q rfl; omega) (by omega)
theorem t_chl (h : tie n K S) {k p : Nat} (hk : k < K.1 13) (hp : p < K.1 13) : (isChild (S.2.2.1 15) (S.2.2.1 16) k (nI p) && decide (S.2.2.1 18 k = 0)) = chlK K k p := by
  have hb5 := h.bd.2.2.2.2.1
  obtain ⟨a1, a2, a3, -⟩ := h.P.1 k hk
  have hpa := h.ik.2.2.1.2.2 k hk
  unfold isChild chlK
  rw [t_liv h hk, a2, a3, oc_eq (fun q hq => by have := hpa.1 q hq; omega) (by omega), oc_eq (fun q hq => by have := hpa.2 q hq; omega) (by omega), Bool.and_comm]
theorem t_kid (h : tie n K S) {p : Nat} (hp : p < K.1 13) : kids S (nI p) = kid K p := by
  unfold kids kid
  rw [← h.N.2.2.2.2.1]
  have key : ∀ k, k ≤ K.1 13 → kidsL (S.2.2.1 15) (S.2.2.1 16) (S.2.2.1 18) (nI p) k = kidL K p k := by
    intro k
    induction k with
    | zero => intro _; rfl
    | succ k ih =>
      intro hk
      unfold kidsL kidL
      rw [ih (by omega), ← t_chl h (by omega) hp]
      congr 1
      simp only [Bool.and_eq_true, decide_eq_true_eq]
  exact key _ (Nat.le_refl _)
end TIE3
