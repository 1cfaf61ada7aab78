/-! dies: giving on both sides -/
section TIE27
variable {n : Nat} {K K1 : zK} {S S1 : zS}
theorem shr_each (mn b : Bool) (x : Int64) : x * (nI (if (b && mn) = true then 2 else 1)).toInt64 = if b2i mn = 0 then x else (nI (if b = true then 2 else 1)).toInt64 * x := by
  have e1 : (nI 1).toInt64 = 1 := rfl
  cases mn
  · rw [Bool.and_false, if_neg (fun hh => by cases hh), if_pos (show b2i false = 0 from rfl), e1, Int64.mul_one]
  · rw [Bool.and_true, if_neg (show ¬ b2i true = 0 from by decide), Int64.mul_comm]
theorem tie_give (h : tie n K S) {q : zTl} {gds : Int64} (b : Bool) (hls : lsP q.1 q.2.2.2 (K.1 13) (fun k => decide (S.2.2.1 47 k ≠ 0))) (h0 : 0 < q.1) (hg0 : 0 ≤ gds.toInt) (hgs : sumG (kpe K) (K.1 13) + gds.toInt ≤ 1000000 * n) : tie n (dvK K q gds b) (givesS S gds (if b = true then 2 else 1)) ∧ sumG (kpe (dvK K q gds b)) (K.1 13) = sumG (kpe K) (K.1 13) + gds.toInt := by
  have hb5 := h.bd.2.2.2.2.1
  have h13 := h.N.2.2.2.2.1
  have hn := h.1.1.1
  have hu := t_units h b hls
  have hm2 : (if b = true then 2 else 1) ≤ 2 := by cases b <;> decide
  have hu2 := unitsL_le (S.2.2.1 14) (S.2.2.1 47) (if b = true then 2 else 1) hm2 (S.1 13)
  have hu3 : units S (if b = true then 2 else 1) ≤ 80 := Nat.le_trans hu2 (by omega)
  obtain ⟨u1, u2⟩ := shT_le K b q.2.2.2 q.1
  have hs0 := sumG_0 (K.1 13) h.1.2.1
  have gd := dv_gd (b := b) h.gd hs0 (by omega) hg0 (by omega) hls rfl h0 (by omega)
  have hN : (dvK K q gds b).1 = K.1 := (dvK_fr K q gds b).1
  obtain ⟨gd1, gd2⟩ := gd
  rw [hN] at gd1 gd2
  have hpt := fun (p : Nat) (hp : p < K.1 13) => dv_pt (K := K) (gds := gds) (b := b) hls h0 hp
  have hcase : ∀ p, p < K.1 13 → ∃ g, kpe (dvK K q gds b) p = peGoo (kpe K p) g := fun p hp => by
    rw [hpt p hp]
    split
    · exact ⟨_, rfl⟩
    · exact ⟨(kpe K p).2.2.2.2.2.1, rfl⟩
  have hgl : ∀ p, p < K.1 13 → (givesS S gds (if b = true then 2 else 1)).2.2.2 19 p = (kpe (dvK K q gds b) p).2.2.2.2.2.1 := by
    intro p hp
    have e19 : (givesS S gds (if b = true then 2 else 1)).2.2.2 19 = (givL (S.2.2.1 14) (S.2.2.1 47) (nI (if b = true then 2 else 1)).toInt64 (eachOf S gds (if b = true then 2 else 1)) (S.2.2.2 19) (leftOf S gds (if b = true then 2 else 1)) (S.1 13)).1 := rfl
    rw [e19, hpt p hp]
    have hsv : eachOf S gds (if b = true then 2 else 1) = svT K q gds b := by unfold eachOf svT; rw [hu]
    have hlf : leftOf S gds (if b = true then 2 else 1) = gds - svT K q gds b * (nI (shT K b q.2.2.2 q.1)).toInt64 := by unfold leftOf; rw [hsv, hu]
    rw [hsv, hlf]
    obtain ⟨-, g2, g3⟩ := givL_pt (r14 := S.2.2.1 14) (r47 := S.2.2.1 47) (man := (nI (if b = true then 2 else 1)).toInt64) (each := svT K q gds b) (r19 := S.2.2.2 19) (left := gds - svT K q gds b * (nI (shT K b q.2.2.2 q.1)).toInt64) (S.1 13)
    obtain ⟨a1, -, -, -, -, a6, -⟩ := h.P.1 p hp
    by_cases e : S.2.2.1 47 p = 0
    · rw [g3 p (Or.inl e), if_neg (by rw [decide_eq_false (fun hh => hh e)]; exact fun hh => by cases hh)]
      exact a6
    · rw [g2 p (by omega) e, if_pos (decide_eq_true e)]
      show _ = ((kpe K p).2.2.2.2.2.1 + svT K q gds b * (nI (shr K b p)).toInt64) + _
      rw [a6, a1, Int64.add_assoc]
      congr 1
      congr 1
      · exact (shr_each (kpe K p).1 b _).symm
      · simp only [any_low hls h0 hp e, ite_not]
  refine ⟨tie_pe h (f := kpe (dvK K q gds b)) (dvK_eq K q gds b) (fun p hp => ?_) (fun i _ => rfl) rfl (fun i _ _ _ => rfl) (fun i hi => up_ne hi) (fun p hp => ?_) (fun p hp h40 => ⟨rfl, ?_⟩) (fun p hp => ?_) ?_ ⟨?_, ?_⟩, gd2⟩
  · obtain ⟨g, hg⟩ := hcase p hp
    rw [hg]; exact ⟨rfl, rfl, rfl, rfl⟩
  · have hgp := hgl p hp
    obtain ⟨g, hg⟩ := hcase p hp
    obtain ⟨a1, a2, a3, a4, a5, a6, a7, a8⟩ := h.P.1 p hp
    refine ⟨?_, hgp, ?_, ?_⟩
    · rw [hg]; exact a5
    · rw [hg]; exact a7
    · rw [hg]; exact a8
  · have e19 : (givesS S gds (if b = true then 2 else 1)).2.2.2 19 = (givL (S.2.2.1 14) (S.2.2.1 47) (nI (if b = true then 2 else 1)).toInt64 (eachOf S gds (if b = true then 2 else 1)) (S.2.2.2 19) (leftOf S gds (if b = true then 2 else 1)) (S.1 13)).1 := rfl
    rw [e19]
    exact (givL_pt (S.1 13)).2.2 p (Or.inr (by omega))
  · obtain ⟨g, hg⟩ := hcase p hp
    rw [hg]; exact h.P.2.1 p hp
  · have hpd : pdK (kpe (dvK K q gds b)) (K.1 13) = pdK (kpe K) (K.1 13) := pdK_congr _ (fun p hp => by
      obtain ⟨g, hg⟩ := hcase p hp
      rw [hg]; rfl)
    obtain ⟨r1, r2, r3, r4⟩ := h.1.1
    have hC : kch (dvK K q gds b) = kch K := (dvK_fr K q gds b).2.2.1
    refine ⟨r1, fun i => by rw [hC]; exact r2 i, by rw [hN, hpd]; exact r3, fun p hp => ?_⟩
    rw [hN] at hp
    rw [hN, hC, hpd]
    exact r4 p hp
  · intro p hp
    rw [hN] at hp
    exact gd1 p hp
  · rw [hN, gd2]; exact hgs
end TIE27
