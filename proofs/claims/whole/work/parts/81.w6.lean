/-- what a tie T of the two states must do: it holds at the start, gives what the calls want, and every pair of calls keeps it and answers alike -/
def zPack (T : Nat → zK → zS → Prop) : Prop :=
  T 0 K0 zS0 ∧ (∀ n K S, T n K S → zOK K S) ∧ (∀ n K S, T n K S → n < 512 → T (n + 1) K S) ∧
  (∀ n K S, T n K S → n < 512 → lcal T n K (x_community K) [3] (newC K (nI (K.1 1))) (o_community S).1 ((nI (K.1 2)) = (o_community S).2)) ∧
  (∀ n K S, T n K S → n < 512 → ∀ (a0 : Int32) (a1 : Bool), lcal T n K (x_recognise K a0) [1] (k_recognise K a0 a1) (o_recognise S a0 a1).1 (b2i (a_recognise K a0) = (o_recognise S a0 a1).2)) ∧
  (∀ n K S, T n K S → n < 512 → ∀ (a0 : Int32) (a1 : Int32) (a2 : Int32), lcal T n K (x_decree K a0 a1 a2) [1, 2, 3] (k_decree K a0 a1 a2) (o_decree S a0 a1 a2).1 ((lawK K (lixN a0) a1.toNatClampNeg (nI (K.1 1))) = (o_decree S a0 a1 a2).2)) ∧
  (∀ n K S, T n K S → n < 512 → ∀ (a0 : Int32) (a1 : Int32), lcal T n K (x_rule K a0 a1) [2, 3] (k_rule K a0 a1) (o_rule S a0 a1).1 ((chN (kch K a0.toNatClampNeg)) = (o_rule S a0 a1).2)) ∧
  (∀ n K S, T n K S → n < 512 → ∀ (a0 : Int32) (a1 : Int32) (a2 : Int32), lcal T n K (x_law K a0 a1 a2) [1, 2] (K) (o_law S a0 a1 a2).1 ((a_law K a0 a1 a2) = (o_law S a0 a1 a2).2)) ∧
  (∀ n K S, T n K S → n < 512 → ∀ (a0 : Int32) (a1 : Int32) (a2 : Int32) (a3 : Int32), lcal T n K (x_court K a0 a1 a2 a3) [1, 2] (K) (o_court S a0 a1 a2 a3).1 ((a_court K a0 a1 a2 a3) = (o_court S a0 a1 a2 a3).2)) ∧
  (∀ n K S, T n K S → n < 512 → ∀ (a0 : Bool) (a1 : Int32) (a2 : Int32) (a3 : Int32), lcal T n K (x_person K a1 a2 a3) [1, 2, 3] (k_person K a0 a1 a2 a3) (o_person S (b2i a0) a1 a2 a3).1 ((nI (K.1 13)) = (o_person S (b2i a0) a1 a2 a3).2)) ∧
  (∀ n K S, T n K S → n < 512 → ∀ (a0 : Int32) (a1 : Int32) (a2 : Int32) (a3 : Int32), lcal T n K (x_turn K a0 a1 a2 a3) [1, 2, 3] (k_turn K a0 a1) (o_turn S a0 a1 a2 a3).1 ((nI (K.1 1) + 30) = (o_turn S a0 a1 a2 a3).2)) ∧
  (∀ n K S, T n K S → n < 512 → ∀ (a0 : Int32), lcal T n K (x_recant K a0) [1, 3] (k_recant K a0) (o_recant S a0).1 ((kpe K a0.toNatClampNeg).2.2.2.2.2.2.1 = (o_recant S a0).2)) ∧
  (∀ n K S, T n K S → n < 512 → ∀ (a0 : Int32) (a1 : Int32), lcal T n K (x_faith K a0 a1) [1, 2] (K) (o_faith S a0 a1).1 ((a_faith K a0 a1) = (o_faith S a0 a1).2)) ∧
  (∀ n K S, T n K S → n < 512 → ∀ (a0 : Int32) (a1 : Int32) (a2 : Int32), lcal T n K (x_marry K a0 a1 a2) [1, 2, 3] (k_marry K a0 a1 a2) (o_marry S a0 a1 a2).1 ((nI (K.1 25)) = (o_marry S a0 a1 a2).2)) ∧
  (∀ n K S, T n K S → n < 512 → ∀ (a0 : Int32) (a1 : Bool), lcal T n K (x_divorce K a0) [1, 3] (k_divorce K a0 a1) (o_divorce S a0 a1).1 (b2i (dvE K a0.toNatClampNeg a1) = (o_divorce S a0 a1).2)) ∧
  (∀ n K S, T n K S → n < 512 → ∀ (a0 : Int32) (a1 : Int32), lcal T n K (x_goods K a0 a1) [1, 2, 3] (k_goods K a0 a1) (o_goods S a0 a1).1 ((kpe K a0.toNatClampNeg).2.2.2.2.2.1 + a1.toInt64 = (o_goods S a0 a1).2)) ∧
  (∀ n K S, T n K S → n < 512 → ∀ (a0 : Int32), lcal T n K (x_dies K a0) [1, 3] (k_dies K a0.toNatClampNeg) (o_dies S a0).1 (a_dies K a0.toNatClampNeg = (o_dies S a0).2)) ∧
  (∀ n K S, T n K S → n < 512 → ∀ (a0 : Int32) (a1 : Int32) (a2 : Int32) (a3 : Int32), lcal T n K (x_sue K a0 a1 a2 a3) [1, 2, 3] (k_sue K a0 a1 a2 a3) (o_sue S a0 a1 a2 a3).1 ((nI (K.1 33)) = (o_sue S a0 a1 a2 a3).2)) ∧
  (∀ n K S, T n K S → n < 512 → ∀ (a0 : Int32), lcal T n K (x_appear K a0) [1, 3] (k_appear K a0) (o_appear S a0).1 (b2i (!(ksu K a0.toNatClampNeg).2.2.2.2.2.1) = (o_appear S a0).2)) ∧
  (∀ n K S, T n K S → n < 512 → ∀ (a0 : Int32) (a1 : Int32) (a2 : Bool), lcal T n K (x_testify K a0 a1) [1, 3] (k_testify K a0 a1 a2) (o_testify S a0 a1 a2).1 ((nI ((kws K a0.toNatClampNeg).1 + 1)) = (o_testify S a0 a1 a2).2)) ∧
  (∀ n K S, T n K S → n < 512 → ∀ (a0 : Int32), lcal T n K (x_judge K a0) [1, 3] (k_judge K a0) (o_judge S a0).1 (b2i (a_judge K a0) = (o_judge S a0).2)) ∧
  (∀ n K S, T n K S → n < 512 → ∀ (a0 : Int32), lcal T n K (x_appeal K a0) [1, 3] (k_appeal K a0) (o_appeal S a0).1 (b2i (wonK K a0.toNatClampNeg 0) = (o_appeal S a0).2)) ∧
  (∀ n K S, T n K S → n < 512 → ∀ (a0 : Int32), lcal T n K (x_execute K a0) [1, 3] (k_execute K a0.toNatClampNeg) (o_execute S a0).1 ((exeA K a0.toNatClampNeg).toInt64 = (o_execute S a0).2)) ∧
  (∀ n K S, T n K S → n < 512 → ∀ (a0 : Int32) (a1 : Int32), lcal T n K (x_wins K a0 a1) [1] (K) (o_wins S a0 a1).1 (b2i (a_wins K a0 a1) = (o_wins S a0 a1).2)) ∧
  (∀ n K S, T n K S → n < 512 → ∀ (a0 : Int32) (a1 : Int32), lcal T n K (x_of (K.1 13) 5 a0 a1) [1, 2] (K) (o_ofPerson S a0 a1).1 (a_ofPerson K a0 a1 = (o_ofPerson S a0 a1).2)) ∧
  (∀ n K S, T n K S → n < 512 → ∀ (a0 : Int32) (a1 : Int32), lcal T n K (x_of (K.1 25) 4 a0 a1) [1, 2] (K) (o_ofMarriage S a0 a1).1 ((a_ofMarriage K a0 a1) = (o_ofMarriage S a0 a1).2)) ∧
  (∀ n K S, T n K S → n < 512 → ∀ (a0 : Int32) (a1 : Int32), lcal T n K (x_of (K.1 33) 4 a0 a1) [1, 2] (K) (o_ofSuit S a0 a1).1 ((a_ofSuit K a0 a1) = (o_ofSuit S a0 a1).2)) ∧
  (∀ n K S, T n K S → n < 512 → K.2.1 = (o_treasury S).2 ∧ T (n + 1) K (o_treasury S).1) ∧
  (∀ n K S, T n K S → n < 512 → allK K (K.1 13) = (o_all S).2 ∧ T (n + 1) K (o_all S).1) ∧
  (∀ n K S, T n K S → n < 512 → ∀ (a0 : Int32), lcal T n K (x_pass K a0) [2, 3] (psK K a0.toNatClampNeg) (o_pass S a0).1 ((nI (K.1 1 + a0.toNatClampNeg)) = (o_pass S a0).2))
theorem and31 (a : Int32) : ∃ j, j < 32 ∧ a &&& 31 = nI j := by
  refine ⟨(a.toBitVec &&& 31#32).toNat, ?_, ?_⟩
  · rw [BitVec.toNat_and]
    exact Nat.lt_succ_of_le (Nat.and_le_right)
  · apply Int32.toBitVec_inj.mp
    rw [Int32.toBitVec_and]
    show _ = BitVec.ofNat 32 _
    rw [BitVec.ofNat_toNat]
    simp
set_option maxRecDepth 100000 in
set_option maxHeartbeats 4000000 in
theorem lw_loop {g : zGh} {X : zX} (C : zC g X RL cL_law_ 8 12 454 711863 6960515) (hN : zNc X.1.2.2.2) {b Ls : Nat} {xs : Nat → Int32} (hX : va_X b Ls xs X.1.2.2.2 X.1.2.2.2.heap) (hbl : b < X.1.2.2.2.heap.size) (hbA : ¬ zA g b) (hLs : Ls ≤ 2560) {mo : Nat} {mad : Nat → Nat} {o x : Nat} (T : Nat → zK → zS → Prop) (hP : zPack T)
    (kend : ∀ (M : zM) (k m : Nat) (L : List (Option Value)), k ≤ 711863 → m ≤ 6960515 → zG g X M k m 2033 L [.int 1]) :
    ∀ r n, n + r = Ls / 5 → ∀ M k m, zLI T g mo mad o x n M k m → zG g X M k m 23 [some (.ref b), some (.ref x), some (.ref mo), some (.ref o), some (.int (nI (5 * n))), none, none, none] [] := by
  obtain ⟨-, hok0, hdef, p_community, p_recognise, p_decree, p_rule, p_law, p_court, p_person, p_turn, p_recant, p_faith, p_marry, p_divorce, p_goods, p_dies, p_sue, p_appear, p_testify, p_judge, p_appeal, p_execute, p_wins, p_ofPerson, p_ofMarriage, p_ofSuit, p_treasury, p_all, p_pass⟩ := hP
  have hcap : ∀ n K S, T n K S → cF K ≤ 163840 := fun n K S h => (hok0 n K S h).1.2.2.2.2.2
  have hsub : (nI Ls - 5).toInt = (Ls : Int) - 5 := by
    have := pk_sub_toInt (a := Ls) (b := 5) (by omega) (by decide)
    rw [show nI 5 = (5 : Int32) from rfl] at this
    rw [this]; rfl
  intro r
  induction r with
  | zero =>
    intro n hn M k m hI
    obtain ⟨K, S, f, ad, hL, hT, hk, hm⟩ := hI
    have hc := hcap n K S hT
    refine ziload C dL_law__23 rfl ?_
    refine zaload_n C dL_law__25 rfl ?_
    refine zslenG C hX hbl hbA dL_law__26 ?_
    refine zconst (v := 5) C dL_law__27 (by decide) ?_
    refine zisub C dL_law__28 ?_
    refine zicmp_gt (tgt := 2032) C dL_law__29 (by decide) (fun h => ?_) (fun h => ?_)
    · refine zconst (v := 1) C dL_law__2032 (by decide) ?_
      exact kend _ _ _ _ (by omega) (by omega)
    · refine absurd ?_ h
      rw [Int32.lt_iff_toInt_lt, hsub, nI_toInt (by omega)]
      omega
  | succ r ih =>
    intro n hn M k m hI
    obtain ⟨K, S, f, ad, hL, hT, hk, hm⟩ := hI
    have hok := hok0 n K S hT
    have hn5 : 5 * n + 5 ≤ Ls := by omega
    have hn512 : n < 512 := by omega
    have kk : ∀ M1 k1 m1, zLI T g mo mad o x (n + 1) M1 k1 m1 → zG g X M1 k1 m1 2026 [some (.ref b), some (.ref x), some (.ref mo), some (.ref o), some (.int (nI (5 * n))), none, none, none] [] := by
      intro M1 k1 m1 h1
      refine ziinc (L1 := [_, _, _, _, _, _, _, _]) (v := nI (5 * (n + 1))) C dL_law__2026 rfl (nI_add (5 * n) 5) rfl ?_
      refine zgoto (tgt := 23) C dL_law__2029 (by decide) ?_
      exact zcg (ih (n + 1) (by omega) M1 k1 m1 h1)
    refine ziload C dL_law__23 rfl ?_
    refine zaload_n C dL_law__25 rfl ?_
    refine zslenG C hX hbl hbA dL_law__26 ?_
    refine zconst (v := 5) C dL_law__27 (by decide) ?_
    refine zisub C dL_law__28 ?_
    refine zicmp_gt (tgt := 2032) C dL_law__29 (by decide) (fun h => ?_) (fun h => ?_)
    · refine absurd h ?_
      rw [Int32.lt_iff_toInt_lt, hsub, nI_toInt (by omega)]
      omega
    refine zaload_n C dL_law__32 rfl ?_
    refine ziload C dL_law__33 rfl ?_
    refine zsldG (i0 := 5 * n) C hX hbl hbA rfl (by omega) (by omega) dL_law__35 ?_
    refine zbipush (v := 31) C dL_law__36 (by decide) ?_
    refine ziand C dL_law__38 ?_
    obtain ⟨j, hj, hje⟩ := and31 (xs (5 * n))
    rw [hje]
    by_cases h27 : 27 ≤ j
    · refine zts_out (tgt := 2026) C dL_law__39 (Or.inr (by rw [nI_toInt (by omega)]; omega)) (by decide) ?_
      exact kk _ _ _ ⟨K, S, f, ad, hL, hdef n K S hT hn512, by omega, by omega⟩
    · have hj27 : j < 27 := by omega
      match j, hj27 with
      | 0, _ =>
        refine zts_in (off := 121) (tgt := 160) C dL_law__39 (by decide) (by decide) (by decide) (by decide) ?_
        exact lc_community C hN hX hbl hbA hn5 hLs hL hok T (p_community n K S hT hn512) hk hm kk
      | 1, _ =>
        refine zts_in (off := 165) (tgt := 204) C dL_law__39 (by decide) (by decide) (by decide) (by decide) ?_
        exact lc_recognise C hN hX hbl hbA hn5 hLs hL hok T (p_recognise n K S hT hn512) hk hm kk
      | 2, _ =>
        refine zts_in (off := 256) (tgt := 295) C dL_law__39 (by decide) (by decide) (by decide) (by decide) ?_
        exact lc_decree C hN hX hbl hbA hn5 hLs hL hok T (p_decree n K S hT hn512) hk hm kk
      | 3, _ =>
        refine zts_in (off := 336) (tgt := 375) C dL_law__39 (by decide) (by decide) (by decide) (by decide) ?_
        exact lc_rule C hN hX hbl hbA hn5 hLs hL hok T (p_rule n K S hT hn512) hk hm kk
      | 4, _ =>
        refine zts_in (off := 404) (tgt := 443) C dL_law__39 (by decide) (by decide) (by decide) (by decide) ?_
        exact lc_law C hN hX hbl hbA hn5 hLs hL hok T (p_law n K S hT hn512) hk hm kk
      | 5, _ =>
        refine zts_in (off := 484) (tgt := 523) C dL_law__39 (by decide) (by decide) (by decide) (by decide) ?_
        exact lc_court C hN hX hbl hbA hn5 hLs hL hok T (p_court n K S hT hn512) hk hm kk
      | 6, _ =>
        refine zts_in (off := 576) (tgt := 615) C dL_law__39 (by decide) (by decide) (by decide) (by decide) ?_
        exact lc_person C hN hX hbl hbA hn5 hLs hL hok T (p_person n K S hT hn512) hk hm kk
      | 7, _ =>
        refine zts_in (off := 684) (tgt := 723) C dL_law__39 (by decide) (by decide) (by decide) (by decide) ?_
        exact lc_turn C hN hX hbl hbA hn5 hLs hL hok T (p_turn n K S hT hn512) hk hm kk
      | 8, _ =>
        refine zts_in (off := 776) (tgt := 815) C dL_law__39 (by decide) (by decide) (by decide) (by decide) ?_
        exact lc_recant C hN hX hbl hbA hn5 hLs hL hok T (p_recant n K S hT hn512) hk hm kk
      | 9, _ =>
        refine zts_in (off := 832) (tgt := 871) C dL_law__39 (by decide) (by decide) (by decide) (by decide) ?_
        exact lc_faith C hN hX hbl hbA hn5 hLs hL hok T (p_faith n K S hT hn512) hk hm kk
      | 10, _ =>
        refine zts_in (off := 900) (tgt := 939) C dL_law__39 (by decide) (by decide) (by decide) (by decide) ?_
        exact lc_marry C hN hX hbl hbA hn5 hLs hL hok T (p_marry n K S hT hn512) hk hm kk
      | 11, _ =>
        refine zts_in (off := 980) (tgt := 1019) C dL_law__39 (by decide) (by decide) (by decide) (by decide) ?_
        exact lc_divorce C hN hX hbl hbA hn5 hLs hL hok T (p_divorce n K S hT hn512) hk hm kk
      | 12, _ =>
        refine zts_in (off := 1071) (tgt := 1110) C dL_law__39 (by decide) (by decide) (by decide) (by decide) ?_
        exact lc_goods C hN hX hbl hbA hn5 hLs hL hok T (p_goods n K S hT hn512) hk hm kk
      | 13, _ =>
        refine zts_in (off := 1138) (tgt := 1177) C dL_law__39 (by decide) (by decide) (by decide) (by decide) ?_
        exact lc_dies C hN hX hbl hbA hn5 hLs hL hok T (p_dies n K S hT hn512) hk hm kk
      | 14, _ =>
        refine zts_in (off := 1193) (tgt := 1232) C dL_law__39 (by decide) (by decide) (by decide) (by decide) ?_
        exact lc_sue C hN hX hbl hbA hn5 hLs hL hok T (p_sue n K S hT hn512) hk hm kk
      | 15, _ =>
        refine zts_in (off := 1285) (tgt := 1324) C dL_law__39 (by decide) (by decide) (by decide) (by decide) ?_
        exact lc_appear C hN hX hbl hbA hn5 hLs hL hok T (p_appear n K S hT hn512) hk hm kk
      | 16, _ =>
        refine zts_in (off := 1348) (tgt := 1387) C dL_law__39 (by decide) (by decide) (by decide) (by decide) ?_
        exact lc_testify C hN hX hbl hbA hn5 hLs hL hok T (p_testify n K S hT hn512) hk hm kk
      | 17, _ =>
        refine zts_in (off := 1444) (tgt := 1483) C dL_law__39 (by decide) (by decide) (by decide) (by decide) ?_
        exact lc_judge C hN hX hbl hbA hn5 hLs hL hok T (p_judge n K S hT hn512) hk hm kk
      | 18, _ =>
        refine zts_in (off := 1507) (tgt := 1546) C dL_law__39 (by decide) (by decide) (by decide) (by decide) ?_
        exact lc_appeal C hN hX hbl hbA hn5 hLs hL hok T (p_appeal n K S hT hn512) hk hm kk
      | 19, _ =>
        refine zts_in (off := 1570) (tgt := 1609) C dL_law__39 (by decide) (by decide) (by decide) (by decide) ?_
        exact lc_execute C hN hX hbl hbA hn5 hLs hL hok T (p_execute n K S hT hn512) hk hm kk
      | 20, _ =>
        refine zts_in (off := 1625) (tgt := 1664) C dL_law__39 (by decide) (by decide) (by decide) (by decide) ?_
        exact lc_wins C hN hX hbl hbA hn5 hLs hL hok T (p_wins n K S hT hn512) hk hm kk
      | 21, _ =>
        refine zts_in (off := 1700) (tgt := 1739) C dL_law__39 (by decide) (by decide) (by decide) (by decide) ?_
        exact lc_ofPerson C hN hX hbl hbA hn5 hLs hL hok T (p_ofPerson n K S hT hn512) hk hm kk
      | 22, _ =>
        refine zts_in (off := 1767) (tgt := 1806) C dL_law__39 (by decide) (by decide) (by decide) (by decide) ?_
        exact lc_ofMarriage C hN hX hbl hbA hn5 hLs hL hok T (p_ofMarriage n K S hT hn512) hk hm kk
      | 23, _ =>
        refine zts_in (off := 1835) (tgt := 1874) C dL_law__39 (by decide) (by decide) (by decide) (by decide) ?_
        exact lc_ofSuit C hN hX hbl hbA hn5 hLs hL hok T (p_ofSuit n K S hT hn512) hk hm kk
      | 24, _ =>
        refine zts_in (off := 1903) (tgt := 1942) C dL_law__39 (by decide) (by decide) (by decide) (by decide) ?_
        exact lc_treasury C hN hX hbl hbA hn5 hLs hL hok T (p_treasury n K S hT hn512) hk hm kk
      | 25, _ =>
        refine zts_in (off := 1917) (tgt := 1956) C dL_law__39 (by decide) (by decide) (by decide) (by decide) ?_
        exact lc_all C hN hX hbl hbA hn5 hLs hL hok T (p_all n K S hT hn512) hk hm kk
      | 26, _ =>
        refine zts_in (off := 1931) (tgt := 1970) C dL_law__39 (by decide) (by decide) (by decide) (by decide) ?_
        exact lc_pass C hN hX hbl hbA hn5 hLs hL hok T hcap (p_pass n K S hT hn512) hk hm kk
      | j + 27, h => exact absurd h (by omega)
