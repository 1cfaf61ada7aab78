set_option maxRecDepth 100000 in
set_option maxHeartbeats 4000000 in
theorem lw_443 {g : zGh} {X : zX} (C : zC g X RL cL_law 16 14 564 740299 6880728) (hN : zNc X.1.2.2.2) {b Ls : Nat} {xs : Nat → Int32} (hX : va_X b Ls xs X.1.2.2.2 X.1.2.2.2.heap) (hbl : b < X.1.2.2.2.heap.size) (hbA : ¬ zA g b) (hLs : Ls ≤ 260) {x y : Nat} (T : Nat → Int → zK → zK → Prop) (hP : pk30 T) {i : Nat} (hi : i < 160) (ih : ∀ td br M k m, zI30 T g x y (i + 1) td br M k m → zG g X M k m 246 [some (.ref b), some (.ref x), some (.ref y), some (.int 1), some (.int td), some (.long br), none, some (.int (nI (i + 1))), none, none, none, none, none, none, none, none] []) {n : Nat} {Ko Kp : zK} {ao ap : zg → Nat} {M : zM} {br : Int64} {v : Int32} {k m : Nat} (z : zW2 g Ko Kp ao ap M) (hxo : ao (0, 0) = x) (hyp : ap (0, 0) = y) (hT : T n br.toInt Ko Kp) (h4 : 4 ≤ Ko.1 2) (h8 : 8 ≤ Ko.1 13) (hn : n ≤ 16 + 3 * i) (hk : k ≤ b30 i + 200 + cF Ko + cF Kp) (hm : m ≤ s30 i + 12000 + 4 * cF Ko + 4 * cF Kp) : zG g X M k m 443 [some (.ref b), some (.ref x), some (.ref y), some (.int 1), some (.int (nI (Ko.1 1))), some (.long br), none, some (.int (nI i)), some (.int v), none, none, none, none, none, none, none] [] := by
  obtain ⟨-, p_ok, -, -, -, -, p_al, p_gs, p_qu⟩ := hP
  obtain ⟨hok, hkp, hc1, hb1, hB0, hB1⟩ := p_ok _ _ _ _ hT
  obtain ⟨a1, a2, a3⟩ := p_al _ _ _ _ hT
  obtain ⟨⟨g1, g2, g3, g4, g5, g6⟩, -⟩ := p_gs _ _ _ _ hT
  have hcf1 := hok.2.2.2.2.2
  have hcf2 := hkp.2.2.2.2.2
  unfold b30 at hk
  unfold s30 at hm
  have td1 : ¬ nI (Ko.1 1) + 1 = 0 := by
    rw [show nI (Ko.1 1) + 1 = nI (Ko.1 1 + 1) from nI_add (Ko.1 1) 1]
    exact fun e => absurd ((nI_eq (by omega) (by decide)).mp e) (Nat.succ_ne_zero _)
  have hbr : allK Ko (Ko.1 13) = br := i64_ext g1
  subst hxo
  subst hyp
  have k540 : ∀ k m, k ≤ 2000 + 200 * (i + 1) + 12288 * ((i + 1) / 16) + 4200 * ((i + 2) / 5) + 1400 * ((i + 2) / 6) + 400 * ((i + 2) / 9) + cF Ko + cF Kp → m ≤ 20000 + 12000 * (i + 1) + 73728 * ((i + 1) / 16) + 25200 * ((i + 2) / 5) + 8400 * ((i + 2) / 6) + 26000 * ((i + 2) / 9) + 4 * cF Ko + 4 * cF Kp → zG g X M k m 536 [some (.ref b), some (.ref (ao (0, 0))), some (.ref (ap (0, 0))), some (.int 1), some (.int (nI (Ko.1 1))), some (.long br), none, some (.int (nI i)), some (.int v), none, none, none, none, none, none, none] [] := by
    intro k m hk hm
    refine zconst (v := 1) C dL_law_536 (by decide) ?_
    refine zgoto (tgt := 541) C dL_law_537 (by decide) ?_
    refine zistore_n (L1 := [_, _, _, _, _, _, _, _, _, _, _, _, _, _, _, _]) C dL_law_541 rfl (Nat.le_of_ble_eq_true rfl) ?_
    refine ziinc (L1 := [_, _, _, _, _, _, _, _, _, _, _, _, _, _, _, _]) (v := nI (i + 1)) C dL_law_542 rfl (nI_add i 1) rfl ?_
    refine zgoto (tgt := 246) C dL_law_545 (by decide) ?_
    refine zfor [true, true, true, true, true, true, false, true, false, false, false, false, false, false, false, false] rfl ?_
    refine ih _ _ _ _ _ ⟨n, Ko, Kp, ao, ap, z, rfl, rfl, hT, rfl, h4, h8, by omega, ?_, ?_⟩
    · unfold b30; rw [show i + 1 + 1 = i + 2 from rfl]; omega
    · unfold s30; rw [show i + 1 + 1 = i + 2 from rfl]; omega
  have k509 : ∀ k m, k ≤ 2000 + 200 * (i + 1) + 12288 * ((i + 1) / 16) + 4200 * ((i + 2) / 5) + 1400 * ((i + 2) / 6) + 400 * ((i + 1) / 9) + cF Ko + cF Kp → m ≤ 20000 + 12000 * (i + 1) + 73728 * ((i + 1) / 16) + 25200 * ((i + 2) / 5) + 8400 * ((i + 2) / 6) + 26000 * ((i + 1) / 9) + 4 * cF Ko + 4 * cF Kp → zG g X M k m 509 [some (.ref b), some (.ref (ao (0, 0))), some (.ref (ap (0, 0))), some (.int 1), some (.int (nI (Ko.1 1))), some (.long br), none, some (.int (nI i)), some (.int v), none, none, none, none, none, none, none] [] := by
    intro k m hk hm
    refine ziload C dL_law_509 rfl ?_
    refine zbipush (v := 9) C dL_law_511 (by decide) ?_
    refine zirem C dL_law_513 (by decide) ?_
    rw [show (9 : Int32) = nI 9 from rfl, pk_rem (by omega) (by decide) (by decide)]
    refine zbipush (v := 7) C dL_law_514 (by decide) ?_
    refine zicmp_ne (tgt := 536) C dL_law_516 (by decide) (fun h516 => ?_) (fun h516 => ?_)
    · have hq : ¬ i % 9 = 7 := fun e => h516 (by rw [e]; rfl)
      exact k540 _ _ (by omega) (by omega)
    · have hq : i % 9 = 7 := (nI_eq (by omega) (by decide)).mp h516
      refine zaload_n C dL_law_519 rfl ?_
      refine zaload_n C dL_law_520 rfl ?_
      refine ziload C dL_law_521 rfl ?_
      refine ziload C dL_law_523 rfl ?_
      refine zconst (v := 4) C dL_law_525 (by decide) ?_
      refine zishr C dL_law_526 ?_
      refine zldc C hk_L_140 dL_law_527 ?_
      refine ziand C dL_law_529 ?_
      obtain ⟨qf, K3, K4, e3, e4, hT3, c3, c4, d1, d2, d3⟩ := p_qu _ _ _ _ hT (by omega) h4 h8 _
      refine zcallSN2 C hN (l_quiet _ _ z qf) hy_L_isQuiet hst_L_isQuiet hl_L_153 rfl rfl (by decide) (by decide) (by omega) (by omega) rfl (by exact Nat.le_of_ble_eq_true rfl) dL_law_530 (fun r1 M1 hr => ?_)
      obtain ⟨rfl, ao1, ap1, z1, e1, e2⟩ := hr
      unfold qK at e3 e4
      rw [← e3, ← e4] at z1
      refine zif_eq_f (tgt := 540) C dL_law_533 (by decide) (by decide) ?_
      refine zconst (v := 1) C dL_law_536 (by decide) ?_
      refine zgoto (tgt := 541) C dL_law_537 (by decide) ?_
      refine zistore_n (L1 := [_, _, _, _, _, _, _, _, _, _, _, _, _, _, _, _]) C dL_law_541 rfl (Nat.le_of_ble_eq_true rfl) ?_
      refine ziinc (L1 := [_, _, _, _, _, _, _, _, _, _, _, _, _, _, _, _]) (v := nI (i + 1)) C dL_law_542 rfl (nI_add i 1) rfl ?_
      refine zgoto (tgt := 246) C dL_law_545 (by decide) ?_
      refine zfor [true, true, true, true, true, true, false, true, false, false, false, false, false, false, false, false] rfl ?_
      have hcf3 := (p_ok _ _ _ _ hT3).1.2.2.2.2.2
      have hcf4 := (p_ok _ _ _ _ hT3).2.1.2.2.2.2.2
      refine ih _ _ _ _ _ ⟨n + 2, K3, K4, ao1, ap1, z1, e1, e2, hT3, by rw [d1], by omega, by omega, by omega, ?_, ?_⟩
      · unfold b30; rw [show i + 1 + 1 = i + 2 from rfl]; omega
      · unfold s30; rw [show i + 1 + 1 = i + 2 from rfl]; omega
  have k491 : ∀ k m, k ≤ 2000 + 200 * (i + 1) + 12288 * ((i + 1) / 16) + 4200 * ((i + 2) / 5) + 1400 * ((i + 1) / 6) + 400 * ((i + 1) / 9) + cF Ko + cF Kp → m ≤ 20000 + 12000 * (i + 1) + 73728 * ((i + 1) / 16) + 25200 * ((i + 2) / 5) + 8400 * ((i + 1) / 6) + 26000 * ((i + 1) / 9) + 4 * cF Ko + 4 * cF Kp → zG g X M k m 491 [some (.ref b), some (.ref (ao (0, 0))), some (.ref (ap (0, 0))), some (.int 1), some (.int (nI (Ko.1 1))), some (.long br), none, some (.int (nI i)), some (.int v), none, none, none, none, none, none, none] [] := by
    intro k m hk hm
    refine ziload C dL_law_491 rfl ?_
    refine zbipush (v := 6) C dL_law_493 (by decide) ?_
    refine zirem C dL_law_495 (by decide) ?_
    rw [show (6 : Int32) = nI 6 from rfl, pk_rem (by omega) (by decide) (by decide)]
    refine zconst (v := 4) C dL_law_496 (by decide) ?_
    refine zicmp_ne (tgt := 509) C dL_law_497 (by decide) (fun h497 => ?_) (fun h497 => ?_)
    · have hq : ¬ i % 6 = 4 := fun e => h497 (by rw [e]; rfl)
      exact k509 _ _ (by omega) (by omega)
    · have hq : i % 6 = 4 := (nI_eq (by omega) (by decide)).mp h497
      refine zaload_n C dL_law_500 rfl ?_
      refine ziload C dL_law_501 rfl ?_
      refine zcallSN2 C hN (l_suits z.1 hok rfl hb1 g6) hy_L_areSuits hst_L_areSuits hl_L_149 rfl rfl (by decide) (by decide) (by omega) (by omega) rfl (by exact Nat.le_of_ble_eq_true rfl) dL_law_503 (fun r1 M1 hr => ?_)
      obtain ⟨rfl, rfl⟩ := hr
      refine zif_eq_f (tgt := 540) C dL_law_506 (by decide) (by decide) ?_
      exact k509 _ _ (by omega) (by omega)
  have k474 : ∀ k m, k ≤ 2000 + 200 * (i + 1) + 12288 * ((i + 1) / 16) + 4200 * ((i + 1) / 5) + 1400 * ((i + 1) / 6) + 400 * ((i + 1) / 9) + cF Ko + cF Kp → m ≤ 20000 + 12000 * (i + 1) + 73728 * ((i + 1) / 16) + 25200 * ((i + 1) / 5) + 8400 * ((i + 1) / 6) + 26000 * ((i + 1) / 9) + 4 * cF Ko + 4 * cF Kp → zG g X M k m 474 [some (.ref b), some (.ref (ao (0, 0))), some (.ref (ap (0, 0))), some (.int 1), some (.int (nI (Ko.1 1))), some (.long br), none, some (.int (nI i)), some (.int v), none, none, none, none, none, none, none] [] := by
    intro k m hk hm
    refine ziload C dL_law_474 rfl ?_
    refine zconst (v := 5) C dL_law_476 (by decide) ?_
    refine zirem C dL_law_477 (by decide) ?_
    rw [show (5 : Int32) = nI 5 from rfl, pk_rem (by omega) (by decide) (by decide)]
    refine zconst (v := 3) C dL_law_478 (by decide) ?_
    refine zicmp_ne (tgt := 491) C dL_law_479 (by decide) (fun h479 => ?_) (fun h479 => ?_)
    · have hq : ¬ i % 5 = 3 := fun e => h479 (by rw [e]; rfl)
      exact k491 _ _ (by omega) (by omega)
    · have hq : i % 5 = 3 := (nI_eq (by omega) (by decide)).mp h479
      refine zaload_n C dL_law_482 rfl ?_
      refine zlload C dL_law_483 rfl ?_
      refine zcallSN2 C hN (l_goods z.1 hok br hbr g2 g3 g4 g5) hy_L_areGoods hst_L_areGoods hl_L_145 rfl rfl (by decide) (by decide) (by omega) (by omega) rfl (by exact Nat.le_of_ble_eq_true rfl) dL_law_485 (fun r1 M1 hr => ?_)
      obtain ⟨rfl, rfl⟩ := hr
      refine zif_eq_f (tgt := 540) C dL_law_488 (by decide) (by decide) ?_
      exact k491 _ _ (by omega) (by omega)
  refine ziload_n C dL_law_443 rfl ?_
  refine zif_eq_f (tgt := 540) C dL_law_444 (by decide) (by decide) ?_
  refine ziload C dL_law_447 rfl ?_
  refine zbipush (v := 16) C dL_law_449 (by decide) ?_
  refine zirem C dL_law_451 (by decide) ?_
  rw [show (16 : Int32) = nI 16 from rfl, pk_rem (by omega) (by decide) (by decide)]
  refine zbipush (v := 15) C dL_law_452 (by decide) ?_
  refine zicmp_ne (tgt := 474) C dL_law_454 (by decide) (fun h454 => ?_) (fun h454 => ?_)
  · have hq : ¬ i % 16 = 15 := fun e => h454 (by rw [e]; rfl)
    exact k474 _ _ (by omega) (by omega)
  · have hq : i % 16 = 15 := (nI_eq (by omega) (by decide)).mp h454
    refine zaload_n C dL_law_457 rfl ?_
    refine zaload_n C dL_law_458 rfl ?_
    refine ziload C dL_law_459 rfl ?_
    refine ziload C dL_law_461 rfl ?_
    refine zconst (v := 3) C dL_law_463 (by decide) ?_
    refine zishr C dL_law_464 ?_
    refine zldc C hk_L_140 dL_law_465 ?_
    refine ziand C dL_law_467 ?_
    refine zcallSN2 C hN (l_alike z.1 z.2.1 hok hkp _ _ td1 a1 a2 (a3 (by omega))) hy_L_areAlike hst_L_areAlike hl_L_141 rfl rfl (by decide) (by decide) (by omega) (by omega) rfl (by exact Nat.le_of_ble_eq_true rfl) dL_law_468 (fun r1 M1 hr => ?_)
    obtain ⟨rfl, rfl⟩ := hr
    refine zif_eq_f (tgt := 540) C dL_law_471 (by decide) (by decide) ?_
    exact k474 _ _ (by omega) (by omega)
set_option maxRecDepth 100000 in
set_option maxHeartbeats 4000000 in
theorem lw_305 {g : zGh} {X : zX} (C : zC g X RL cL_law 16 14 564 740299 6880728) (hN : zNc X.1.2.2.2) {b Ls : Nat} {xs : Nat → Int32} (hX : va_X b Ls xs X.1.2.2.2 X.1.2.2.2.heap) (hbl : b < X.1.2.2.2.heap.size) (hbA : ¬ zA g b) (hLs : Ls ≤ 260) {x y : Nat} (T : Nat → Int → zK → zK → Prop) (hP : pk30 T) {i : Nat} (hi : i < 160) (ih : ∀ td br M k m, zI30 T g x y (i + 1) td br M k m → zG g X M k m 246 [some (.ref b), some (.ref x), some (.ref y), some (.int 1), some (.int td), some (.long br), none, some (.int (nI (i + 1))), none, none, none, none, none, none, none, none] []) {n : Nat} {Ko Kp : zK} {ao ap : zg → Nat} {M : zM} {br : Int64} {v : Int32} {k m : Nat} (z : zW2 g Ko Kp ao ap M) (hxo : ao (0, 0) = x) (hyp : ap (0, 0) = y) (hT : T n br.toInt Ko Kp) (h4 : 4 ≤ Ko.1 2) (h8 : 8 ≤ Ko.1 13) (hn : n ≤ 15 + 3 * i) (hk : k ≤ b30 i + cF Ko + cF Kp) (hm : m ≤ s30 i + 4 * cF Ko + 4 * cF Kp) : zG g X M k m 305 [some (.ref b), some (.ref x), some (.ref y), some (.int 1), some (.int (nI (Ko.1 1))), some (.long br), none, some (.int (nI i)), some (.int v), some (.int (aHow v)), none, none, none, none, none, none] [] := by
  have hP0 := hP
  obtain ⟨-, p_ok, p_call, -, -, -, p_al, p_gs, -⟩ := hP
  obtain ⟨hok, hkp, hc1, hb1, hB0, hB1⟩ := p_ok _ _ _ _ hT
  obtain ⟨⟨g1, -⟩, -⟩ := p_gs _ _ _ _ hT
  have hcf1 := hok.2.2.2.2.2
  have hcf2 := hkp.2.2.2.2.2
  obtain ⟨j24, jact, j12, jn12, j24h, jn24⟩ := actT_f v
  have hbnd : b30 i ≤ 380000 ∧ s30 i ≤ 5000000 := by unfold b30 s30; omega
  have hcall := p_call _ _ _ _ hT (by omega) (actT v).1 (actT v).2.1 (actT v).2.2.1 (actT v).2.2.2.1 (actT v).2.2.2.2 j24
  -- from 346 on, with both states
  have k346 : ∀ (Ko1 Kp1 : zK) (ao1 ap1 : zg → Nat) (M1 : zM) (told : Int64) (n1 k m : Nat) (B1 : Int), zW2 g Ko1 Kp1 ao1 ap1 M1 → ao1 (0, 0) = x → ap1 (0, 0) = y → T n1 B1 Ko1 Kp1 → B1 = br.toInt + gdI (actT v).1 (if told = -2100000000 then 0 else (actT v).2.2.1) → ((actT v).1 = 12 → ¬ told = -2100000000 → 0 ≤ told.toInt) → ((actT v).1 = 12 → told = -2100000000 → B1 = br.toInt) → (told = -2100000000 → Ko1.1 1 = Ko.1 1) → (¬ (actT v).1 = 24 → Ko1.1 1 = Ko.1 1) → ((actT v).1 = 24 → ¬ told = -2100000000 → 1 ≤ Ko1.1 1 ∧ told = (nI (Ko1.1 1)).toInt64) → 4 ≤ Ko1.1 2 → 8 ≤ Ko1.1 13 → n1 ≤ 16 + 3 * i → k ≤ b30 i + 200 + cF Ko1 + cF Kp1 → m ≤ s30 i + 12000 + 4 * cF Ko1 + 4 * cF Kp1 → zG g X M1 k m 346 [some (.ref b), some (.ref x), some (.ref y), some (.int 1), some (.int (nI (Ko.1 1))), some (.long br), none, some (.int (nI i)), some (.int v), some (.int (aHow v)), some (.long (allK Ko (Ko.1 13))), none, some (.long told), none, none, none] [] := by
    intro Ko1 Kp1 ao1 ap1 M1 told n1 k m B1 z hxo hyp hT1 hB h12a h12b htd0 htd1 htd24 h4 h8 hn hk hm
    obtain ⟨hok1, hkp1, -, hb11, hB10, hB11⟩ := p_ok _ _ _ _ hT1
    obtain ⟨⟨g11, -⟩, -⟩ := p_gs _ _ _ _ hT1
    have hcf3 := hok1.2.2.2.2.2
    have hcf4 := hkp1.2.2.2.2.2
    -- from 411 on
    have k411 : ∀ br1 : Int64, br1.toInt = B1 → zG g X M1 k m 411 [some (.ref b), some (.ref x), some (.ref y), some (.int 1), some (.int (nI (Ko1.1 1))), some (.long br1), none, some (.int (nI i)), some (.int v), some (.int (aHow v)), some (.long (allK Ko (Ko.1 13))), none, some (.long told), none, some (.long (allK Ko1 (Ko1.1 13))), none] [] := by
      intro br1 hbr1
      have k437 : zG g X M1 k m 437 [some (.ref b), some (.ref x), some (.ref y), some (.int 1), some (.int (nI (Ko1.1 1))), some (.long br1), none, some (.int (nI i)), some (.int v), some (.int (aHow v)), some (.long (allK Ko (Ko.1 13))), none, some (.long told), none, some (.long (allK Ko1 (Ko1.1 13))), none] [] := by
        refine zconst (v := 1) C dL_law_437 (by decide) ?_
        refine zgoto (tgt := 442) C dL_law_438 (by decide) ?_
        refine zistore_n (L1 := [_, _, _, _, _, _, _, _, _, _, _, _, _, _, _, _]) C dL_law_442 rfl (Nat.le_of_ble_eq_true rfl) ?_
        refine zfor [true, true, true, true, true, true, false, true, true, false, false, false, false, false, false, false] rfl ?_
        exact lw_443 C hN hX hbl hbA hLs T hP0 hi ih z hxo hyp (by rw [hbr1]; exact hT1) h4 h8 hn hk hm
      have hsame : ¬ (actT v).1 = 12 → allK Ko1 (Ko1.1 13) = allK Ko (Ko.1 13) := fun hne => i64_ext (by rw [g11, hB, g1, gdI, if_neg hne, Int.add_zero])
      refine ziload_n C dL_law_411 rfl ?_
      refine zif_eq_f (tgt := 441) C dL_law_412 (by decide) (by decide) ?_
      refine ziload C dL_law_415 rfl ?_
      refine zbipush (v := 29) C dL_law_417 (by decide) ?_
      refine zicmp_le (tgt := 429) C dL_law_419 (by decide) (fun h419 => ?_) (fun h419 => ?_)
      · have hne : ¬ (actT v).1 = 12 := fun e => absurd (Int32.le_iff_toInt_le.mp h419) (Int.not_le.mpr (Int32.lt_iff_toInt_lt.mp (j12 e).1))
        refine zlload C dL_law_429 rfl ?_
        refine zlload C dL_law_431 rfl ?_
        refine zlcmp C dL_law_433 ?_
        rw [show lg_cmp (allK Ko1 (Ko1.1 13)) (allK Ko (Ko.1 13)) = 0 from by rw [hsame hne]; exact lcmp_self _]
        refine zif_ne_f (tgt := 441) C dL_law_434 (by decide) (by decide) ?_
        exact k437
      · refine ziload C dL_law_422 rfl ?_
        refine zbipush (v := 38) C dL_law_424 (by decide) ?_
        refine zicmp_lt (tgt := 437) C dL_law_426 (by decide) (fun h426 => ?_) (fun h426 => ?_)
        · exact k437
        · have hne : ¬ (actT v).1 = 12 := fun e => h426 (j12 e).2
          refine zlload C dL_law_429 rfl ?_
          refine zlload C dL_law_431 rfl ?_
          refine zlcmp C dL_law_433 ?_
          rw [show lg_cmp (allK Ko1 (Ko1.1 13)) (allK Ko (Ko.1 13)) = 0 from by rw [hsame hne]; exact lcmp_self _]
          refine zif_ne_f (tgt := 441) C dL_law_434 (by decide) (by decide) ?_
          exact k437
    have k408 : ∀ wv : Int64, (br + wv).toInt = B1 → zG g X M1 k m 408 [some (.ref b), some (.ref x), some (.ref y), some (.int 1), some (.int (nI (Ko1.1 1))), some (.long br), none, some (.int (nI i)), some (.int v), some (.int (aHow v)), some (.long (allK Ko (Ko.1 13))), none, some (.long told), none, some (.long (allK Ko1 (Ko1.1 13))), none] [.long wv, .long br] := by
      intro wv hwv
      refine zladd C dL_law_408 ?_
      refine zlstore (L1 := [_, _, _, _, _, _, _, _, _, _, _, _, _, _, _, _]) C dL_law_409 rfl (Nat.le_of_ble_eq_true rfl) ?_
      exact k411 _ hwv
    have hzero : (¬ (actT v).1 = 12 ∨ told = -2100000000) → (br + 0).toInt = B1 := fun h => by
      rw [Int64.add_zero]
      by_cases e : (actT v).1 = 12
      · exact (h12b e (h.resolve_left (fun h => h e))).symm
      · rw [hB, gdI, if_neg e, Int.add_zero]
    have q357 : told ≤ 0 → nI (Ko.1 1) = nI (Ko1.1 1) := fun h357 => by
      by_cases hc : told = -2100000000
      · rw [htd0 hc]
      · by_cases e24 : (actT v).1 = 24
        · obtain ⟨q1, q2⟩ := htd24 e24 hc
          have q3 := Int64.le_iff_toInt_le.mp h357
          rw [q2, nI64i (by omega)] at q3
          have q4 : (0 : Int64).toInt = 0 := rfl
          omega
        · rw [htd1 e24]
    have q358 : ¬ aHow v ≤ 59 → ¬ told ≤ 0 → told.toInt32 = nI (Ko1.1 1) := fun h350 h357 => by
      have e24 : (actT v).1 = 24 := Classical.byContradiction fun hne => h350 (jn24 hne)
      have hc : ¬ told = -2100000000 := fun hc => h357 (by rw [hc]; decide)
      obtain ⟨q1, q2⟩ := htd24 e24 hc
      rw [q2, Int32.toInt32_toInt64]
    have hdiff : (br + (allK Ko1 (Ko1.1 13) - allK Ko (Ko.1 13))).toInt = B1 := by
      have e1 : (allK Ko1 (Ko1.1 13) - allK Ko (Ko.1 13)).toInt = B1 - br.toInt := by
        rw [Int64.toInt_sub, g11, g1]
        apply Int.bmod_eq_of_le <;> omega
      rw [Int64.toInt_add, e1]
      have : br.toInt + (B1 - br.toInt) = B1 := by omega
      rw [this]
      apply Int.bmod_eq_of_le <;> omega
    refine zjn 368 (fun r => r = nI (Ko1.1 1)) (fun J346_1 => ?_) (fun x346 hx346 => ?_)
    · refine ziload C dL_law_346 rfl ?_
      refine zbipush (v := 59) C dL_law_348 (by decide) ?_
      refine zicmp_le (tgt := 366) C dL_law_350 (by decide) (fun h350 => ?_) (fun h350 => ?_)
      · refine ziload C dL_law_366 rfl ?_
        exact J346_1 _ (by rw [htd1 (fun e => j24h e h350)])
      · refine zlload C dL_law_353 rfl ?_
        refine zlconst (v := 0) C dL_law_355 rfl ?_
        refine zlcmp C dL_law_356 ?_
        refine zif_le (tgt := 366) C dL_law_357 (by decide) (fun h357 => ?_) (fun h357 => ?_)
        · replace h357 := (lg_cmp_le _ _).mp h357
          refine ziload C dL_law_366 rfl ?_
          exact J346_1 _ (q357 h357)
        · replace h357 := mt (lg_cmp_le _ _).mpr h357
          refine zlload C dL_law_360 rfl ?_
          refine zl2i C dL_law_362 ?_
          refine zgoto (tgt := 368) C dL_law_363 (by decide) ?_
          exact J346_1 _ (q358 h350 h357)
    · subst hx346
      refine zistore (L1 := [_, _, _, _, _, _, _, _, _, _, _, _, _, _, _, _]) C dL_law_368 rfl (Nat.le_of_ble_eq_true rfl) ?_
      refine zaload_n C dL_law_370 rfl ?_
      rw [← hxo]
      refine zcallV C (k_all z.1 hok1.1.1.2.2.2.2.1) hy_X7_all hv_X7_all hl_L_126 z.1.main rfl rfl rfl rfl (by decide) (by decide) (by omega) (by omega) rfl (by exact Nat.le_of_ble_eq_true rfl) dL_law_371 (fun va M2 hv => ?_)
      obtain ⟨rfl, rfl⟩ := hv
      rw [hxo]
      refine zlstore (L1 := [_, _, _, _, _, _, _, _, _, _, _, _, _, _, _, _]) C dL_law_374 rfl (Nat.le_of_ble_eq_true rfl) ?_
      refine zlload C dL_law_376 rfl ?_
      refine ziload C dL_law_378 rfl ?_
      refine zbipush (v := 29) C dL_law_380 (by decide) ?_
      refine zicmp_le (tgt := 407) C dL_law_382 (by decide) (fun h382 => ?_) (fun h382 => ?_)
      · have hne : ¬ (actT v).1 = 12 := fun e => absurd (Int32.le_iff_toInt_le.mp h382) (Int.not_le.mpr (Int32.lt_iff_toInt_lt.mp (j12 e).1))
        refine zlconst (v := 0) C dL_law_407 rfl ?_
        exact k408 _ (hzero (Or.inl hne))
      · refine ziload C dL_law_385 rfl ?_
        refine zbipush (v := 38) C dL_law_387 (by decide) ?_
        refine zicmp_ge (tgt := 407) C dL_law_389 (by decide) (fun h389 => ?_) (fun h389 => ?_)
        · have hne : ¬ (actT v).1 = 12 := fun e => absurd (Int32.le_iff_toInt_le.mp h389) (Int.not_le.mpr (Int32.lt_iff_toInt_lt.mp (j12 e).2))
          refine zlconst (v := 0) C dL_law_407 rfl ?_
          exact k408 _ (hzero (Or.inl hne))
        · refine zlload C dL_law_392 rfl ?_
          refine zlconst (v := 0) C dL_law_394 rfl ?_
          refine zlcmp C dL_law_395 ?_
          refine zif_lt (tgt := 407) C dL_law_396 (by decide) (fun h396 => ?_) (fun h396 => ?_)
          · replace h396 := (lg_cmp_lt _ _).mp h396
            refine zlconst (v := 0) C dL_law_407 rfl ?_
            exact k408 _ (hzero (Or.inr (Classical.byContradiction fun hc => by have e12 : (actT v).1 = 12 := Classical.byContradiction fun hne => jn12 hne ⟨h382, h389⟩; have q1 := h12a e12 hc; have q2 := Int64.lt_iff_toInt_lt.mp h396; have q3 : (0 : Int64).toInt = 0 := rfl; omega)))
          · replace h396 := mt (lg_cmp_lt _ _).mpr h396
            refine zlload C dL_law_399 rfl ?_
            refine zlload C dL_law_401 rfl ?_
            refine zlsub C dL_law_403 ?_
            refine zgoto (tgt := 408) C dL_law_404 (by decide) ?_
            exact k408 _ hdiff
  have hact : ∀ q, q = dR Ko (actT v).1 (actT v).2.1 (actT v).2.2.1 (actT v).2.2.2.1 (actT v).2.2.2.2 → True := fun _ _ => trivial
  rw [← hxo]
  refine zaload_n C dL_law_305 rfl ?_
  refine zcallV C (k_all z.1 hok.1.1.2.2.2.2.1) hy_X7_all hv_X7_all hl_L_126 z.1.main rfl rfl rfl rfl (by decide) (by decide) (by omega) (by omega) rfl (by exact Nat.le_of_ble_eq_true rfl) dL_law_306 (fun va M2 hv => ?_)
  obtain ⟨rfl, rfl⟩ := hv
  by_cases hx : dX Ko (actT v).1 (actT v).2.1 (actT v).2.2.1 (actT v).2.2.2.1 (actT v).2.2.2.2 = 0
  · obtain ⟨x1, x2, hT1, f1, f2, q24, qn24, q2, q13, q12, qans⟩ := hcall.1 hx
    have hokn := p_ok _ _ _ _ hT1
    have cn1 := hokn.1.2.2.2.2.2
    have cn2 := hokn.2.1.2.2.2.2.2
    obtain ⟨u1, u2⟩ := dcC_le (b := (actT v).2.2.1) (c := (actT v).2.2.2.1) (d := (actT v).2.2.2.2) (K := Ko) (j := (actT v).1) (a := (actT v).2.1) (by rw [dS_of hx]; exact f1) j24
    obtain ⟨w1, w2⟩ := dcC_le (b := (actT v).2.2.1) (c := (actT v).2.2.2.1) (d := (actT v).2.2.2.2) (K := Kp) (j := (actT v).1) (a := (actT v).2.1) (by rw [dS_of x1]; exact f2) j24
    rw [dS_of hx] at u1 u2
    rw [dS_of x1] at w1 w2
    have hans := qans jact
    refine zlstore (L1 := [_, _, _, _, _, _, _, _, _, _, _, _, _, _, _, _]) C dL_law_309 rfl (Nat.le_of_ble_eq_true rfl) ?_
    refine zaload_n C dL_law_311 rfl ?_
    refine ziload C dL_law_312 rfl ?_
    refine zcallSN2 C hN (l_act v z hok (Nat.le_refl _) (Nat.le_refl _)) hy_L_act hst_L_act hl_L_136 rfl rfl (by decide) (by decide) (by omega) (by omega) rfl (by exact Nat.le_of_ble_eq_true rfl) dL_law_314 (fun r1 M1 hr => ?_)
    obtain ⟨rfl, ao1, z, e1⟩ := hr
    rw [dR_of hx]
    rw [dS_of hx] at z
    rw [← e1]
    refine zlstore (L1 := [_, _, _, _, _, _, _, _, _, _, _, _, _, _, _, _]) C dL_law_317 rfl (Nat.le_of_ble_eq_true rfl) ?_
    refine zlload C dL_law_319 rfl ?_
    refine zldc2 C hk_L_69 dL_law_321 ?_
    refine zlcmp C dL_law_324 ?_
    refine zif_eq_f (tgt := 340) C dL_law_325 (by decide) (fun hh => hans ((lg_cmp_eq _ _).mp hh)) ?_
    rw [← hyp]
    refine zaload_n C dL_law_328 rfl ?_
    refine ziload C dL_law_329 rfl ?_
    refine zcallSN2 C hN (l_act v z.sym hkp (Nat.le_refl _) (Nat.le_refl _)) hy_L_act hst_L_act hl_L_136 rfl rfl (by decide) (by decide) (by omega) (by omega) rfl (by exact Nat.le_of_ble_eq_true rfl) dL_law_331 (fun r1 M1 hr => ?_)
    obtain ⟨rfl, ap1, z0, e2⟩ := hr
    rw [dR_of x1]
    rw [dS_of x1] at z0
    have z := z0.sym
    rw [← e2]
    refine zlload C dL_law_334 rfl ?_
    refine zlcmp C dL_law_336 ?_
    rw [x2, lcmp_self]
    refine zif_ne_f (tgt := 344) C dL_law_337 (by decide) (by decide) ?_
    refine zconst (v := 1) C dL_law_340 (by decide) ?_
    refine zgoto (tgt := 345) C dL_law_341 (by decide) ?_
    refine zistore_n (L1 := [_, _, _, _, _, _, _, _, _, _, _, _, _, _, _, _]) C dL_law_345 rfl (Nat.le_of_ble_eq_true rfl) ?_
    rw [show ap1 (0, 0) = y from e2.trans hyp, show ao1 (0, 0) = x from e1.trans hxo]
    refine k346 _ _ _ _ _ _ (n + 1) _ _ _ z (e1.trans hxo) (e2.trans hyp) hT1 ?_ ?_ ?_ ?_ ?_ ?_ (by omega) (by omega) (by omega) (by omega) (by omega)
    · rw [if_neg (by rw [← x2]; exact hans)]
    · intro e _; rw [← x2]; exact q12 e
    · intro _ e; exact absurd (by rw [x2]; exact e) hans
    · intro e; exact absurd (by rw [x2]; exact e) hans
    · exact qn24
    · intro e _
      obtain ⟨t, t1, t2, t3, t4⟩ := q24 e
      rw [t4, ← x2]
      exact ⟨by omega, t3⟩
  · have x1 := hcall.2 hx
    obtain ⟨u1, u2⟩ := dcC_le (b := (actT v).2.2.1) (c := (actT v).2.2.2.1) (d := (actT v).2.2.2.2) (K := Ko) (j := (actT v).1) (a := (actT v).2.1) (by rw [dS_no hx]; exact Nat.le_refl _) j24
    rw [dS_no hx] at u1 u2
    refine zlstore (L1 := [_, _, _, _, _, _, _, _, _, _, _, _, _, _, _, _]) C dL_law_309 rfl (Nat.le_of_ble_eq_true rfl) ?_
    refine zaload_n C dL_law_311 rfl ?_
    refine ziload C dL_law_312 rfl ?_
    refine zcallSN2 C hN (l_act v z hok (Nat.le_refl _) (Nat.le_refl _)) hy_L_act hst_L_act hl_L_136 rfl rfl (by decide) (by decide) (by omega) (by omega) rfl (by exact Nat.le_of_ble_eq_true rfl) dL_law_314 (fun r1 M1 hr => ?_)
    obtain ⟨rfl, ao1, z, e1⟩ := hr
    rw [dR_no hx]
    rw [dS_no hx] at z
    rw [← e1]
    refine zlstore (L1 := [_, _, _, _, _, _, _, _, _, _, _, _, _, _, _, _]) C dL_law_317 rfl (Nat.le_of_ble_eq_true rfl) ?_
    refine zlload C dL_law_319 rfl ?_
    refine zldc2 C hk_L_69 dL_law_321 ?_
    refine zlcmp C dL_law_324 ?_
    rw [lcmp_self]
    refine zif_eq_t (tgt := 340) C dL_law_325 (by decide) (by decide) ?_
    refine zconst (v := 1) C dL_law_340 (by decide) ?_
    refine zgoto (tgt := 345) C dL_law_341 (by decide) ?_
    refine zistore_n (L1 := [_, _, _, _, _, _, _, _, _, _, _, _, _, _, _, _]) C dL_law_345 rfl (Nat.le_of_ble_eq_true rfl) ?_
    rw [show ao1 (0, 0) = x from e1.trans hxo]
    refine k346 Ko Kp _ _ _ _ n _ _ _ z (e1.trans hxo) hyp hT ?_ ?_ ?_ ?_ ?_ ?_ h4 h8 (by omega) (by omega) (by omega)
    · rw [if_pos rfl]; unfold gdI; split
      · exact (Int.add_zero _).symm
      · exact (Int.add_zero _).symm
    · intro _ e; exact absurd rfl e
    · intro _ _; rfl
    · intro _; rfl
    · intro _; rfl
    · intro _ e; exact absurd rfl e
