/-! the law: the main loop, the set-up, the entry -/
set_option maxRecDepth 100000 in
set_option maxHeartbeats 4000000 in
theorem lw_main {g : zGh} {X : zX} (C : zC g X RL cL_law 16 14 564 740299 6880728) (hN : zNc X.1.2.2.2) {b Ls : Nat} {xs : Nat → Int32} (hX : va_X b Ls xs X.1.2.2.2 X.1.2.2.2.heap) (hbl : b < X.1.2.2.2.heap.size) (hbA : ¬ zA g b) (hLs : Ls ≤ 260) {x y : Nat} (T : Nat → Int → zK → zK → Prop) (hP : pk30 T) (kend : ∀ (M : zM) (k m : Nat) (L : List (Option Value)), k ≤ 740299 → m ≤ 6880728 → zG g X M k m 587 L [.int 1]) : ∀ r i, i + r = 160 → ∀ td br M k m, zI30 T g x y i td br M k m → zG g X M k m 246 [some (.ref b), some (.ref x), some (.ref y), some (.int 1), some (.int td), some (.long br), none, some (.int (nI i)), none, none, none, none, none, none, none, none] [] := by
  intro r
  induction r with
  | zero =>
    intro i hi td br M k m hI
    obtain rfl : i = 160 := by omega
    obtain ⟨n, Ko, Kp, ao, ap, z, hxo, hyp, hT, rfl, h4, h8, hn, hk, hm⟩ := hI
    have hk : k ≤ 334480 + cF Ko + cF Kp := hk
    have hm : m ≤ 4144080 + 4 * cF Ko + 4 * cF Kp := hm
    obtain ⟨-, p_ok, -, -, -, -, p_al, p_gs, -⟩ := hP
    obtain ⟨hok, hkp, hc1, hb1, -, -⟩ := p_ok _ _ _ _ hT
    obtain ⟨a1, a2, a3⟩ := p_al _ _ _ _ hT
    obtain ⟨-, g1, g2, g3, g4, g5, g6⟩ := p_gs _ _ _ _ hT
    have hcf1 := hok.2.2.2.2.2
    have hcf2 := hkp.2.2.2.2.2
    have td1 : ¬ nI (Ko.1 1) + 1 = 0 := by
      rw [show nI (Ko.1 1) + 1 = nI (Ko.1 1 + 1) from nI_add (Ko.1 1) 1]
      exact fun e => absurd ((nI_eq (by omega) (by decide)).mp e) (Nat.succ_ne_zero _)
    have hbr : allK Kp (Kp.1 13) = br := i64_ext g1
    rw [← hxo, ← hyp]
    refine ziload C dL_law_246 rfl ?_
    refine zsipush (v := 160) C dL_law_248 (by decide) ?_
    refine zicmp_ge (tgt := 548) C dL_law_251 (by decide) (fun h251 => ?_) (fun h251 => by first | exact absurd (show (160 : Int32) ≤ nI 160 from by decide) h251 | exact absurd h251 (show (160 : Int32) ≤ nI 160 from by decide))
    refine ziload_n C dL_law_548 rfl ?_
    refine zif_eq_f (tgt := 586) C dL_law_549 (by decide) (by decide) ?_
    refine zaload_n C dL_law_552 rfl ?_
    refine zaload_n C dL_law_553 rfl ?_
    refine ziload C dL_law_554 rfl ?_
    refine zbipush (v := 7) C dL_law_556 (by decide) ?_
    refine zcallSN2 C hN (l_alike z.1 z.2.1 hok hkp _ _ td1 a1 a2 (a3 (by omega))) hy_L_areAlike hst_L_areAlike hl_L_141 rfl rfl (by decide) (by decide) (by omega) (by omega) rfl (by exact Nat.le_of_ble_eq_true rfl) dL_law_558 (fun r1 M1 hr => ?_)
    obtain ⟨rfl, rfl⟩ := hr
    refine zif_eq_f (tgt := 586) C dL_law_561 (by decide) (by decide) ?_
    refine zaload_n C dL_law_564 rfl ?_
    refine zlload C dL_law_565 rfl ?_
    refine zcallSN2 C hN (l_goods z.2.1 hkp br hbr g2 g3 g4 g5) hy_L_areGoods hst_L_areGoods hl_L_145 rfl rfl (by decide) (by decide) (by omega) (by omega) rfl (by exact Nat.le_of_ble_eq_true rfl) dL_law_567 (fun r1 M1 hr => ?_)
    obtain ⟨rfl, rfl⟩ := hr
    refine zif_eq_f (tgt := 586) C dL_law_570 (by decide) (by decide) ?_
    refine zaload_n C dL_law_573 rfl ?_
    refine ziload C dL_law_574 rfl ?_
    refine zcallSN2 C hN (l_suits z.2.1 hkp (hc1 1 (Or.inl rfl)) (by rw [← hc1 1 (Or.inl rfl)]; exact hb1) g6) hy_L_areSuits hst_L_areSuits hl_L_149 rfl rfl (by decide) (by decide) (by omega) (by omega) rfl (by exact Nat.le_of_ble_eq_true rfl) dL_law_576 (fun r1 M1 hr => ?_)
    obtain ⟨rfl, rfl⟩ := hr
    refine zif_eq_f (tgt := 586) C dL_law_579 (by decide) (by decide) ?_
    refine zconst (v := 1) C dL_law_582 (by decide) ?_
    refine zgoto (tgt := 587) C dL_law_583 (by decide) ?_
    exact kend _ _ _ _ (by omega) (by omega)
  | succ r ih =>
    intro i hi td br M k m hI
    have hi160 : i < 160 := by omega
    have ih : ∀ td br M k m, zI30 T g x y (i + 1) td br M k m → zG g X M k m 246 [some (.ref b), some (.ref x), some (.ref y), some (.int 1), some (.int td), some (.long br), none, some (.int (nI (i + 1))), none, none, none, none, none, none, none, none] [] := fun td br M k m h => ih (i + 1) (by omega) td br M k m h
    obtain ⟨n, Ko, Kp, ao, ap, z, hxo, hyp, hT, rfl, h4, h8, hn, hk, hm⟩ := hI
    have hok := (hP.2.1 _ _ _ _ hT).1
    have hkp := (hP.2.1 _ _ _ _ hT).2.1
    have hcf1 := hok.2.2.2.2.2
    have hcf2 := hkp.2.2.2.2.2
    have hbnd : b30 i ≤ 380000 ∧ s30 i ≤ 5000000 := by unfold b30 s30; omega
    have h160 : ¬ (160 : Int32) ≤ nI i := nge_i (n := 160) hi160 (by decide)
    refine ziload C dL_law_246 rfl ?_
    refine zsipush (v := 160) C dL_law_248 (by decide) ?_
    refine zicmp_ge (tgt := 548) C dL_law_251 (by decide) (fun h251 => by first | exact absurd h251 h160 | exact absurd h160 h251) (fun h251 => ?_)
    refine ziload_n C dL_law_254 rfl ?_
    refine zif_eq_f (tgt := 548) C dL_law_255 (by decide) (by decide) ?_
    refine zaload_n C dL_law_258 rfl ?_
    refine zconst (v := 1) C dL_law_259 (by decide) ?_
    refine ziload C dL_law_260 rfl ?_
    refine zbipush (v := 60) C dL_law_262 (by decide) ?_
    refine zirem C dL_law_264 (by decide) ?_
    rw [show (60 : Int32) = nI 60 from rfl, pk_rem (by omega) (by decide) (by decide)]
    refine ziadd C dL_law_265 ?_
    rw [show (1 : Int32) + nI (i % 60) = nI (1 + i % 60) from nI_add 1 (i % 60)]
    refine zcallSX2 C hX hbl hbA (l_cell (by omega) (by omega)) hy_L_cell hst_L_cell hl_L_132 rfl rfl (by decide) (by decide) (by omega) (by omega) rfl (by exact Nat.le_of_ble_eq_true rfl) dL_law_266 (fun w1 M1 hr => ?_)
    obtain rfl := hr
    refine zsipush (v := 2099) C dL_law_269 (by decide) ?_
    refine ziload C dL_law_272 rfl ?_
    refine zbipush (v := 60) C dL_law_274 (by decide) ?_
    refine zidiv C dL_law_276 (by decide) ?_
    refine zimul C dL_law_277 ?_
    refine ziadd C dL_law_278 ?_
    generalize hv8 : w1 + _ = v8
    clear hv8
    refine zistore (L1 := [_, _, _, _, _, _, _, _, _, _, _, _, _, _, _, _]) C dL_law_279 rfl (Nat.le_of_ble_eq_true rfl) ?_
    refine ziload C dL_law_281 rfl ?_
    refine zbipush (v := 70) C dL_law_283 (by decide) ?_
    refine zcallS C (l_low _ _ (by decide)) hy_L_low hst_L_low hl_L_115 rfl rfl (by decide) (by decide) (by omega) (by omega) rfl (by exact Nat.le_of_ble_eq_true rfl) dL_law_285 (fun v285 M hp285 => ?_)
    obtain ⟨rfl, rfl⟩ := hp285
    rw [show lowI v8 70 = aHow v8 from rfl]
    refine zistore (L1 := [_, _, _, _, _, _, _, _, _, _, _, _, _, _, _, _]) C dL_law_288 rfl (Nat.le_of_ble_eq_true rfl) ?_
    refine ziload C dL_law_290 rfl ?_
    refine zbipush (v := 60) C dL_law_292 (by decide) ?_
    refine zicmp_lt (tgt := 305) C dL_law_294 (by decide) (fun h294 => ?_) (fun h294 => ?_)
    · exact lw_305 C hN hX hbl hbA hLs T hP hi160 ih z hxo hyp hT h4 h8 hn (by omega) (by omega)
    · refine ziload C dL_law_297 rfl ?_
      refine zsipush (v := 25000) C dL_law_299 (by decide) ?_
      refine zicmp_ge (tgt := 443) C dL_law_302 (by decide) (fun h302 => ?_) (fun h302 => ?_)
      · refine zfor [true, true, true, true, true, true, false, true, true, false, false, false, false, false, false, false] rfl ?_
        exact lw_443 C hN hX hbl hbA hLs T hP hi160 ih z hxo hyp hT h4 h8 (by omega) (by omega) (by omega)
      · exact lw_305 C hN hX hbl hbA hLs T hP hi160 ih z hxo hyp hT h4 h8 hn (by omega) (by omega)
theorem psK1 (K : zK) : ∀ d, (psK K d).1 1 = K.1 1 + d ∧ (psK K d).1 2 = K.1 2
  | 0 => ⟨rfl, rfl⟩
  | d + 1 => by
    rw [psK, dyK, tfdK1]
    obtain ⟨a1, a2⟩ := psK1 K d
    refine ⟨?_, a2⟩
    show (psK K d).1 1 + 1 = K.1 1 + (d + 1)
    omega
def zSt (T : Nat → Int → zK → zK → Prop) (g : zGh) (x y n c p t : Nat) (M : zM) (k m : Nat) : Prop :=
  ∃ Ko Kp ao ap, zW2 g Ko Kp ao ap M ∧ ao (0, 0) = x ∧ ap (0, 0) = y ∧ T n 0 Ko Kp ∧ Ko.1 2 = c ∧ Ko.1 13 = p ∧ Ko.1 1 = t ∧ k ≤ 100 + 100 * n + cF Ko + cF Kp ∧ m ≤ 300 + 500 * n + 4 * cF Ko + 4 * cF Kp
set_option maxRecDepth 100000 in
set_option maxHeartbeats 4000000 in
theorem lw_A {g : zGh} {X : zX} (C : zC g X RL cL_law 16 14 564 740299 6880728) (hN : zNc X.1.2.2.2) {b Ls : Nat} {xs : Nat → Int32} (hX : va_X b Ls xs X.1.2.2.2 X.1.2.2.2.heap) (hbl : b < X.1.2.2.2.heap.size) (hbA : ¬ zA g b) (hLs : Ls ≤ 260) {x y : Nat} (T : Nat → Int → zK → zK → Prop) (hP : pk30 T) (kk : ∀ M k m, zSt T g x y 4 4 0 0 M k m → zG g X M k m 61 [some (.ref b), some (.ref x), some (.ref y), some (.int 1), some (.int 4), none, none, none, none, none, none, none, none, none, none, none] []) : ∀ r i, i + r = 4 → ∀ M k m, zSt T g x y i i 0 0 M k m → zG g X M k m 21 [some (.ref b), some (.ref x), some (.ref y), some (.int 1), some (.int (nI i)), none, none, none, none, none, none, none, none, none, none, none] [] := by
  intro r
  induction r with
  | zero =>
    intro i hi M k m hI
    obtain rfl : i = 4 := by omega
    refine ziload C dL_law_21 rfl ?_
    refine zconst (v := 4) C dL_law_23 (by decide) ?_
    refine zicmp_ge (tgt := 61) C dL_law_24 (by decide) (fun h24 => ?_) (fun h24 => by first | exact absurd (show (4 : Int32) ≤ nI 4 from by decide) h24 | exact absurd h24 (show (4 : Int32) ≤ nI 4 from by decide))
    exact kk _ _ _ hI
  | succ r ih =>
    intro i hi M k m hI
    have hi4 : ¬ (4 : Int32) ≤ nI i := nge_i (n := 4) (by omega) (by decide)
    obtain ⟨Ko, Kp, ao, ap, z, hxo, hyp, hT, hc2, hc13, hc1, hk, hm⟩ := hI
    obtain ⟨hok, hkp, hcc, -, -, -⟩ := hP.2.1 _ _ _ _ hT
    have hcf1 := hok.2.2.2.2.2
    have hcf2 := hkp.2.2.2.2.2
    obtain ⟨x1, x2, hT1, f1, f2⟩ := hP.2.2.2.1 _ _ _ _ hT (by omega) (by omega)
    have hokn := hP.2.1 _ _ _ _ hT1
    have cn1 := hokn.1.2.2.2.2.2
    have cn2 := hokn.2.1.2.2.2.2.2
    have hcp : Kp.1 2 = i := by rw [← hcc 2 (by decide)]; exact hc2
    rw [← hxo, ← hyp]
    refine ziload C dL_law_21 rfl ?_
    refine zconst (v := 4) C dL_law_23 (by decide) ?_
    refine zicmp_ge (tgt := 61) C dL_law_24 (by decide) (fun h24 => by first | exact absurd h24 hi4 | exact absurd hi4 h24) (fun h24 => ?_)
    refine ziload_n C dL_law_27 rfl ?_
    refine zif_eq_f (tgt := 61) C dL_law_28 (by decide) (by decide) ?_
    refine zaload_n C dL_law_31 rfl ?_
    refine zcallVX C (K_community z.into hok.1 hok.2.2.1) hy_X7_community hv_X7_community hl_L_75 z.into.main rfl rfl rfl rfl (by decide) (by decide) (by omega) (by omega) rfl (by exact Nat.le_of_ble_eq_true rfl) dL_law_32 (fun E M1 hx => absurd x1 (exI hx.1)) (fun v1 M1 hv => ?_)
    obtain ⟨-, rfl, ad1, p1, p2⟩ := hv
    obtain ⟨z, e1⟩ := z.back p1 p2
    rw [← e1, hc2]
    refine ziload C dL_law_35 rfl ?_
    refine zicmp_ne (tgt := 53) C dL_law_37 (by decide) (fun h37 => by first | exact absurd h37 rfl | exact absurd rfl h37) (fun h37 => ?_)
    refine zaload_n C dL_law_40 rfl ?_
    refine zcallVX C (K_community z.sym.into hkp.1 hkp.2.2.1) hy_X7_community hv_X7_community hl_L_75 z.sym.into.main rfl rfl rfl rfl (by decide) (by decide) (by omega) (by omega) rfl (by exact Nat.le_of_ble_eq_true rfl) dL_law_41 (fun E M1 hx => absurd x2 (exI hx.1)) (fun v1 M1 hv => ?_)
    obtain ⟨-, rfl, ad2, p3, p4⟩ := hv
    obtain ⟨z0, e2⟩ := z.sym.back p3 p4
    have z := z0.sym
    rw [← e2, hcp]
    refine ziload C dL_law_44 rfl ?_
    refine zicmp_ne (tgt := 53) C dL_law_46 (by decide) (fun h46 => by first | exact absurd h46 rfl | exact absurd rfl h46) (fun h46 => ?_)
    refine zconst (v := 1) C dL_law_49 (by decide) ?_
    refine zgoto (tgt := 54) C dL_law_50 (by decide) ?_
    refine zistore_n (L1 := [_, _, _, _, _, _, _, _, _, _, _, _, _, _, _, _]) C dL_law_54 rfl (Nat.le_of_ble_eq_true rfl) ?_
    refine ziinc (L1 := [_, _, _, _, _, _, _, _, _, _, _, _, _, _, _, _]) (v := nI (i + 1)) C dL_law_55 rfl (nI_add i 1) rfl ?_
    refine zgoto (tgt := 21) C dL_law_58 (by decide) ?_
    rw [show ad2 (0, 0) = y from e2.trans hyp, show ad1 (0, 0) = x from e1.trans hxo]
    refine ih (i + 1) (by omega) _ _ _ ⟨_, _, ad1, ad2, z, e1.trans hxo, e2.trans hyp, hT1, ?_, hc13, hc1, by omega, by omega⟩
    show Ko.1 2 + 1 = i + 1
    rw [hc2]
set_option maxRecDepth 100000 in
set_option maxHeartbeats 4000000 in
theorem lw_B {g : zGh} {X : zX} (C : zC g X RL cL_law 16 14 564 740299 6880728) (hN : zNc X.1.2.2.2) {b Ls : Nat} {xs : Nat → Int32} (hX : va_X b Ls xs X.1.2.2.2 X.1.2.2.2.heap) (hbl : b < X.1.2.2.2.heap.size) (hbA : ¬ zA g b) (hLs : Ls ≤ 260) {x y : Nat} (T : Nat → Int → zK → zK → Prop) (hP : pk30 T) (kk : ∀ M k m, zSt T g x y 12 4 8 0 M k m → zG g X M k m 174 [some (.ref b), some (.ref x), some (.ref y), some (.int 1), some (.int 8), none, none, none, none, none, none, none, none, none, none, none] []) : ∀ r i, i + r = 8 → ∀ M k m, zSt T g x y (4 + i) 4 i 0 M k m → zG g X M k m 64 [some (.ref b), some (.ref x), some (.ref y), some (.int 1), some (.int (nI i)), none, none, none, none, none, none, none, none, none, none, none] [] := by
  intro r
  induction r with
  | zero =>
    intro i hi M k m hI
    obtain rfl : i = 8 := by omega
    refine ziload C dL_law_64 rfl ?_
    refine zbipush (v := 8) C dL_law_66 (by decide) ?_
    refine zicmp_ge (tgt := 174) C dL_law_68 (by decide) (fun h68 => ?_) (fun h68 => by first | exact absurd (show (8 : Int32) ≤ nI 8 from by decide) h68 | exact absurd h68 (show (8 : Int32) ≤ nI 8 from by decide))
    exact kk _ _ _ hI
  | succ r ih =>
    intro i hi M k m hI
    have hi8 : ¬ (8 : Int32) ≤ nI i := nge_i (n := 8) (by omega) (by decide)
    obtain ⟨Ko, Kp, ao, ap, z, hxo, hyp, hT, hc2, hc13, hc1, hk, hm⟩ := hI
    obtain ⟨hok, hkp, hcc, -, -, -⟩ := hP.2.1 _ _ _ _ hT
    have hcf1 := hok.2.2.2.2.2
    have hcf2 := hkp.2.2.2.2.2
    have hcp : Kp.1 13 = i := by rw [← hcc 13 (by decide)]; exact hc13
    refine ziload C dL_law_64 rfl ?_
    refine zbipush (v := 8) C dL_law_66 (by decide) ?_
    refine zicmp_ge (tgt := 174) C dL_law_68 (by decide) (fun h68 => by first | exact absurd h68 hi8 | exact absurd hi8 h68) (fun h68 => ?_)
    refine ziload_n C dL_law_71 rfl ?_
    refine zif_eq_f (tgt := 174) C dL_law_72 (by decide) (by decide) ?_
    refine zjn 108 (fun r => ∃ t, t < 4 ∧ r = nI t) (fun J75_1 => ?_) (fun x75 hx75 => ?_)
    · refine ziload C dL_law_75 rfl ?_
      refine zconst (v := 3) C dL_law_77 (by decide) ?_
      refine zicmp_ge (tgt := 85) C dL_law_78 (by decide) (fun h78 => ?_) (fun h78 => ?_)
      · refine ziload C dL_law_85 rfl ?_
        refine zbipush (v := 6) C dL_law_87 (by decide) ?_
        refine zicmp_ge (tgt := 96) C dL_law_89 (by decide) (fun h89 => ?_) (fun h89 => ?_)
        · refine zaload_n C dL_law_96 rfl ?_
          refine zconst (v := 0) C dL_law_97 (by decide) ?_
          refine zcallSX2 C hX hbl hbA (l_cell (i := 0) (by omega) (by decide)) hy_L_cell hst_L_cell hl_L_132 rfl rfl (by decide) (by decide) (by omega) (by omega) rfl (by exact Nat.le_of_ble_eq_true rfl) dL_law_98 (fun w1 M1 hr => ?_)
          obtain rfl := hr
          refine ziload C dL_law_101 rfl ?_
          refine zishr C dL_law_103 ?_
          refine zconst (v := 4) C dL_law_104 (by decide) ?_
          refine zcallS C (l_low _ _ (by decide)) hy_L_low hst_L_low hl_L_115 rfl rfl (by decide) (by decide) (by omega) (by omega) rfl (by exact Nat.le_of_ble_eq_true rfl) dL_law_105 (fun v105 M hp105 => ?_)
          obtain ⟨rfl, rfl⟩ := hp105
          exact J75_1 _ (low_ex _ (by decide) (by decide))
        · refine zconst (v := 1) C dL_law_92 (by decide) ?_
          refine zgoto (tgt := 108) C dL_law_93 (by decide) ?_
          exact J75_1 _ ⟨1, by decide, rfl⟩
      · refine zconst (v := 0) C dL_law_81 (by decide) ?_
        refine zgoto (tgt := 108) C dL_law_82 (by decide) ?_
        exact J75_1 _ ⟨0, by decide, rfl⟩
    · obtain ⟨t, t4, rfl⟩ := hx75
      obtain ⟨x1, x2, hT1, f1, f2⟩ := hP.2.2.2.2.1 _ _ _ _ hT (by omega) (by omega) (decide (nI i - nI i / 2 * 2 = 1)) t (by omega)
      have hokn := hP.2.1 _ _ _ _ hT1
      have cn1 := hokn.1.2.2.2.2.2
      have cn2 := hokn.2.1.2.2.2.2.2
      rw [← hxo, ← hyp]
      refine zistore (L1 := [_, _, _, _, _, _, _, _, _, _, _, _, _, _, _, _]) C dL_law_108 rfl (Nat.le_of_ble_eq_true rfl) ?_
      refine zaload_n C dL_law_110 rfl ?_
      refine zjn 124 (fun r => r = b2i (decide (nI i - nI i / 2 * 2 = 1))) (fun J111_3 => ?_) (fun x111 hx111 => ?_)
      · refine ziload C dL_law_111 rfl ?_
        refine zconst (v := 2) C dL_law_113 (by decide) ?_
        refine zirem C dL_law_114 (by decide) ?_
        refine zconst (v := 1) C dL_law_115 (by decide) ?_
        refine zicmp_ne (tgt := 123) C dL_law_116 (by decide) (fun h116 => ?_) (fun h116 => ?_)
        · refine zconst (v := 0) C dL_law_123 (by decide) ?_
          exact J111_3 _ (by first | (rw [decide_eq_true h116]; rfl) | (rw [decide_eq_false h116]; rfl))
        · refine zconst (v := 1) C dL_law_119 (by decide) ?_
          refine zgoto (tgt := 124) C dL_law_120 (by decide) ?_
          exact J111_3 _ (by first | (rw [decide_eq_true h116]; rfl) | (rw [decide_eq_false h116]; rfl))
      · subst hx111
        refine zconst (v := -1) C dL_law_124 (by decide) ?_
        refine zconst (v := -1) C dL_law_125 (by decide) ?_
        refine ziload C dL_law_126 rfl ?_
        refine zcallVX C (K_person (decide (nI i - nI i / 2 * 2 = 1)) _ _ _ z.into hok.1 hok.2.2.1) hy_X7_person hv_X7_person hl_L_96 z.into.main rfl rfl rfl rfl (by decide) (by decide) (by omega) (by omega) rfl (by exact Nat.le_of_ble_eq_true rfl) dL_law_128 (fun E M1 hx => absurd x1 (exI hx.1)) (fun v1 M1 hv => ?_)
        obtain ⟨-, rfl, ad1, p1, p2⟩ := hv
        obtain ⟨z, e1⟩ := z.back p1 p2
        rw [← e1, hc13]
        refine ziload C dL_law_131 rfl ?_
        refine zicmp_ne (tgt := 166) C dL_law_133 (by decide) (fun h133 => by first | exact absurd h133 rfl | exact absurd rfl h133) (fun h133 => ?_)
        refine zaload_n C dL_law_136 rfl ?_
        refine zjn 150 (fun r => r = b2i (decide (nI i - nI i / 2 * 2 = 1))) (fun J137_4 => ?_) (fun x137 hx137 => ?_)
        · refine ziload C dL_law_137 rfl ?_
          refine zconst (v := 2) C dL_law_139 (by decide) ?_
          refine zirem C dL_law_140 (by decide) ?_
          refine zconst (v := 1) C dL_law_141 (by decide) ?_
          refine zicmp_ne (tgt := 149) C dL_law_142 (by decide) (fun h142 => ?_) (fun h142 => ?_)
          · refine zconst (v := 0) C dL_law_149 (by decide) ?_
            exact J137_4 _ (by first | (rw [decide_eq_true h142]; rfl) | (rw [decide_eq_false h142]; rfl))
          · refine zconst (v := 1) C dL_law_145 (by decide) ?_
            refine zgoto (tgt := 150) C dL_law_146 (by decide) ?_
            exact J137_4 _ (by first | (rw [decide_eq_true h142]; rfl) | (rw [decide_eq_false h142]; rfl))
        · subst hx137
          refine zconst (v := -1) C dL_law_150 (by decide) ?_
          refine zconst (v := -1) C dL_law_151 (by decide) ?_
          refine ziload C dL_law_152 rfl ?_
          refine zcallVX C (K_person (decide (nI i - nI i / 2 * 2 = 1)) _ _ _ z.sym.into hkp.1 hkp.2.2.1) hy_X7_person hv_X7_person hl_L_96 z.sym.into.main rfl rfl rfl rfl (by decide) (by decide) (by omega) (by omega) rfl (by exact Nat.le_of_ble_eq_true rfl) dL_law_154 (fun E M1 hx => absurd x2 (exI hx.1)) (fun v1 M1 hv => ?_)
          obtain ⟨-, rfl, ad2, p3, p4⟩ := hv
          obtain ⟨z0, e2⟩ := z.sym.back p3 p4
          have z := z0.sym
          rw [← e2, hcp]
          refine ziload C dL_law_157 rfl ?_
          refine zicmp_ne (tgt := 166) C dL_law_159 (by decide) (fun h159 => by first | exact absurd h159 rfl | exact absurd rfl h159) (fun h159 => ?_)
          refine zconst (v := 1) C dL_law_162 (by decide) ?_
          refine zgoto (tgt := 167) C dL_law_163 (by decide) ?_
          refine zistore_n (L1 := [_, _, _, _, _, _, _, _, _, _, _, _, _, _, _, _]) C dL_law_167 rfl (Nat.le_of_ble_eq_true rfl) ?_
          refine ziinc (L1 := [_, _, _, _, _, _, _, _, _, _, _, _, _, _, _, _]) (v := nI (i + 1)) C dL_law_168 rfl (nI_add i 1) rfl ?_
          refine zgoto (tgt := 64) C dL_law_171 (by decide) ?_
          rw [show ad2 (0, 0) = y from e2.trans hyp, show ad1 (0, 0) = x from e1.trans hxo]
          refine zfor [true, true, true, true, true, false, false, false, false, false, false, false, false, false, false, false] rfl ?_
          refine ih (i + 1) (by omega) _ _ _ ⟨_, _, ad1, ad2, z, e1.trans hxo, e2.trans hyp, hT1, hc2, ?_, hc1, by omega, by omega⟩
          show Ko.1 13 + 1 = i + 1
          rw [hc13]
set_option maxRecDepth 100000 in
set_option maxHeartbeats 4000000 in
theorem lw_C {g : zGh} {X : zX} (C : zC g X RL cL_law 16 14 564 740299 6880728) (hN : zNc X.1.2.2.2) {b Ls : Nat} {xs : Nat → Int32} (hX : va_X b Ls xs X.1.2.2.2 X.1.2.2.2.heap) (hbl : b < X.1.2.2.2.heap.size) (hbA : ¬ zA g b) (hLs : Ls ≤ 260) {x y : Nat} (T : Nat → Int → zK → zK → Prop) (hP : pk30 T) (kk : ∀ td br M k m, zI30 T g x y 0 td br M k m → zG g X M k m 246 [some (.ref b), some (.ref x), some (.ref y), some (.int 1), some (.int td), some (.long br), none, some (.int 0), none, none, none, none, none, none, none, none] []) : ∀ M k m, zSt T g x y 12 4 8 0 M k m → zG g X M k m 174 [some (.ref b), some (.ref x), some (.ref y), some (.int 1), some (.int 8), none, none, none, none, none, none, none, none, none, none, none] [] := by
  intro M k m hI
  obtain ⟨Ko, Kp, ao, ap, z, hxo, hyp, hT, hc2, hc13, hc1, hk, hm⟩ := hI
  obtain ⟨hok, hkp, hcc, -, -, -⟩ := hP.2.1 _ _ _ _ hT
  have hcf1 := hok.2.2.2.2.2
  have hcf2 := hkp.2.2.2.2.2
  have t0 : (5000 : Int32) = nI 5000 := rfl
  rw [← hxo, ← hyp]
  refine ziload_n C dL_law_174 rfl ?_
  refine zif_eq_f (tgt := 233) C dL_law_175 (by decide) (by decide) ?_
  refine zaload_n C dL_law_178 rfl ?_
  refine zsipush (v := 2000) C dL_law_179 (by decide) ?_
  obtain ⟨x1, x2, hT1, f1, f2⟩ := hP.2.2.2.2.2.1 _ _ _ _ hT (by omega) 2000 (by decide) (by decide) (by omega)
  have hokn := hP.2.1 _ _ _ _ hT1
  have cn1 := hokn.1.2.2.2.2.2
  have cn2 := hokn.2.1.2.2.2.2.2
  have kp := K_pass (nI 2000) z.into hok.1 hok.2.2.2.1 (Nat.le_refl 1000)
  rw [nI_clamp (show 2000 < 2 ^ 31 by decide), show capF (kch (psK Ko 2000)) (Ko.1 13) = cF (psK Ko 2000) from by rw [cF, psK13], show capF (kch Ko) (Ko.1 13) = cF Ko from rfl] at kp
  refine zcallVX C (kp) hy_X7_pass hv_X7_pass hl_L_63 z.into.main rfl rfl rfl rfl (by decide) (by decide) (by omega) (by omega) rfl (by exact Nat.le_of_ble_eq_true rfl) dL_law_182 (fun E M1 hx => absurd x1 (exI hx.1)) (fun v1 M1 hv => ?_)
  obtain ⟨-, rfl, ad1, p1, p2⟩ := hv
  obtain ⟨z, e1⟩ := z.back p1 (fun t ht => p2 t (by omega) (by omega))
  rw [← e1]
  refine zaload_n C dL_law_185 rfl ?_
  refine zsipush (v := 2000) C dL_law_186 (by decide) ?_
  have kp := K_pass (nI 2000) z.sym.into hkp.1 hkp.2.2.2.1 (Nat.le_refl 1000)
  rw [nI_clamp (show 2000 < 2 ^ 31 by decide), show capF (kch (psK Kp 2000)) (Kp.1 13) = cF (psK Kp 2000) from by rw [cF, psK13], show capF (kch Kp) (Kp.1 13) = cF Kp from rfl] at kp
  refine zcallVX C (kp) hy_X7_pass hv_X7_pass hl_L_63 z.sym.into.main rfl rfl rfl rfl (by decide) (by decide) (by omega) (by omega) rfl (by exact Nat.le_of_ble_eq_true rfl) dL_law_189 (fun E M1 hx => absurd x2 (exI hx.1)) (fun v1 M1 hv => ?_)
  obtain ⟨-, rfl, ad2, p3, p4⟩ := hv
  obtain ⟨z0, e2⟩ := z.sym.back p3 (fun t ht => p4 t (by omega) (by omega))
  have z := z0.sym
  rw [← e2, show Kp.1 1 = Ko.1 1 from (hcc 1 (by decide)).symm]
  refine zicmp_ne (tgt := 233) C dL_law_192 (by decide) (fun h192 => by first | exact absurd h192 rfl | exact absurd rfl h192) (fun h192 => ?_)
  obtain ⟨q1, q2⟩ := psK1 Ko 2000
  have q3 := psK13 Ko 2000
  replace hxo := e1.trans hxo
  replace hyp := e2.trans hyp
  replace hT := hT1
  replace hc1 := q1.trans (congrArg (· + 2000) hc1)
  replace hc2 := q2.trans hc2
  replace hc13 := q3.trans hc13
  replace hok := hokn.1
  replace hkp := hokn.2.1
  replace hcc := hokn.2.2.1
  clear q1 q2 q3 e1 e2 hT1 hokn x1 x2
  have hk : k + (8 + (cF (psK Ko 2000) - cF Ko)) + (8 + (cF (psK Kp 2000) - cF Kp)) ≤ 100 + 100 * 13 + cF (psK Ko 2000) + cF (psK Kp 2000) := by omega
  have hm : m + (48 + 4 * (cF (psK Ko 2000) - cF Ko)) + (48 + 4 * (cF (psK Kp 2000) - cF Kp)) ≤ 300 + 500 * 13 + 4 * cF (psK Ko 2000) + 4 * cF (psK Kp 2000) := by omega
  clear f1 f2 hcf1 hcf2
  have hcf1 := cn1
  have hcf2 := cn2
  clear cn1 cn2
  generalize k + (8 + (cF (psK Ko 2000) - cF Ko)) + (8 + (cF (psK Kp 2000) - cF Kp)) = k at *
  generalize m + (48 + 4 * (cF (psK Ko 2000) - cF Ko)) + (48 + 4 * (cF (psK Kp 2000) - cF Kp)) = m at *
  generalize psK Ko 2000 = Ko at *
  generalize psK Kp 2000 = Kp at *
  generalize ad1 = ao at *
  generalize ad2 = ap at *
  refine zaload_n C dL_law_195 rfl ?_
  refine zsipush (v := 2000) C dL_law_196 (by decide) ?_
  obtain ⟨x1, x2, hT1, f1, f2⟩ := hP.2.2.2.2.2.1 _ _ _ _ hT (by omega) 2000 (by decide) (by decide) (by omega)
  have hokn := hP.2.1 _ _ _ _ hT1
  have cn1 := hokn.1.2.2.2.2.2
  have cn2 := hokn.2.1.2.2.2.2.2
  have kp := K_pass (nI 2000) z.into hok.1 hok.2.2.2.1 (Nat.le_refl 1000)
  rw [nI_clamp (show 2000 < 2 ^ 31 by decide), show capF (kch (psK Ko 2000)) (Ko.1 13) = cF (psK Ko 2000) from by rw [cF, psK13], show capF (kch Ko) (Ko.1 13) = cF Ko from rfl] at kp
  refine zcallVX C (kp) hy_X7_pass hv_X7_pass hl_L_63 z.into.main rfl rfl rfl rfl (by decide) (by decide) (by omega) (by omega) rfl (by exact Nat.le_of_ble_eq_true rfl) dL_law_199 (fun E M1 hx => absurd x1 (exI hx.1)) (fun v1 M1 hv => ?_)
  obtain ⟨-, rfl, ad1, p1, p2⟩ := hv
  obtain ⟨z, e1⟩ := z.back p1 (fun t ht => p2 t (by omega) (by omega))
  rw [← e1]
  refine zaload_n C dL_law_202 rfl ?_
  refine zsipush (v := 2000) C dL_law_203 (by decide) ?_
  have kp := K_pass (nI 2000) z.sym.into hkp.1 hkp.2.2.2.1 (Nat.le_refl 1000)
  rw [nI_clamp (show 2000 < 2 ^ 31 by decide), show capF (kch (psK Kp 2000)) (Kp.1 13) = cF (psK Kp 2000) from by rw [cF, psK13], show capF (kch Kp) (Kp.1 13) = cF Kp from rfl] at kp
  refine zcallVX C (kp) hy_X7_pass hv_X7_pass hl_L_63 z.sym.into.main rfl rfl rfl rfl (by decide) (by decide) (by omega) (by omega) rfl (by exact Nat.le_of_ble_eq_true rfl) dL_law_206 (fun E M1 hx => absurd x2 (exI hx.1)) (fun v1 M1 hv => ?_)
  obtain ⟨-, rfl, ad2, p3, p4⟩ := hv
  obtain ⟨z0, e2⟩ := z.sym.back p3 (fun t ht => p4 t (by omega) (by omega))
  have z := z0.sym
  rw [← e2, show Kp.1 1 = Ko.1 1 from (hcc 1 (by decide)).symm]
  refine zicmp_ne (tgt := 233) C dL_law_209 (by decide) (fun h209 => by first | exact absurd h209 rfl | exact absurd rfl h209) (fun h209 => ?_)
  obtain ⟨q1, q2⟩ := psK1 Ko 2000
  have q3 := psK13 Ko 2000
  replace hxo := e1.trans hxo
  replace hyp := e2.trans hyp
  replace hT := hT1
  replace hc1 := q1.trans (congrArg (· + 2000) hc1)
  replace hc2 := q2.trans hc2
  replace hc13 := q3.trans hc13
  replace hok := hokn.1
  replace hkp := hokn.2.1
  replace hcc := hokn.2.2.1
  clear q1 q2 q3 e1 e2 hT1 hokn x1 x2
  have hk : k + (8 + (cF (psK Ko 2000) - cF Ko)) + (8 + (cF (psK Kp 2000) - cF Kp)) ≤ 100 + 100 * 14 + cF (psK Ko 2000) + cF (psK Kp 2000) := by omega
  have hm : m + (48 + 4 * (cF (psK Ko 2000) - cF Ko)) + (48 + 4 * (cF (psK Kp 2000) - cF Kp)) ≤ 300 + 500 * 14 + 4 * cF (psK Ko 2000) + 4 * cF (psK Kp 2000) := by omega
  clear f1 f2 hcf1 hcf2
  have hcf1 := cn1
  have hcf2 := cn2
  clear cn1 cn2
  generalize k + (8 + (cF (psK Ko 2000) - cF Ko)) + (8 + (cF (psK Kp 2000) - cF Kp)) = k at *
  generalize m + (48 + 4 * (cF (psK Ko 2000) - cF Ko)) + (48 + 4 * (cF (psK Kp 2000) - cF Kp)) = m at *
  generalize psK Ko 2000 = Ko at *
  generalize psK Kp 2000 = Kp at *
  generalize ad1 = ao at *
  generalize ad2 = ap at *
  refine zaload_n C dL_law_212 rfl ?_
  refine zsipush (v := 1000) C dL_law_213 (by decide) ?_
  obtain ⟨x1, x2, hT1, f1, f2⟩ := hP.2.2.2.2.2.1 _ _ _ _ hT (by omega) 1000 (by decide) (by decide) (by omega)
  have hokn := hP.2.1 _ _ _ _ hT1
  have cn1 := hokn.1.2.2.2.2.2
  have cn2 := hokn.2.1.2.2.2.2.2
  have kp := K_pass (nI 1000) z.into hok.1 hok.2.2.2.1 (Nat.le_refl 1000)
  rw [nI_clamp (show 1000 < 2 ^ 31 by decide), show capF (kch (psK Ko 1000)) (Ko.1 13) = cF (psK Ko 1000) from by rw [cF, psK13], show capF (kch Ko) (Ko.1 13) = cF Ko from rfl] at kp
  refine zcallVX C (kp) hy_X7_pass hv_X7_pass hl_L_63 z.into.main rfl rfl rfl rfl (by decide) (by decide) (by omega) (by omega) rfl (by exact Nat.le_of_ble_eq_true rfl) dL_law_216 (fun E M1 hx => absurd x1 (exI hx.1)) (fun v1 M1 hv => ?_)
  obtain ⟨-, rfl, ad1, p1, p2⟩ := hv
  obtain ⟨z, e1⟩ := z.back p1 (fun t ht => p2 t (by omega) (by omega))
  rw [← e1]
  refine zaload_n C dL_law_219 rfl ?_
  refine zsipush (v := 1000) C dL_law_220 (by decide) ?_
  have kp := K_pass (nI 1000) z.sym.into hkp.1 hkp.2.2.2.1 (Nat.le_refl 1000)
  rw [nI_clamp (show 1000 < 2 ^ 31 by decide), show capF (kch (psK Kp 1000)) (Kp.1 13) = cF (psK Kp 1000) from by rw [cF, psK13], show capF (kch Kp) (Kp.1 13) = cF Kp from rfl] at kp
  refine zcallVX C (kp) hy_X7_pass hv_X7_pass hl_L_63 z.sym.into.main rfl rfl rfl rfl (by decide) (by decide) (by omega) (by omega) rfl (by exact Nat.le_of_ble_eq_true rfl) dL_law_223 (fun E M1 hx => absurd x2 (exI hx.1)) (fun v1 M1 hv => ?_)
  obtain ⟨-, rfl, ad2, p3, p4⟩ := hv
  obtain ⟨z0, e2⟩ := z.sym.back p3 (fun t ht => p4 t (by omega) (by omega))
  have z := z0.sym
  rw [← e2, show Kp.1 1 = Ko.1 1 from (hcc 1 (by decide)).symm]
  refine zicmp_ne (tgt := 233) C dL_law_226 (by decide) (fun h226 => by first | exact absurd h226 rfl | exact absurd rfl h226) (fun h226 => ?_)
  obtain ⟨q1, q2⟩ := psK1 Ko 1000
  have q3 := psK13 Ko 1000
  replace hxo := e1.trans hxo
  replace hyp := e2.trans hyp
  replace hT := hT1
  replace hc1 := q1.trans (congrArg (· + 1000) hc1)
  replace hc2 := q2.trans hc2
  replace hc13 := q3.trans hc13
  replace hok := hokn.1
  replace hkp := hokn.2.1
  replace hcc := hokn.2.2.1
  clear q1 q2 q3 e1 e2 hT1 hokn x1 x2
  have hk : k + (8 + (cF (psK Ko 1000) - cF Ko)) + (8 + (cF (psK Kp 1000) - cF Kp)) ≤ 100 + 100 * 15 + cF (psK Ko 1000) + cF (psK Kp 1000) := by omega
  have hm : m + (48 + 4 * (cF (psK Ko 1000) - cF Ko)) + (48 + 4 * (cF (psK Kp 1000) - cF Kp)) ≤ 300 + 500 * 15 + 4 * cF (psK Ko 1000) + 4 * cF (psK Kp 1000) := by omega
  clear f1 f2 hcf1 hcf2
  have hcf1 := cn1
  have hcf2 := cn2
  clear cn1 cn2
  generalize k + (8 + (cF (psK Ko 1000) - cF Ko)) + (8 + (cF (psK Kp 1000) - cF Kp)) = k at *
  generalize m + (48 + 4 * (cF (psK Ko 1000) - cF Ko)) + (48 + 4 * (cF (psK Kp 1000) - cF Kp)) = m at *
  generalize psK Ko 1000 = Ko at *
  generalize psK Kp 1000 = Kp at *
  generalize ad1 = ao at *
  generalize ad2 = ap at *
  refine zconst (v := 1) C dL_law_229 (by decide) ?_
  refine zgoto (tgt := 234) C dL_law_230 (by decide) ?_
  refine zistore_n (L1 := [_, _, _, _, _, _, _, _, _, _, _, _, _, _, _, _]) C dL_law_234 rfl (Nat.le_of_ble_eq_true rfl) ?_
  refine zsipush (v := 5000) C dL_law_235 (by decide) ?_
  refine zistore (L1 := [_, _, _, _, _, _, _, _, _, _, _, _, _, _, _, _]) C dL_law_238 rfl (Nat.le_of_ble_eq_true rfl) ?_
  refine zlconst (v := 0) C dL_law_240 rfl ?_
  refine zlstore (L1 := [_, _, _, _, _, _, _, _, _, _, _, _, _, _, _, _]) C dL_law_241 rfl (Nat.le_of_ble_eq_true rfl) ?_
  refine zconst (v := 0) C dL_law_243 (by decide) ?_
  refine zistore (L1 := [_, _, _, _, _, _, _, _, _, _, _, _, _, _, _, _]) C dL_law_244 rfl (Nat.le_of_ble_eq_true rfl) ?_
  rw [hxo, hyp]
  refine kk _ _ _ _ _ ⟨15, Ko, Kp, ao, ap, z, hxo, hyp, hT, by rw [hc1]; rfl, by omega, by omega, by omega, ?_, ?_⟩
  · have : b30 0 = 2000 := rfl
    omega
  · have : s30 0 = 20000 := rfl
    omega
section ZLE
variable {p : Program} {e : Env} {s : State} {m : MethodId} {below : List Frame} {meth : Method} {c : Code} {l : Launch} {b : Nat} {g : zGh}
abbrev zXl (p : Program) (e : Env) (s : State) (m : MethodId) (b : Nat) (below : List Frame) (meth : Method) (c : Code) : zX := ((p, e, room_1, s), (m, #[Value.ref b], below, meth, c), lw_Z below #[Value.ref b] s)
theorem zend_law (hg1 : g.1 = s.heap.size) (hx : p.tables.exec = Jvm.exec) (hb : c.code = code) (hr : meth.sig.returnType = ret) (hlocks : meth.locks = false) {M : zM} {k n : Nat} {L : List (Option Value)} (hk : k ≤ 740299) (hn : n ≤ 6880728) : zG g (zXl p e s m b below meth c) M k n 587 L [.int 1] := by
  intro H locs ls hH hS hL
  refine va_forget (fun q hq => by have := hS.2.2 q hq; rwa [zA, hg1] at this) ?_
  refine W.widen (k := 740299) (n := 6880728) hk hn ?_
  exact lw_ret hx hb hr hlocks dL_law_587
end ZLE
set_option maxRecDepth 100000 in
set_option maxHeartbeats 4000000 in
theorem whole_start30 (T : Nat → Int → zK → zK → Prop) (hP : pk30 T) {p : Program} {e : Env} {s : State} {m : MethodId} {below : List Frame} {meth : Method} {c : Code} (l : Launch) (hflags : l.flags = flags0) {b L : Nat} {xs : Nat → Int32} (hL : L ≤ 260) (C0 : lw_At p s m meth c b L xs) : W p l e room_1 s m #[Value.ref b] below meth c s.heap [] 0 0 (lw_Z below #[Value.ref b] s) (entryFrame m ([Value.ref b] : List Value).toArray 16) := by
  obtain ⟨hx, hb, hr, hml, hown, hts, hX, hbl, hlocks, hgv⟩ := id C0
  obtain ⟨g, hg1, hg2, hTS, hN⟩ := zstart (l := l) (by unfold Launch.stackTraces; rw [hflags]; decide +kernel) hts hgv
  subst hg2
  have hbA : ¬ zA g b := by rw [zA, hg1]; exact Nat.not_le.mpr hbl
  have C : zC g (zXl p e s m b below meth c) RL cL_law 16 14 564 740299 6880728 := ⟨hx, hb, hml, hown, fun w hw => hts w (zGWt hw), hTS, hlocks, Nat.le_of_eq hg1, rfl, rfl, rfl, rfl⟩
  rw [lg_entry_eq]
  have hM0 : zH vwCl g (fun _ => none) s.heap := ⟨[], fun k q h => by simp at h, ⟨fun i j p q h => by simp at h, fun k q h => by simp at h⟩, fun a e => by simp⟩
  suffices K : zG g (zXl p e s m b below meth c) (fun _ => none) 0 0 0 [some (.ref b), none, none, none, none, none, none, none, none, none, none, none, none, none, none, none] [] from K s.heap [] _ hM0 va_S.rf (lv_entry [.ref b] (n := 16) (Nat.le_of_ble_eq_true rfl))
  clear hM0
  refine znew C hw_L_15 rfl (by decide) (by decide) dL_law_0 (fun x hx0 => ?_)
  refine zdup C dL_law_3 rfl ?_
  refine zcallI C (k_initX zup_same) hy_X7_init hi_X7_init hl_L_131 rfl rfl (by decide) (by decide) (by decide) (by decide) rfl (by exact Nat.le_of_ble_eq_true rfl) dL_law_4 (fun M2 hp => ?_)
  obtain ⟨ao, hp2, hax, -, -⟩ := hp
  refine zastore_n (L1 := [_, _, _, _, _, _, _, _, _, _, _, _, _, _, _, _]) C dL_law_7 rfl (Nat.le_of_ble_eq_true rfl) ?_
  refine znew C hw_L_15 rfl (by decide) (by decide) dL_law_8 (fun y hy0 => ?_)
  refine zdup C dL_law_11 rfl ?_
  refine zcallI C (k_initX zup_same) hy_X7_init hi_X7_init hl_L_131 rfl rfl (by decide) (by decide) (by decide) (by decide) rfl (by exact Nat.le_of_ble_eq_true rfl) dL_law_12 (fun M4 hp => ?_)
  obtain ⟨ap, hp4, hay, hfr, hkeep⟩ := hp
  have z : zW2 g K0 K0 ao ap M4 := zW2.start hp2 hy0 hp4 hay hfr hkeep
  refine zastore_n (L1 := [_, _, _, _, _, _, _, _, _, _, _, _, _, _, _, _]) C dL_law_15 rfl (Nat.le_of_ble_eq_true rfl) ?_
  refine zconst (v := 1) C dL_law_16 (by decide) ?_
  refine zistore_n (L1 := [_, _, _, _, _, _, _, _, _, _, _, _, _, _, _, _]) C dL_law_17 rfl (Nat.le_of_ble_eq_true rfl) ?_
  refine zconst (v := 0) C dL_law_18 (by decide) ?_
  refine zistore (L1 := [_, _, _, _, _, _, _, _, _, _, _, _, _, _, _, _]) C dL_law_19 rfl (Nat.le_of_ble_eq_true rfl) ?_
  have kend : ∀ (M : zM) (k m0 : Nat) (L : List (Option Value)), k ≤ 740299 → m0 ≤ 6880728 → zG g (zXl p e s m b below meth c) M k m0 587 L [.int 1] := fun M k m0 L h1 h2 => zend_law hg1 hx hb hr hlocks h1 h2
  have kC := lw_C C hN hX hbl hbA hL T hP (x := x) (y := y) (fun td br M k m0 h => zcg (lw_main C hN hX hbl hbA hL T hP kend 160 0 (by decide) td br M k m0 h) rfl rfl)
  have kB := lw_B C hN hX hbl hbA hL T hP (x := x) (y := y) kC 8 0 (by decide)
  refine zcg (lw_A C hN hX hbl hbA hL T hP (x := x) (y := y) (fun M k m0 h => ?_) 4 0 (by decide) _ _ _ ⟨K0, K0, ao, ap, z, hax, hay, hP.1, rfl, rfl, rfl, ?_, ?_⟩) rfl rfl
  · refine zconst (v := 0) C dL_law_61 (by decide) ?_
    refine zistore (L1 := [_, _, _, _, _, _, _, _, _, _, _, _, _, _, _, _]) C dL_law_62 rfl (Nat.le_of_ble_eq_true rfl) ?_
    exact zcg (kB M k m0 h) rfl rfl
  · exact Nat.le_trans (by decide) (Nat.le_add_right 100 _)
  · exact Nat.le_trans (by decide) (Nat.le_add_right 300 _)
