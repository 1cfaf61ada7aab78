/-! areSuits -/
def gSui (K : zK) : Prop := ∀ s, s < K.1 33 → (((∃ t, t ≤ K.1 1 ∧ (ksu K s).2.2.2.2.2.2.2.1 = nI t) ∧ ((ksu K s).2.2.2.2.1 = 2 ∨ (ksu K s).2.2.2.2.1 = 3)) ∨ ((ksu K s).2.2.2.2.2.2.2.1 = -1 ∧ ((ksu K s).2.2.2.2.1 = 0 ∨ (ksu K s).2.2.2.2.1 = 1))) ∧ (¬ (ksu K s).2.2.2.2.1 = 2 → (ksu K s).2.2.2.2.2.2.1 = 0) ∧ (∃ x, x ≤ 1000000 ∧ (ksu K s).2.2.2.2.2.2.1 = nI x) ∧ (2 ≤ (kws K s).1 ∨ wonK K s 0 = false) ∧ (kws K s).1 < 39
section AS
variable {K : zK} {i : Nat}
theorem as0 (h : i < 2 ^ 31) : a_ofSuit K (nI i) 0 = (ksu K i).2.2.2.2.1 := by unfold a_ofSuit; rw [if_pos rfl, nI_clamp h]
theorem as2 (h : i < 2 ^ 31) : a_ofSuit K (nI i) 2 = nI (kws K i).1 := by unfold a_ofSuit; rw [if_neg (by decide), if_neg (by decide), if_pos rfl, nI_clamp h]
theorem as3 (h : i < 2 ^ 31) : a_ofSuit K (nI i) 3 = (ksu K i).2.2.2.2.2.2.1 := by unfold a_ofSuit; rw [if_neg (by decide), if_neg (by decide), if_neg (by decide), if_pos rfl, nI_clamp h]
theorem as4 (h : i < 2 ^ 31) : a_ofSuit K (nI i) 4 = (ksu K i).2.2.2.2.2.2.2.1 := by unfold a_ofSuit; rw [if_neg (by decide), if_neg (by decide), if_neg (by decide), if_neg (by decide), nI_clamp h]
theorem dR23 (h : i < K.1 33) (hn : K.1 33 ≤ 20) : dR K 23 (nI i) 0 0 0 = (ksu K i).2.2.2.2.1.toInt64 := by
  unfold dR
  rw [if_pos (show dX K 23 (nI i) 0 0 0 = 0 from xof_ok h (by omega) (by decide))]
  exact congrArg Int32.toInt64 (as0 (by omega))
theorem dR23n (hn : K.1 33 ≤ 20) : dR K 23 (nI (K.1 33)) 0 0 0 = -2100000000 := if_neg (show ¬ x_of (K.1 33) 4 (nI (K.1 33)) 0 = 0 from xof_no (by omega))
theorem aw0 (h : i < 2 ^ 31) : a_wins K (nI i) (-1) = wonK K i 0 := by
  unfold a_wins
  rw [nI_clamp h]
  rfl
theorem xw0 (h : i < K.1 33) (hn : K.1 33 ≤ 20) : x_wins K (nI i) (-1) = 0 := by
  unfold x_wins
  rw [zix_t h (by omega)]
  rfl
theorem ngt_i {a b : Nat} (h : b ≤ a) (ha : a < 2 ^ 31) : ¬ nI a < nI b := by
  rw [Int32.lt_iff_toInt_lt, nI_toInt ha, nI_toInt (by omega)]; omega
theorem lt_i {a b : Nat} (h : a < b) (hb : b < 2 ^ 31) : nI a < nI b := by
  rw [Int32.lt_iff_toInt_lt, nI_toInt (by omega), nI_toInt hb]; omega
end AS
set_option maxRecDepth 100000 in
set_option maxHeartbeats 4000000 in
theorem l_suits {g : zGh} {K : zK} {a : zg → Nat} {M : zM} (hp : zP g K nX a M) (hok : zOk K) {td : Nat} (htd : td = K.1 1) (hb1 : K.1 1 ≤ 30000) (gs : gSui K) : zCn g yL_areSuits cL_areSuits 6 (some .boolean) 11 251 mkI [.ref (a (0, 0)), .int (nI td)] M 1400 8400 (fun r M1 => r = 1 ∧ M1 = M) := by
  subst htd
  have hb33 : K.1 33 ≤ 20 := hok.1.1.2.2.2.2.2.2
  refine zofn [some (.ref (a (0, 0))), some (.int (nI (K.1 1))), none, none, none, none] (by decide +kernel) rfl rfl (Nat.le_of_ble_eq_true rfl) ?_
  intro X C hE hN
  have C : zC g X RL cL_areSuits 6 11 251 1400 8400 := C
  have main : ∀ r s, s + r = K.1 33 → ∀ k n, k ≤ 64 * s → n ≤ 384 * s → zG g X M k n 4 [some (.ref (a (0, 0))), some (.int (nI (K.1 1))), some (.int 1), some (.int (nI s)), none, none] [] := by
    intro r
    induction r with
    | zero =>
      intro s hs k n hk hn
      obtain rfl : s = K.1 33 := by omega
      refine zaload_n C dL_areSuits_4 rfl ?_
      refine zbipush (v := 23) C dL_areSuits_5 (by decide) ?_
      refine ziload_n C dL_areSuits_7 rfl ?_
      refine zconst (v := 0) C dL_areSuits_8 (by decide) ?_
      refine zconst (v := 0) C dL_areSuits_9 (by decide) ?_
      refine zconst (v := 0) C dL_areSuits_10 (by decide) ?_
      refine zcallSW (np := 6) C hN (does_23 _ _ _ _ hp hok) hcw_does zinL (by decide) (by decide +kernel) hl_L_118 rfl rfl (by decide) (by decide) (by omega) (by omega) rfl (by exact Nat.le_of_ble_eq_true rfl) dL_areSuits_11 (fun r M1 hr => ?_)
      obtain ⟨rfl, rfl⟩ := hr
      rw [dR23n hb33]
      refine zlconst (v := 0) C dL_areSuits_14 rfl ?_
      refine zlcmp C dL_areSuits_15 ?_
      rw [show lg_cmp (-2100000000) 0 = -1 from by decide]
      refine zif_lt_t (tgt := 135) C dL_areSuits_16 (by decide) (by decide) ?_
      refine ziload_n C dL_areSuits_135 rfl ?_
      exact zend_z C hE dL_areSuits_136 (by omega) (by omega) (Or.inr rfl) ⟨rfl, rfl⟩
    | succ r ih =>
      intro s hs k n hk hn
      have hs : s < K.1 33 := by omega
      have hs31 : s < 2 ^ 31 := by omega
      obtain ⟨hst, how0, ⟨ow, how, hoe⟩, hw, hw39⟩ := gs s hs
      have k84 : ∀ k n, k ≤ 64 * s + 32 → n ≤ 384 * s + 192 → zG g X M k n 84 [some (.ref (a (0, 0))), some (.int (nI (K.1 1))), some (.int 1), some (.int (nI s)), none, none] [] := by
        intro k n hk hn
        have k112 : ∀ k n, k ≤ 64 * s + 56 → n ≤ 384 * s + 336 → zG g X M k n 112 [some (.ref (a (0, 0))), some (.int (nI (K.1 1))), some (.int 1), some (.int (nI s)), none, none] [] := by
          intro k n hk hn
          refine zaload_n C dL_areSuits_112 rfl ?_
          refine ziload_n C dL_areSuits_113 rfl ?_
          refine zconst (v := 2) C dL_areSuits_114 (by decide) ?_
          refine zcallVX C (K_ofSuit _ _ hp hok.1) hy_X7_ofSuit hv_X7_ofSuit hl_L_60 hp.main rfl rfl rfl rfl (by decide) (by decide) (by omega) (by omega) rfl (by exact Nat.le_of_ble_eq_true rfl) dL_areSuits_115 (fun E M1 hx => absurd (xof_ok hs (by omega) (by decide)) (exI hx.1)) (fun v M1 hv => ?_)
          obtain ⟨-, rfl, rfl⟩ := hv
          rw [as2 hs31]
          refine zbipush (v := 39) C dL_areSuits_118 (by decide) ?_
          refine zicmp_ge (tgt := 127) C dL_areSuits_120 (by decide) (fun h120 => by first | exact absurd h120 (nge_i (n := 39) hw39 (by decide)) | exact absurd (nge_i (n := 39) hw39 (by decide)) h120) (fun h120 => ?_)
          refine zconst (v := 1) C dL_areSuits_123 (by decide) ?_
          refine zgoto (tgt := 128) C dL_areSuits_124 (by decide) ?_
          refine zistore_n (L1 := [_, _, _, _, _, _]) C dL_areSuits_128 rfl (Nat.le_of_ble_eq_true rfl) ?_
          refine ziinc (L1 := [_, _, _, _, _, _]) (v := nI (s + 1)) C dL_areSuits_129 rfl (nI_add s 1) rfl ?_
          refine zgoto (tgt := 4) C dL_areSuits_132 (by decide) ?_
          refine zfor [true, true, true, true, false, false] rfl ?_
          exact ih (s + 1) (by omega) _ _ (by omega) (by omega)
        refine zaload_n C dL_areSuits_84 rfl ?_
        refine ziload_n C dL_areSuits_85 rfl ?_
        refine zconst (v := 3) C dL_areSuits_86 (by decide) ?_
        refine zcallVX C (K_ofSuit _ _ hp hok.1) hy_X7_ofSuit hv_X7_ofSuit hl_L_60 hp.main rfl rfl rfl rfl (by decide) (by decide) (by omega) (by omega) rfl (by exact Nat.le_of_ble_eq_true rfl) dL_areSuits_87 (fun E M1 hx => absurd (xof_ok hs (by omega) (by decide)) (exI hx.1)) (fun v M1 hv => ?_)
        obtain ⟨-, rfl, rfl⟩ := hv
        rw [as3 hs31, hoe]
        refine zif_lt_f (tgt := 127) C dL_areSuits_90 (by decide) (nI_nn (by omega)) ?_
        refine zaload_n C dL_areSuits_93 rfl ?_
        refine ziload_n C dL_areSuits_94 rfl ?_
        refine zconst (v := 2) C dL_areSuits_95 (by decide) ?_
        refine zcallVX C (K_ofSuit _ _ hp hok.1) hy_X7_ofSuit hv_X7_ofSuit hl_L_60 hp.main rfl rfl rfl rfl (by decide) (by decide) (by omega) (by omega) rfl (by exact Nat.le_of_ble_eq_true rfl) dL_areSuits_96 (fun E M1 hx => absurd (xof_ok hs (by omega) (by decide)) (exI hx.1)) (fun v M1 hv => ?_)
        obtain ⟨-, rfl, rfl⟩ := hv
        rw [as2 hs31]
        refine zconst (v := 1) C dL_areSuits_99 (by decide) ?_
        refine zicmp_gt (tgt := 112) C dL_areSuits_100 (by decide) (fun h100 => ?_) (fun h100 => ?_)
        · exact k112 _ _ (by omega) (by omega)
        · have hw0 : wonK K s 0 = false := hw.resolve_left (fun hh => h100 (lt_i (a := 1) (by omega) (by omega)))
          refine zaload_n C dL_areSuits_103 rfl ?_
          refine ziload_n C dL_areSuits_104 rfl ?_
          refine zconst (v := -1) C dL_areSuits_105 (by decide) ?_
          refine zcallVX C (K_wins _ _ hp hok.1) hy_X7_wins hv_X7_wins hl_L_49 hp.main rfl rfl rfl rfl (by decide) (by decide) (by omega) (by omega) rfl (by exact Nat.le_of_ble_eq_true rfl) dL_areSuits_106 (fun E M1 hx => absurd (xw0 hs hb33) (exI hx.1)) (fun v M1 hv => ?_)
          obtain ⟨-, rfl, rfl⟩ := hv
          rw [aw0 hs31, hw0]
          refine zif_ne_f (tgt := 127) C dL_areSuits_109 (by decide) rfl ?_
          exact k112 _ _ (by omega) (by omega)
      refine zaload_n C dL_areSuits_4 rfl ?_
      refine zbipush (v := 23) C dL_areSuits_5 (by decide) ?_
      refine ziload_n C dL_areSuits_7 rfl ?_
      refine zconst (v := 0) C dL_areSuits_8 (by decide) ?_
      refine zconst (v := 0) C dL_areSuits_9 (by decide) ?_
      refine zconst (v := 0) C dL_areSuits_10 (by decide) ?_
      refine zcallSW (np := 6) C hN (does_23 _ _ _ _ hp hok) hcw_does zinL (by decide) (by decide +kernel) hl_L_118 rfl rfl (by decide) (by decide) (by omega) (by omega) rfl (by exact Nat.le_of_ble_eq_true rfl) dL_areSuits_11 (fun r M1 hr => ?_)
      obtain ⟨rfl, rfl⟩ := hr
      rw [dR23 hs hb33]
      refine zlconst (v := 0) C dL_areSuits_14 rfl ?_
      refine zlcmp C dL_areSuits_15 ?_
      refine zif_lt_f (tgt := 135) C dL_areSuits_16 (by decide) (lg_nn (by rcases hst with ⟨-, hq | hq⟩ | ⟨-, hq | hq⟩ <;> rw [hq] <;> decide)) ?_
      refine ziload_n C dL_areSuits_19 rfl ?_
      refine zif_eq_f (tgt := 135) C dL_areSuits_20 (by decide) (by decide) ?_
      refine zaload_n C dL_areSuits_23 rfl ?_
      refine ziload_n C dL_areSuits_24 rfl ?_
      refine zconst (v := 0) C dL_areSuits_25 (by decide) ?_
      refine zcallVX C (K_ofSuit _ _ hp hok.1) hy_X7_ofSuit hv_X7_ofSuit hl_L_60 hp.main rfl rfl rfl rfl (by decide) (by decide) (by omega) (by omega) rfl (by exact Nat.le_of_ble_eq_true rfl) dL_areSuits_26 (fun E M1 hx => absurd (xof_ok hs (by omega) (by decide)) (exI hx.1)) (fun v M1 hv => ?_)
      obtain ⟨-, rfl, rfl⟩ := hv
      rw [as0 hs31]
      refine zistore (L1 := [_, _, _, _, _, _]) C dL_areSuits_29 rfl (Nat.le_of_ble_eq_true rfl) ?_
      refine zaload_n C dL_areSuits_31 rfl ?_
      refine ziload_n C dL_areSuits_32 rfl ?_
      refine zconst (v := 4) C dL_areSuits_33 (by decide) ?_
      refine zcallVX C (K_ofSuit _ _ hp hok.1) hy_X7_ofSuit hv_X7_ofSuit hl_L_60 hp.main rfl rfl rfl rfl (by decide) (by decide) (by omega) (by omega) rfl (by exact Nat.le_of_ble_eq_true rfl) dL_areSuits_34 (fun E M1 hx => absurd (xof_ok hs (by omega) (by decide)) (exI hx.1)) (fun v M1 hv => ?_)
      obtain ⟨-, rfl, rfl⟩ := hv
      rw [as4 hs31]
      refine zistore (L1 := [_, _, _, _, _, _]) C dL_areSuits_37 rfl (Nat.le_of_ble_eq_true rfl) ?_
      rcases hst with ⟨⟨t, ht, hj⟩, hq⟩ | ⟨hj, hq⟩
      · rcases hq with hq | hq
        · refine ziload C dL_areSuits_39 rfl ?_
          rw [hj]
          refine zif_lt_f (tgt := 48) C dL_areSuits_41 (by decide) (nI_nn (by omega)) ?_
          refine zconst (v := 1) C dL_areSuits_44 (by decide) ?_
          refine zgoto (tgt := 49) C dL_areSuits_45 (by decide) ?_
          refine ziload C dL_areSuits_49 rfl ?_
          rw [hq]
          refine zconst (v := 1) C dL_areSuits_51 (by decide) ?_
          refine zicmp_le (tgt := 59) C dL_areSuits_52 (by decide) (fun h52 => by first | exact absurd h52 (by decide) | exact absurd (by decide) h52) (fun h52 => ?_)
          refine zconst (v := 1) C dL_areSuits_55 (by decide) ?_
          refine zgoto (tgt := 60) C dL_areSuits_56 (by decide) ?_
          refine zicmp_ne (tgt := 127) C dL_areSuits_60 (by decide) (fun h60 => by first | exact absurd h60 (by decide) | exact absurd (by decide) h60) (fun h60 => ?_)
          refine ziload C dL_areSuits_63 rfl ?_
          refine ziload_n C dL_areSuits_65 rfl ?_
          refine zicmp_gt (tgt := 127) C dL_areSuits_66 (by decide) (fun h66 => by first | exact absurd h66 (ngt_i ht (by omega)) | exact absurd (ngt_i ht (by omega)) h66) (fun h66 => ?_)
          refine ziload C dL_areSuits_69 rfl ?_
          refine zconst (v := 2) C dL_areSuits_71 (by decide) ?_
          refine zicmp_eq (tgt := 84) C dL_areSuits_72 (by decide) (fun h72 => ?_) (fun h72 => by first | exact absurd (by decide) h72 | exact absurd h72 (by decide))
          refine zfor [true, true, true, true, false, false] rfl ?_
          exact k84 _ _ (by omega) (by omega)
        · refine ziload C dL_areSuits_39 rfl ?_
          rw [hj]
          refine zif_lt_f (tgt := 48) C dL_areSuits_41 (by decide) (nI_nn (by omega)) ?_
          refine zconst (v := 1) C dL_areSuits_44 (by decide) ?_
          refine zgoto (tgt := 49) C dL_areSuits_45 (by decide) ?_
          refine ziload C dL_areSuits_49 rfl ?_
          rw [hq]
          refine zconst (v := 1) C dL_areSuits_51 (by decide) ?_
          refine zicmp_le (tgt := 59) C dL_areSuits_52 (by decide) (fun h52 => by first | exact absurd h52 (by decide) | exact absurd (by decide) h52) (fun h52 => ?_)
          refine zconst (v := 1) C dL_areSuits_55 (by decide) ?_
          refine zgoto (tgt := 60) C dL_areSuits_56 (by decide) ?_
          refine zicmp_ne (tgt := 127) C dL_areSuits_60 (by decide) (fun h60 => by first | exact absurd h60 (by decide) | exact absurd (by decide) h60) (fun h60 => ?_)
          refine ziload C dL_areSuits_63 rfl ?_
          refine ziload_n C dL_areSuits_65 rfl ?_
          refine zicmp_gt (tgt := 127) C dL_areSuits_66 (by decide) (fun h66 => by first | exact absurd h66 (ngt_i ht (by omega)) | exact absurd (ngt_i ht (by omega)) h66) (fun h66 => ?_)
          refine ziload C dL_areSuits_69 rfl ?_
          refine zconst (v := 2) C dL_areSuits_71 (by decide) ?_
          refine zicmp_eq (tgt := 84) C dL_areSuits_72 (by decide) (fun h72 => by first | exact absurd h72 (by decide) | exact absurd (by decide) h72) (fun h72 => ?_)
          refine zaload_n C dL_areSuits_75 rfl ?_
          refine ziload_n C dL_areSuits_76 rfl ?_
          refine zconst (v := 3) C dL_areSuits_77 (by decide) ?_
          refine zcallVX C (K_ofSuit _ _ hp hok.1) hy_X7_ofSuit hv_X7_ofSuit hl_L_60 hp.main rfl rfl rfl rfl (by decide) (by decide) (by omega) (by omega) rfl (by exact Nat.le_of_ble_eq_true rfl) dL_areSuits_78 (fun E M1 hx => absurd (xof_ok hs (by omega) (by decide)) (exI hx.1)) (fun v M1 hv => ?_)
          obtain ⟨-, rfl, rfl⟩ := hv
          rw [as3 hs31, how0 (by rw [hq]; decide)]
          refine zif_ne_f (tgt := 127) C dL_areSuits_81 (by decide) (by decide) ?_
          refine zfor [true, true, true, true, false, false] rfl ?_
          exact k84 _ _ (by omega) (by omega)
      · rcases hq with hq | hq
        · refine ziload C dL_areSuits_39 rfl ?_
          rw [hj]
          refine zif_lt_t (tgt := 48) C dL_areSuits_41 (by decide) (by decide) ?_
          refine zconst (v := 0) C dL_areSuits_48 (by decide) ?_
          refine ziload C dL_areSuits_49 rfl ?_
          rw [hq]
          refine zconst (v := 1) C dL_areSuits_51 (by decide) ?_
          refine zicmp_le (tgt := 59) C dL_areSuits_52 (by decide) (fun h52 => ?_) (fun h52 => by first | exact absurd (by decide) h52 | exact absurd h52 (by decide))
          refine zconst (v := 0) C dL_areSuits_59 (by decide) ?_
          refine zicmp_ne (tgt := 127) C dL_areSuits_60 (by decide) (fun h60 => by first | exact absurd h60 (by decide) | exact absurd (by decide) h60) (fun h60 => ?_)
          refine ziload C dL_areSuits_63 rfl ?_
          refine ziload_n C dL_areSuits_65 rfl ?_
          refine zicmp_gt (tgt := 127) C dL_areSuits_66 (by decide) (fun h66 => by first | exact absurd h66 (by rw [Int32.lt_iff_toInt_lt, nI_toInt (by omega)]; exact Int.not_lt.mpr (by show (-1 : Int) ≤ _; omega)) | exact absurd (by rw [Int32.lt_iff_toInt_lt, nI_toInt (by omega)]; exact Int.not_lt.mpr (by show (-1 : Int) ≤ _; omega)) h66) (fun h66 => ?_)
          refine ziload C dL_areSuits_69 rfl ?_
          refine zconst (v := 2) C dL_areSuits_71 (by decide) ?_
          refine zicmp_eq (tgt := 84) C dL_areSuits_72 (by decide) (fun h72 => by first | exact absurd h72 (by decide) | exact absurd (by decide) h72) (fun h72 => ?_)
          refine zaload_n C dL_areSuits_75 rfl ?_
          refine ziload_n C dL_areSuits_76 rfl ?_
          refine zconst (v := 3) C dL_areSuits_77 (by decide) ?_
          refine zcallVX C (K_ofSuit _ _ hp hok.1) hy_X7_ofSuit hv_X7_ofSuit hl_L_60 hp.main rfl rfl rfl rfl (by decide) (by decide) (by omega) (by omega) rfl (by exact Nat.le_of_ble_eq_true rfl) dL_areSuits_78 (fun E M1 hx => absurd (xof_ok hs (by omega) (by decide)) (exI hx.1)) (fun v M1 hv => ?_)
          obtain ⟨-, rfl, rfl⟩ := hv
          rw [as3 hs31, how0 (by rw [hq]; decide)]
          refine zif_ne_f (tgt := 127) C dL_areSuits_81 (by decide) (by decide) ?_
          refine zfor [true, true, true, true, false, false] rfl ?_
          exact k84 _ _ (by omega) (by omega)
        · refine ziload C dL_areSuits_39 rfl ?_
          rw [hj]
          refine zif_lt_t (tgt := 48) C dL_areSuits_41 (by decide) (by decide) ?_
          refine zconst (v := 0) C dL_areSuits_48 (by decide) ?_
          refine ziload C dL_areSuits_49 rfl ?_
          rw [hq]
          refine zconst (v := 1) C dL_areSuits_51 (by decide) ?_
          refine zicmp_le (tgt := 59) C dL_areSuits_52 (by decide) (fun h52 => ?_) (fun h52 => by first | exact absurd (by decide) h52 | exact absurd h52 (by decide))
          refine zconst (v := 0) C dL_areSuits_59 (by decide) ?_
          refine zicmp_ne (tgt := 127) C dL_areSuits_60 (by decide) (fun h60 => by first | exact absurd h60 (by decide) | exact absurd (by decide) h60) (fun h60 => ?_)
          refine ziload C dL_areSuits_63 rfl ?_
          refine ziload_n C dL_areSuits_65 rfl ?_
          refine zicmp_gt (tgt := 127) C dL_areSuits_66 (by decide) (fun h66 => by first | exact absurd h66 (by rw [Int32.lt_iff_toInt_lt, nI_toInt (by omega)]; exact Int.not_lt.mpr (by show (-1 : Int) ≤ _; omega)) | exact absurd (by rw [Int32.lt_iff_toInt_lt, nI_toInt (by omega)]; exact Int.not_lt.mpr (by show (-1 : Int) ≤ _; omega)) h66) (fun h66 => ?_)
          refine ziload C dL_areSuits_69 rfl ?_
          refine zconst (v := 2) C dL_areSuits_71 (by decide) ?_
          refine zicmp_eq (tgt := 84) C dL_areSuits_72 (by decide) (fun h72 => by first | exact absurd h72 (by decide) | exact absurd (by decide) h72) (fun h72 => ?_)
          refine zaload_n C dL_areSuits_75 rfl ?_
          refine ziload_n C dL_areSuits_76 rfl ?_
          refine zconst (v := 3) C dL_areSuits_77 (by decide) ?_
          refine zcallVX C (K_ofSuit _ _ hp hok.1) hy_X7_ofSuit hv_X7_ofSuit hl_L_60 hp.main rfl rfl rfl rfl (by decide) (by decide) (by omega) (by omega) rfl (by exact Nat.le_of_ble_eq_true rfl) dL_areSuits_78 (fun E M1 hx => absurd (xof_ok hs (by omega) (by decide)) (exI hx.1)) (fun v M1 hv => ?_)
          obtain ⟨-, rfl, rfl⟩ := hv
          rw [as3 hs31, how0 (by rw [hq]; decide)]
          refine zif_ne_f (tgt := 127) C dL_areSuits_81 (by decide) (by decide) ?_
          refine zfor [true, true, true, true, false, false] rfl ?_
          exact k84 _ _ (by omega) (by omega)
  refine zconst (v := 1) C dL_areSuits_0 (by decide) ?_
  refine zistore_n (L1 := [_, _, _, _, _, _]) C dL_areSuits_1 rfl (Nat.le_of_ble_eq_true rfl) ?_
  refine zconst (v := 0) C dL_areSuits_2 (by decide) ?_
  refine zistore_n (L1 := [_, _, _, _, _, _]) C dL_areSuits_3 rfl (Nat.le_of_ble_eq_true rfl) ?_
  exact main (K.1 33) 0 (by omega) _ _ (by omega) (by omega)
