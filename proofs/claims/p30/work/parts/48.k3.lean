def fthR (x f1 f2 : Int32) : Int32 := if x = 0 then f1 else if x = 1 then f2 else if x = 2 then (if f1 = f2 then f1 else -1) else -1
/-- whose court it is -/
def crtF (K : zK) (f d : Int32) : Int32 := if f = -1 then -1 else if recK K f.toNatClampNeg d = 0 then -1 else f
def crtK (K : zK) (m p q : Nat) (d : Int32) : Int32 := crtF K (fthR (ruleK K m d) (faithK K p d) (faithK K q d)) d
/-- faiths are communities' numbers -/
def iFa (K : zK) : Prop := ∀ p i, p < K.1 13 → i ≤ (kch K (100 + p)).2.1 → ∃ c, c < K.1 2 ∧ (kch K (100 + p)).2.2.2 i = nI c
theorem chOn_some {fd fn : Nat → Int32} {d : Int32} {P : Int32 → Prop} : ∀ k, (∀ i, i ≤ k → P (fn i)) → P (chOn fd fn d k)
  | 0, h => h 0 (Nat.le_refl _)
  | k + 1, h => by
    unfold chOn
    split
    · exact h (k + 1) (Nat.le_refl _)
    · exact chOn_some k (fun i hi => h i (by omega))
theorem faithK_c {K : zK} (hf : iFa K) {p : Nat} (hp : p < K.1 13) (d : Int32) : ∃ c, c < K.1 2 ∧ faithK K p d = nI c := chOn_some (P := fun x => ∃ c, c < K.1 2 ∧ x = nI c) _ (fun i hi => hf p i hp hi)
theorem newK_c {K : zK} (hf : iFa K) {p : Nat} (hp : p < K.1 13) : ∃ c, c < K.1 2 ∧ newK K p = nI c := hf p _ hp (Nat.le_refl _)
theorem fthR_c {K : zK} (hf : iFa K) {p q : Nat} (hp : p < K.1 13) (hq : q < K.1 13) (x d : Int32) : fthR x (faithK K p d) (faithK K q d) = -1 ∨ ∃ c, c < K.1 2 ∧ fthR x (faithK K p d) (faithK K q d) = nI c := by
  unfold fthR
  split
  · exact Or.inr (faithK_c hf hp d)
  · split
    · exact Or.inr (faithK_c hf hq d)
    · split
      · split
        · exact Or.inr (faithK_c hf hp d)
        · exact Or.inl rfl
      · exact Or.inl rfl
theorem crtK_c {K : zK} (hf : iFa K) {p q : Nat} (hp : p < K.1 13) (hq : q < K.1 13) (m : Nat) (d : Int32) : ∃ l, l ≤ K.1 2 ∧ crtK K m p q d = lcode l := by
  unfold crtK crtF
  rcases fthR_c hf hp hq (ruleK K m d) d with h | ⟨c, hc, h⟩
  · exact ⟨0, Nat.zero_le _, by rw [if_pos h]; rfl⟩
  · split
    · exact ⟨0, Nat.zero_le _, rfl⟩
    · split
      · exact ⟨0, Nat.zero_le _, rfl⟩
      · exact ⟨c + 1, hc, by rw [h, lcode, if_neg (by omega)]; rfl⟩
set_option maxRecDepth 100000 in
set_option maxHeartbeats 1000000 in
theorem k_communityAt {g : zGh} {K : zK} {X : zg → Option va_E} {ad : zg → Nat} {M : zM} (n : Int32) (hp : zP g K X ad M) (h2 : K.1 2 ≤ 6) : zCt g yX7_communityAt cX7_communityAt 2 (some (.object "Milletcourt$Community")) 6 90 mkR [.ref (ad (0, 0)), .int n] M 1 6 (fun v M1 => (∃ j, j < K.1 2 ∧ n = nI j ∧ v = ad (9, j)) ∧ M1 = M) (fun E M1 => E = IOE ∧ zix n (K.1 2) = false ∧ M1 = M) := by
  refine zof [some (.ref (ad (0, 0))), some (.int n)] (by decide +kernel) rfl rfl (Nat.le_of_ble_eq_true rfl) ?_
  intro Z C hE hnm
  have C : zC g Z RX7 cX7_communityAt 2 6 90 1 6 := C
  refine ziload_n C dX7_communityAt_0 rfl ?_
  refine zif_lt (tgt := 15) C dX7_communityAt_1 (by decide) (fun h1 => ?_) (fun h1 => ?_)
  · exact zthrowW C hE ht_X7_397_399 rfl (by decide) (by decide) (by omega) (by omega) dX7_communityAt_15 dX7_communityAt_18 dX7_communityAt_19 dX7_communityAt_22 dX7_communityAt_25 ⟨rfl, zix_f1 h1, rfl⟩
  · refine ziload_n C dX7_communityAt_4 rfl ?_
    refine zaload_n C dX7_communityAt_5 rfl ?_
    refine zget C hf_X7_19 hp.main (by rfl) dX7_communityAt_6 ?_
    refine zcallV C (q_size (hp.lq0 (by omega))) hy_Jx4a65c_size_8abf5 hv_Jx4a65c_size_8abf5 hl_X7_58 (hp.lo0) rfl rfl rfl rfl (by decide) (by decide) (by omega) (by omega) rfl (by exact Nat.le_of_ble_eq_true rfl) dX7_communityAt_9 (fun v9 M hp9 => ?_)
    obtain ⟨rfl, rfl⟩ := hp9
    refine zicmp_lt (tgt := 26) C dX7_communityAt_12 (by decide) (fun h12 => ?_) (fun h12 => ?_)
    · obtain ⟨j, hj, rfl⟩ := zix_lt h1 h12 (by omega)
      refine zaload_n C dX7_communityAt_26 rfl ?_
      refine zget C hf_X7_19 hp.main (by rfl) dX7_communityAt_27 ?_
      refine ziload_n C dX7_communityAt_30 rfl ?_
      refine zcallV C (q_get j (hp.lq0 (by omega)) (show j < _ from hj)) hy_Jx4a65c_get_915e3 hv_Jx4a65c_get_915e3 hl_X7_384 (hp.lo0) rfl rfl rfl rfl (by decide) (by decide) (by omega) (by omega) rfl (by exact Nat.le_of_ble_eq_true rfl) dX7_communityAt_31 (fun v31 M hp31 => ?_)
      obtain ⟨rfl, rfl⟩ := hp31
      rw [if_pos (show j < _ from hj)]
      refine zcastS C (hp.com (c := j) (show j < _ from hj)) rfl hc_X7_69 dX7_communityAt_34 ?_
      exact zend_r C hE (by first | exact Or.inl ⟨_, rfl⟩ | exact Or.inr ⟨_, rfl⟩) dX7_communityAt_37 (by omega) (by omega) ⟨⟨j, hj, rfl, rfl⟩, rfl⟩
    · exact zthrowW C hE ht_X7_397_399 rfl (by decide) (by decide) (by omega) (by omega) dX7_communityAt_15 dX7_communityAt_18 dX7_communityAt_19 dX7_communityAt_22 dX7_communityAt_25 ⟨rfl, zix_f2 h12 (by omega), rfl⟩
set_option maxRecDepth 100000 in
set_option maxHeartbeats 1000000 in
theorem k_personAt {g : zGh} {K : zK} {X : zg → Option va_E} {ad : zg → Nat} {M : zM} (n : Int32) (hp : zP g K X ad M) (h13 : K.1 13 ≤ 40) : zCt g yX7_personAt cX7_personAt 2 (some (.object "Milletcourt$Person")) 6 90 mkR [.ref (ad (0, 0)), .int n] M 1 6 (fun v M1 => (∃ j, j < K.1 13 ∧ n = nI j ∧ v = ad (10, j)) ∧ M1 = M) (fun E M1 => E = IOE ∧ zix n (K.1 13) = false ∧ M1 = M) := by
  refine zof [some (.ref (ad (0, 0))), some (.int n)] (by decide +kernel) rfl rfl (Nat.le_of_ble_eq_true rfl) ?_
  intro Z C hE hnm
  have C : zC g Z RX7 cX7_personAt 2 6 90 1 6 := C
  refine ziload_n C dX7_personAt_0 rfl ?_
  refine zif_lt (tgt := 15) C dX7_personAt_1 (by decide) (fun h1 => ?_) (fun h1 => ?_)
  · exact zthrowW C hE ht_X7_403_399 rfl (by decide) (by decide) (by omega) (by omega) dX7_personAt_15 dX7_personAt_18 dX7_personAt_19 dX7_personAt_22 dX7_personAt_25 ⟨rfl, zix_f1 h1, rfl⟩
  · refine ziload_n C dX7_personAt_4 rfl ?_
    refine zaload_n C dX7_personAt_5 rfl ?_
    refine zget C hf_X7_35 hp.main (by rfl) dX7_personAt_6 ?_
    refine zcallV C (q_size (hp.lq1 (by omega))) hy_Jx4a65c_size_8abf5 hv_Jx4a65c_size_8abf5 hl_X7_58 (hp.lo1) rfl rfl rfl rfl (by decide) (by decide) (by omega) (by omega) rfl (by exact Nat.le_of_ble_eq_true rfl) dX7_personAt_9 (fun v9 M hp9 => ?_)
    obtain ⟨rfl, rfl⟩ := hp9
    refine zicmp_lt (tgt := 26) C dX7_personAt_12 (by decide) (fun h12 => ?_) (fun h12 => ?_)
    · obtain ⟨j, hj, rfl⟩ := zix_lt h1 h12 (by omega)
      refine zaload_n C dX7_personAt_26 rfl ?_
      refine zget C hf_X7_35 hp.main (by rfl) dX7_personAt_27 ?_
      refine ziload_n C dX7_personAt_30 rfl ?_
      refine zcallV C (q_get j (hp.lq1 (by omega)) (show j < _ from hj)) hy_Jx4a65c_get_915e3 hv_Jx4a65c_get_915e3 hl_X7_384 (hp.lo1) rfl rfl rfl rfl (by decide) (by decide) (by omega) (by omega) rfl (by exact Nat.le_of_ble_eq_true rfl) dX7_personAt_31 (fun v31 M hp31 => ?_)
      obtain ⟨rfl, rfl⟩ := hp31
      rw [if_pos (show j < _ from hj)]
      refine zcastS C (hp.per (p := j) (show j < _ from hj)) rfl hc_X7_128 dX7_personAt_34 ?_
      exact zend_r C hE (by first | exact Or.inl ⟨_, rfl⟩ | exact Or.inr ⟨_, rfl⟩) dX7_personAt_37 (by omega) (by omega) ⟨⟨j, hj, rfl, rfl⟩, rfl⟩
    · exact zthrowW C hE ht_X7_403_399 rfl (by decide) (by decide) (by omega) (by omega) dX7_personAt_15 dX7_personAt_18 dX7_personAt_19 dX7_personAt_22 dX7_personAt_25 ⟨rfl, zix_f2 h12 (by omega), rfl⟩
set_option maxRecDepth 100000 in
set_option maxHeartbeats 1000000 in
theorem k_marriageAt {g : zGh} {K : zK} {X : zg → Option va_E} {ad : zg → Nat} {M : zM} (n : Int32) (hp : zP g K X ad M) (h25 : K.1 25 ≤ 30) : zCt g yX7_marriageAt cX7_marriageAt 2 (some (.object "Milletcourt$Marriage")) 6 90 mkR [.ref (ad (0, 0)), .int n] M 1 6 (fun v M1 => (∃ j, j < K.1 25 ∧ n = nI j ∧ v = ad (11, j)) ∧ M1 = M) (fun E M1 => E = IOE ∧ zix n (K.1 25) = false ∧ M1 = M) := by
  refine zof [some (.ref (ad (0, 0))), some (.int n)] (by decide +kernel) rfl rfl (Nat.le_of_ble_eq_true rfl) ?_
  intro Z C hE hnm
  have C : zC g Z RX7 cX7_marriageAt 2 6 90 1 6 := C
  refine ziload_n C dX7_marriageAt_0 rfl ?_
  refine zif_lt (tgt := 15) C dX7_marriageAt_1 (by decide) (fun h1 => ?_) (fun h1 => ?_)
  · exact zthrowW C hE ht_X7_405_399 rfl (by decide) (by decide) (by omega) (by omega) dX7_marriageAt_15 dX7_marriageAt_18 dX7_marriageAt_19 dX7_marriageAt_22 dX7_marriageAt_25 ⟨rfl, zix_f1 h1, rfl⟩
  · refine ziload_n C dX7_marriageAt_4 rfl ?_
    refine zaload_n C dX7_marriageAt_5 rfl ?_
    refine zget C hf_X7_38 hp.main (by rfl) dX7_marriageAt_6 ?_
    refine zcallV C (q_size (hp.lq2 (by omega))) hy_Jx4a65c_size_8abf5 hv_Jx4a65c_size_8abf5 hl_X7_58 (hp.lo2) rfl rfl rfl rfl (by decide) (by decide) (by omega) (by omega) rfl (by exact Nat.le_of_ble_eq_true rfl) dX7_marriageAt_9 (fun v9 M hp9 => ?_)
    obtain ⟨rfl, rfl⟩ := hp9
    refine zicmp_lt (tgt := 26) C dX7_marriageAt_12 (by decide) (fun h12 => ?_) (fun h12 => ?_)
    · obtain ⟨j, hj, rfl⟩ := zix_lt h1 h12 (by omega)
      refine zaload_n C dX7_marriageAt_26 rfl ?_
      refine zget C hf_X7_38 hp.main (by rfl) dX7_marriageAt_27 ?_
      refine ziload_n C dX7_marriageAt_30 rfl ?_
      refine zcallV C (q_get j (hp.lq2 (by omega)) (show j < _ from hj)) hy_Jx4a65c_get_915e3 hv_Jx4a65c_get_915e3 hl_X7_384 (hp.lo2) rfl rfl rfl rfl (by decide) (by decide) (by omega) (by omega) rfl (by exact Nat.le_of_ble_eq_true rfl) dX7_marriageAt_31 (fun v31 M hp31 => ?_)
      obtain ⟨rfl, rfl⟩ := hp31
      rw [if_pos (show j < _ from hj)]
      refine zcastS C (hp.mar (m := j) (show j < _ from hj)) rfl hc_X7_217 dX7_marriageAt_34 ?_
      exact zend_r C hE (by first | exact Or.inl ⟨_, rfl⟩ | exact Or.inr ⟨_, rfl⟩) dX7_marriageAt_37 (by omega) (by omega) ⟨⟨j, hj, rfl, rfl⟩, rfl⟩
    · exact zthrowW C hE ht_X7_405_399 rfl (by decide) (by decide) (by omega) (by omega) dX7_marriageAt_15 dX7_marriageAt_18 dX7_marriageAt_19 dX7_marriageAt_22 dX7_marriageAt_25 ⟨rfl, zix_f2 h12 (by omega), rfl⟩
set_option maxRecDepth 100000 in
set_option maxHeartbeats 1000000 in
theorem k_suitAt {g : zGh} {K : zK} {X : zg → Option va_E} {ad : zg → Nat} {M : zM} (n : Int32) (hp : zP g K X ad M) (h33 : K.1 33 ≤ 20) : zCt g yX7_suitAt cX7_suitAt 2 (some (.object "Milletcourt$Suit")) 6 90 mkR [.ref (ad (0, 0)), .int n] M 1 6 (fun v M1 => (∃ j, j < K.1 33 ∧ n = nI j ∧ v = ad (12, j)) ∧ M1 = M) (fun E M1 => E = IOE ∧ zix n (K.1 33) = false ∧ M1 = M) := by
  refine zof [some (.ref (ad (0, 0))), some (.int n)] (by decide +kernel) rfl rfl (Nat.le_of_ble_eq_true rfl) ?_
  intro Z C hE hnm
  have C : zC g Z RX7 cX7_suitAt 2 6 90 1 6 := C
  refine ziload_n C dX7_suitAt_0 rfl ?_
  refine zif_lt (tgt := 15) C dX7_suitAt_1 (by decide) (fun h1 => ?_) (fun h1 => ?_)
  · exact zthrowW C hE ht_X7_407_399 rfl (by decide) (by decide) (by omega) (by omega) dX7_suitAt_15 dX7_suitAt_18 dX7_suitAt_19 dX7_suitAt_22 dX7_suitAt_25 ⟨rfl, zix_f1 h1, rfl⟩
  · refine ziload_n C dX7_suitAt_4 rfl ?_
    refine zaload_n C dX7_suitAt_5 rfl ?_
    refine zget C hf_X7_41 hp.main (by rfl) dX7_suitAt_6 ?_
    refine zcallV C (q_size (hp.lq3 (by omega))) hy_Jx4a65c_size_8abf5 hv_Jx4a65c_size_8abf5 hl_X7_58 (hp.lo3) rfl rfl rfl rfl (by decide) (by decide) (by omega) (by omega) rfl (by exact Nat.le_of_ble_eq_true rfl) dX7_suitAt_9 (fun v9 M hp9 => ?_)
    obtain ⟨rfl, rfl⟩ := hp9
    refine zicmp_lt (tgt := 26) C dX7_suitAt_12 (by decide) (fun h12 => ?_) (fun h12 => ?_)
    · obtain ⟨j, hj, rfl⟩ := zix_lt h1 h12 (by omega)
      refine zaload_n C dX7_suitAt_26 rfl ?_
      refine zget C hf_X7_41 hp.main (by rfl) dX7_suitAt_27 ?_
      refine ziload_n C dX7_suitAt_30 rfl ?_
      refine zcallV C (q_get j (hp.lq3 (by omega)) (show j < _ from hj)) hy_Jx4a65c_get_915e3 hv_Jx4a65c_get_915e3 hl_X7_384 (hp.lo3) rfl rfl rfl rfl (by decide) (by decide) (by omega) (by omega) rfl (by exact Nat.le_of_ble_eq_true rfl) dX7_suitAt_31 (fun v31 M hp31 => ?_)
      obtain ⟨rfl, rfl⟩ := hp31
      rw [if_pos (show j < _ from hj)]
      refine zcastS C (hp.sui (s := j) (show j < _ from hj)) rfl hc_X7_280 dX7_suitAt_34 ?_
      exact zend_r C hE (by first | exact Or.inl ⟨_, rfl⟩ | exact Or.inr ⟨_, rfl⟩) dX7_suitAt_37 (by omega) (by omega) ⟨⟨j, hj, rfl, rfl⟩, rfl⟩
    · exact zthrowW C hE ht_X7_407_399 rfl (by decide) (by decide) (by omega) (by omega) dX7_suitAt_15 dX7_suitAt_18 dX7_suitAt_19 dX7_suitAt_22 dX7_suitAt_25 ⟨rfl, zix_f2 h12 (by omega), rfl⟩
set_option maxRecDepth 100000 in
set_option maxHeartbeats 1000000 in
theorem k_lawAt {g : zGh} {K : zK} {X : zg → Option va_E} {ad : zg → Nat} {M : zM} (n : Int32) (hp : zP g K X ad M) (h2 : K.1 2 ≤ 6) : zCt g yX7_lawAt cX7_lawAt 2 (some (.object "Milletcourt$Law")) 7 111 mkR [.ref (ad (0, 0)), .int n] M 1 6 (fun v M1 => (∃ l, l ≤ K.1 2 ∧ n = lcode l ∧ v = ad (1, l)) ∧ M1 = M) (fun E M1 => E = IOE ∧ (decide (n = -1) || zix n (K.1 2)) = false ∧ M1 = M) := by
  refine zof [some (.ref (ad (0, 0))), some (.int n)] (by decide +kernel) rfl rfl (Nat.le_of_ble_eq_true rfl) ?_
  intro Z C hE hnm
  have C : zC g Z RX7 cX7_lawAt 2 7 111 1 6 := C
  refine ziload_n C dX7_lawAt_0 rfl ?_
  refine zconst (v := -1) C dX7_lawAt_1 (by decide) ?_
  refine zicmp_ne (tgt := 12) C dX7_lawAt_2 (by decide) (fun h2_ => ?_) (fun h2_ => ?_)
  · refine zaload_n C dX7_lawAt_12 rfl ?_
    refine ziload_n C dX7_lawAt_13 rfl ?_
    refine zcallVX C (k_communityAt n hp h2) hy_X7_communityAt hv_X7_communityAt hl_X7_78 hp.main rfl rfl rfl rfl (by decide) (by decide) (by omega) (by omega) rfl (by exact Nat.le_of_ble_eq_true rfl) dX7_lawAt_14 (fun E M1 hx => zout C hE (by omega) (by omega) (by obtain ⟨a, b, c⟩ := hx; exact ⟨a, by rw [b, decide_eq_false h2_]; rfl, c⟩)) (fun v14 M hp14 => ?_)
    obtain ⟨⟨j, hj, rfl, rfl⟩, rfl⟩ := hp14
    refine zget C hf_X7_400 (hp.com (c := j) hj) (by rfl) dX7_lawAt_17 ?_
    exact zend_r C hE (by first | exact Or.inl ⟨_, rfl⟩ | exact Or.inr ⟨_, rfl⟩) dX7_lawAt_20 (by omega) (by omega) ⟨⟨j + 1, hj, by rw [lcode, if_neg (by omega)]; rfl, rfl⟩, rfl⟩
  · subst h2_
    refine zaload_n C dX7_lawAt_5 rfl ?_
    refine zget C hf_X7_10 hp.main (by rfl) dX7_lawAt_6 ?_
    refine zgoto (tgt := 20) C dX7_lawAt_9 (by decide) ?_
    exact zend_r C hE (by first | exact Or.inl ⟨_, rfl⟩ | exact Or.inr ⟨_, rfl⟩) dX7_lawAt_20 (by omega) (by omega) ⟨⟨0, Nat.zero_le _, rfl, rfl⟩, rfl⟩
set_option maxRecDepth 100000 in
set_option maxHeartbeats 1000000 in
theorem k_personOrNullAt {g : zGh} {K : zK} {X : zg → Option va_E} {ad : zg → Nat} {M : zM} (n : Int32) (hp : zP g K X ad M) (h13 : K.1 13 ≤ 40) : zCt g yX7_personOrNullAt cX7_personOrNullAt 2 (some (.object "Milletcourt$Person")) 7 111 (fun r => some (va_rf r)) [.ref (ad (0, 0)), .int n] M 1 6 (fun v M1 => (∃ r : Option Nat, (∀ j, r = some j → j < K.1 13) ∧ n = ocode r ∧ v = r.map fun q => ad (10, q)) ∧ M1 = M) (fun E M1 => E = IOE ∧ (decide (n = -1) || zix n (K.1 13)) = false ∧ M1 = M) := by
  refine zof [some (.ref (ad (0, 0))), some (.int n)] (by decide +kernel) rfl rfl (Nat.le_of_ble_eq_true rfl) ?_
  intro Z C hE hnm
  have C : zC g Z RX7 cX7_personOrNullAt 2 7 111 1 6 := C
  refine ziload_n C dX7_personOrNullAt_0 rfl ?_
  refine zconst (v := -1) C dX7_personOrNullAt_1 (by decide) ?_
  refine zicmp_ne (tgt := 9) C dX7_personOrNullAt_2 (by decide) (fun h2_ => ?_) (fun h2_ => ?_)
  · refine zaload_n C dX7_personOrNullAt_9 rfl ?_
    refine ziload_n C dX7_personOrNullAt_10 rfl ?_
    refine zcallVX C (k_personAt n hp h13) hy_X7_personAt hv_X7_personAt hl_X7_123 hp.main rfl rfl rfl rfl (by decide) (by decide) (by omega) (by omega) rfl (by exact Nat.le_of_ble_eq_true rfl) dX7_personOrNullAt_11 (fun E M1 hx => zout C hE (by omega) (by omega) (by obtain ⟨a, b, c⟩ := hx; exact ⟨a, by rw [b, decide_eq_false h2_]; rfl, c⟩)) (fun v11 M hp11 => ?_)
    obtain ⟨⟨j, hj, rfl, rfl⟩, rfl⟩ := hp11
    exact zend_q (v := (some j : Option Nat).map fun q => ad (10, q)) C hE rfl (by first | exact Or.inl ⟨_, rfl⟩ | exact Or.inr ⟨_, rfl⟩) dX7_personOrNullAt_14 (by omega) (by omega) ⟨⟨some j, (by intro i hi; cases hi; exact hj), rfl, rfl⟩, rfl⟩
  · subst h2_
    refine znull C dX7_personOrNullAt_5 ?_
    refine zgoto (tgt := 14) C dX7_personOrNullAt_6 (by decide) ?_
    exact zend_q (v := (none : Option Nat).map fun q => ad (10, q)) C hE rfl (by first | exact Or.inl ⟨_, rfl⟩ | exact Or.inr ⟨_, rfl⟩) dX7_personOrNullAt_14 (by omega) (by omega) ⟨⟨none, (by intro i hi; cases hi), rfl, rfl⟩, rfl⟩
set_option maxRecDepth 100000 in
set_option maxHeartbeats 1000000 in
theorem k_courtOf {g : zGh} {K : zK} {X : zg → Option va_E} {ad : zg → Nat} {M : zM} (m : Nat) (x d : Int32) (hx : x = nI m) (hm : m < 4) {p q : Nat} (hpn : p < K.1 13) (hqn : q < K.1 13) (hp : zP g K X ad M) (h2 : K.1 2 ≤ 6) (hch : iCh K) (hf : iFa K) : zCt g yX7_courtOf cX7_courtOf 6 (some .int) 7 111 mkI [.ref (ad (0, 0)), .int x, .ref (ad (10, p)), .ref (ad (10, q)), .int d] M 1 6 (fun v M1 => v = crtK K m p q d ∧ M1 = M) noX := by
  refine zof [some (.ref (ad (0, 0))), some (.int x), some (.ref (ad (10, p))), some (.ref (ad (10, q))), some (.int d), none] (by decide +kernel) rfl rfl (Nat.le_of_ble_eq_true rfl) ?_
  intro Z C hE hnm
  have C : zC g Z RX7 cX7_courtOf 6 7 111 1 6 := C
  have hfc := fthR_c hf hpn hqn (ruleK K m d) d
  refine zaload_n C dX7_courtOf_0 rfl ?_
  refine zget C hf_X7_31 hp.main (by rfl) dX7_courtOf_1 ?_
  refine ziload_n C dX7_courtOf_4 rfl ?_
  refine zrcald (i0 := m) C hp.rul hx hm (by decide) dX7_courtOf_5 ?_
  rw [if_pos (show m < 4 from hm)]
  refine ziload C dX7_courtOf_6 rfl ?_
  refine zcallV C (c_numberOn _ (hp.chr (i := m) (Or.inl (by omega)) (hch _))) hy_X0_numberOn hv_X0_numberOn hl_X7_201 (hp.chr (i := m) (Or.inl (by omega)) (hch _)).1 rfl rfl rfl rfl (by decide) (by decide) (by omega) (by omega) rfl (by exact Nat.le_of_ble_eq_true rfl) dX7_courtOf_8 (fun v8 M hp8 => ?_)
  obtain ⟨rfl, rfl⟩ := hp8
  refine zaload_n C dX7_courtOf_11 rfl ?_
  refine zget C hf_X7_198 (hp.per (p := p) hpn) (by rfl) dX7_courtOf_12 ?_
  refine ziload C dX7_courtOf_15 rfl ?_
  refine zcallV C (c_numberOn _ (hp.chr (i := 100 + p) (chA_per hpn) (hch _))) hy_X0_numberOn hv_X0_numberOn hl_X7_201 (hp.chr (i := 100 + p) (chA_per hpn) (hch _)).1 rfl rfl rfl rfl (by decide) (by decide) (by omega) (by omega) rfl (by exact Nat.le_of_ble_eq_true rfl) dX7_courtOf_17 (fun v17 M hp17 => ?_)
  obtain ⟨rfl, rfl⟩ := hp17
  refine zaload_n C dX7_courtOf_20 rfl ?_
  refine zget C hf_X7_198 (hp.per (p := q) hqn) (by rfl) dX7_courtOf_21 ?_
  refine ziload C dX7_courtOf_24 rfl ?_
  refine zcallV C (c_numberOn _ (hp.chr (i := 100 + q) (chA_per hqn) (hch _))) hy_X0_numberOn hv_X0_numberOn hl_X7_201 (hp.chr (i := 100 + q) (chA_per hqn) (hch _)).1 rfl rfl rfl rfl (by decide) (by decide) (by omega) (by omega) rfl (by exact Nat.le_of_ble_eq_true rfl) dX7_courtOf_26 (fun v26 M hp26 => ?_)
  obtain ⟨rfl, rfl⟩ := hp26
  refine zcallS C (k_faithThatRules _ _ _) hy_X7_faithThatRules hst_X7_faithThatRules hl_X7_413 rfl rfl (by decide) (by decide) (by omega) (by omega) rfl (by exact Nat.le_of_ble_eq_true rfl) dX7_courtOf_29 (fun v29 M hp29 => ?_)
  obtain ⟨hv29, rfl⟩ := hp29
  replace hv29 : v29 = fthR (ruleK K m d) (faithK K p d) (faithK K q d) := hv29
  refine zistore (L1 := [_, _, _, _, _, _]) C dX7_courtOf_32 rfl (Nat.le_of_ble_eq_true rfl) ?_
  refine ziload C dX7_courtOf_34 rfl ?_
  refine zconst (v := -1) C dX7_courtOf_36 (by decide) ?_
  refine zicmp_eq (tgt := 57) C dX7_courtOf_37 (by decide) (fun h37 => ?_) (fun h37 => ?_)
  · refine zconst (v := -1) C dX7_courtOf_57 (by decide) ?_
    exact zend_i C hE dX7_courtOf_58 (by omega) (by omega) ⟨by rw [crtK, ← hv29, crtF, if_pos h37], rfl⟩
  · obtain ⟨c, hc, ec⟩ : ∃ c, c < K.1 2 ∧ v29 = nI c := by rw [hv29] at h37 ⊢; exact hfc.resolve_left h37
    refine zaload_n C dX7_courtOf_40 rfl ?_
    refine ziload C dX7_courtOf_41 rfl ?_
    refine zcallVX C (k_communityAt v29 hp h2) hy_X7_communityAt hv_X7_communityAt hl_X7_78 hp.main rfl rfl rfl rfl (by decide) (by decide) (by omega) (by omega) rfl (by exact Nat.le_of_ble_eq_true rfl) dX7_courtOf_43 (fun E M1 hx => absurd hx.2.1 (by rw [ec, zix_t hc (by omega)]; decide)) (fun v43 M hp43 => ?_)
    obtain ⟨⟨j, hj, e43, rfl⟩, rfl⟩ := hp43
    have ej : v29.toNatClampNeg = j := by rw [e43, nI_clamp (by omega)]
    refine zget C hf_X7_82 (hp.com (c := j) hj) (by rfl) dX7_courtOf_46 ?_
    refine ziload C dX7_courtOf_49 rfl ?_
    refine zcallV C (c_numberOn _ (hp.chr (i := rch j) (chA_rec hj) (hch _))) hy_X0_numberOn hv_X0_numberOn hl_X7_201 (hp.chr (i := rch j) (chA_rec hj) (hch _)).1 rfl rfl rfl rfl (by decide) (by decide) (by omega) (by omega) rfl (by exact Nat.le_of_ble_eq_true rfl) dX7_courtOf_51 (fun v51 M hp51 => ?_)
    obtain ⟨hv51, rfl⟩ := hp51
    replace hv51 : v51 = recK K v29.toNatClampNeg d := by rw [ej]; exact hv51
    refine zif_ne (tgt := 59) C dX7_courtOf_54 (by decide) (fun h54 => ?_) (fun h54 => ?_)
    · refine ziload C dX7_courtOf_59 rfl ?_
      exact zend_i C hE dX7_courtOf_61 (by omega) (by omega) ⟨by rw [crtK, ← hv29, crtF, if_neg h37, if_neg (by rw [← hv51]; exact h54)], rfl⟩
    · refine zconst (v := -1) C dX7_courtOf_57 (by decide) ?_
      exact zend_i C hE dX7_courtOf_58 (by omega) (by omega) ⟨by rw [crtK, ← hv29, crtF, if_neg h37, if_pos (by rw [← hv51]; exact h54)], rfl⟩
