theorem zsA_g (S : zS) (j : Nat) (f : Nat → Int32) (i : Nat) : (zsA S j f).2.2.1 i = if i = j then f else S.2.2.1 i := rfl
theorem zsA_1 (S : zS) (j : Nat) (f : Nat → Int32) : (zsA S j f).1 = S.1 := rfl
theorem zsA_c (S : zS) (j : Nat) (f : Nat → Int32) : (zsA S j f).2.1 = S.2.1 := rfl
theorem zsA_l (S : zS) (j : Nat) (f : Nat → Int32) : (zsA S j f).2.2.2 = S.2.2.2 := rfl
theorem zsN_g (S : zS) (j v : Nat) (i : Nat) : (zsN S j v).1 i = if i = j then v else S.1 i := rfl
theorem zsN_2 (S : zS) (j v : Nat) : (zsN S j v).2 = S.2 := rfl
theorem zsL_g (S : zS) (j : Nat) (f : Nat → Int64) (i : Nat) : (zsL S j f).2.2.2 i = if i = j then f else S.2.2.2 i := rfl
theorem zsL_1 (S : zS) (j : Nat) (f : Nat → Int64) : (zsL S j f).1 = S.1 := rfl
theorem zsL_c (S : zS) (j : Nat) (f : Nat → Int64) : (zsL S j f).2.1 = S.2.1 := rfl
theorem zsL_a (S : zS) (j : Nat) (f : Nat → Int64) : (zsL S j f).2.2.1 = S.2.2.1 := rfl
theorem zlt_f {x y : Int32} (h : y ≤ x) : decide (x < y) = false := decide_eq_false (by rw [Int32.lt_iff_toInt_lt]; rw [Int32.le_iff_toInt_le] at h; omega)
theorem zlt_t {x y : Int32} (h : ¬ y ≤ x) : decide (x < y) = true := decide_eq_true (by rw [Int32.lt_iff_toInt_lt]; rw [Int32.le_iff_toInt_le] at h; omega)
theorem z2 (x : Int32) : x + 2 = x + 1 + 1 := by rw [Int32.add_assoc]; rfl
theorem zdec (x : Int32) : x + (-1) = x - 1 := by rw [Int32.sub_eq_add_neg]
theorem zx_40 (s : Nat) : 40 * nI s = nI (40 * s) := by rw [show (40 : Int32) = nI 40 from rfl, pk_mul]
theorem zx_wt (s k : Nat) : 40 * nI s + nI k = nI (40 * s + k) := by rw [zx_40, nI_add]
/-- how many faiths a person has taken -/
def iT (S : zS) (p : Nat) : Prop := ∃ t, t < 1024 ∧ S.2.2.1 20 p = nI (t + 1)
theorem fT_eq {S : zS} {p t : Nat} (ht : t < 1024) (h : S.2.2.1 20 p = nI (t + 1)) : fT S p = t := by
  unfold fT
  rw [h, nI_pred, nI_clamp (by omega)]
theorem m_faithAt {g : zGh} {M0 : zM} {mo : Nat} {ad : Nat → Nat} {S : zS} (p : Nat) (d : Int32) (hp : p < 40) (h : iT S p) : zMc g M0 mo ad yX8_faithOn cX8_faithOn 4 (some .int) 0 0 mkI [.int (nI p), .int d] S (fun v S1 => v = faithAt S p d ∧ S1 = S) := by
  obtain ⟨t, h1, h2⟩ := h
  unfold faithAt
  rw [fT_eq h1 h2]
  exact m_faithOn p d t hp h1 h2
theorem wgt_le (r20 r21 r41 : Nat → Int32) (h td : Int32) (s k : Nat) : wgt r20 r21 r41 h td s k ≤ 2 := by
  unfold wgt
  split
  · omega
  · split <;> omega
theorem forL_le (r20 r21 r41 : Nat → Int32) (h td : Int32) (s : Nat) (how : Int32) : ∀ k, forL r20 r21 r41 h td s how k ≤ 2 * k
  | 0 => Nat.le_refl _
  | k + 1 => by
    have := forL_le r20 r21 r41 h td s how k
    have := wgt_le r20 r21 r41 h td s k
    unfold forL
    split <;> omega
set_option maxRecDepth 100000 in
set_option maxHeartbeats 1000000 in
theorem m_isMinor {g : zGh} {M0 : zM} {mo : Nat} {ad : Nat → Nat} {S : zS} (p : Nat) (hp : p < 40) : zMc g M0 mo ad yX8_isMinor cX8_isMinor 2 (some .boolean) 0 0 mkI [.int (nI p)] S (fun v S1 => v = b2i (isMinor S p) ∧ S1 = S) := by
  intro M hR
  refine zof [some (.ref mo), some (.int (nI p))] (by decide +kernel) rfl rfl (Nat.le_of_ble_eq_true rfl) ?_
  intro X C hE hnm
  have C : zC g X RX8 cX8_isMinor 2 0 0 0 0 := C
  refine zaload_n C dX8_isMinor_0 rfl ?_
  refine zmgi C hR hf_X8_154 rfl dX8_isMinor_1 ?_
  refine zaload_n C dX8_isMinor_4 rfl ?_
  refine zmga C hR hf_X8_44 rfl dX8_isMinor_5 ?_
  refine ziload_n C dX8_isMinor_8 rfl ?_
  refine zmia C hR rfl rfl rfl (show _ < 40 from by omega) dX8_isMinor_9 ?_
  refine zisub C dX8_isMinor_10 ?_
  refine zsipush (v := 5000) C dX8_isMinor_11 (by decide) ?_
  refine zicmp_ge (tgt := 21) C dX8_isMinor_14 (by decide) (fun h14 => ?_) (fun h14 => ?_)
  · replace h14 := zlt_f h14
    refine zconst (v := 0) C dX8_isMinor_21 (by decide) ?_
    exact zend_z C hE dX8_isMinor_22 (by omega) (by omega) (by first | exact Or.inl rfl | exact Or.inr rfl | exact b2i_b _) ⟨_, ⟨by simp [isMinor, b2i, h14], rfl⟩, hR⟩
  · replace h14 := zlt_t h14
    refine zconst (v := 1) C dX8_isMinor_17 (by decide) ?_
    refine zgoto (tgt := 22) C dX8_isMinor_18 (by decide) ?_
    exact zend_z C hE dX8_isMinor_22 (by omega) (by omega) (by first | exact Or.inl rfl | exact Or.inr rfl | exact b2i_b _) ⟨_, ⟨by simp [isMinor, b2i, h14], rfl⟩, hR⟩
set_option maxRecDepth 100000 in
set_option maxHeartbeats 1000000 in
theorem m_isGrown {g : zGh} {M0 : zM} {mo : Nat} {ad : Nat → Nat} {S : zS} (p : Nat) (hp : p < 40) : zMc g M0 mo ad yX8_isGrown cX8_isGrown 2 (some .boolean) 1 21 mkI [.int (nI p)] S (fun v S1 => v = b2i (isGrown S p) ∧ S1 = S) := by
  intro M hR
  refine zof [some (.ref mo), some (.int (nI p))] (by decide +kernel) rfl rfl (Nat.le_of_ble_eq_true rfl) ?_
  intro X C hE hnm
  have C : zC g X RX8 cX8_isGrown 2 1 21 0 0 := C
  refine zaload_n C dX8_isGrown_0 rfl ?_
  refine zmga C hR hf_X8_47 rfl dX8_isGrown_1 ?_
  refine ziload_n C dX8_isGrown_4 rfl ?_
  refine zmza C hR rfl rfl rfl (show _ < 40 from by omega) dX8_isGrown_5 ?_
  refine zif_ne (tgt := 21) C dX8_isGrown_6 (by decide) (fun h6 => ?_) (fun h6 => ?_)
  · refine zconst (v := 0) C dX8_isGrown_21 (by decide) ?_
    exact zend_z C hE dX8_isGrown_22 (by omega) (by omega) (by first | exact Or.inl rfl | exact Or.inr rfl | exact b2i_b _) ⟨_, ⟨by simp [isGrown, b2i, h6], rfl⟩, hR⟩
  · refine zaload_n C dX8_isGrown_9 rfl ?_
    refine ziload_n C dX8_isGrown_10 rfl ?_
    refine zcallV C (m_isMinor p hp M hR) hy_X8_isMinor hv_X8_isMinor hl_X8_202 hR.1 rfl rfl rfl rfl (by decide) (by decide) (by omega) (by omega) rfl (by exact Nat.le_of_ble_eq_true rfl) dX8_isGrown_11 (fun v11 M hp11 => ?_)
    obtain ⟨S1, ⟨rfl, hs⟩, hR⟩ := hp11
    rw [hs] at hR
    clear hs
    refine zif_ne (tgt := 21) C dX8_isGrown_14 (by decide) (fun h14 => ?_) (fun h14 => ?_)
    · replace h14 := b2i_n0.mp h14
      refine zconst (v := 0) C dX8_isGrown_21 (by decide) ?_
      exact zend_z C hE dX8_isGrown_22 (by omega) (by omega) (by first | exact Or.inl rfl | exact Or.inr rfl | exact b2i_b _) ⟨_, ⟨by simp [isGrown, b2i, h6, h14], rfl⟩, hR⟩
    · replace h14 := b2i_0.mp h14
      refine zconst (v := 1) C dX8_isGrown_17 (by decide) ?_
      refine zgoto (tgt := 22) C dX8_isGrown_18 (by decide) ?_
      exact zend_z C hE dX8_isGrown_22 (by omega) (by omega) (by first | exact Or.inl rfl | exact Or.inr rfl | exact b2i_b _) ⟨_, ⟨by simp [isGrown, b2i, h6, h14], rfl⟩, hR⟩
set_option maxRecDepth 100000 in
set_option maxHeartbeats 1000000 in
theorem m_canWitness {g : zGh} {M0 : zM} {mo : Nat} {ad : Nat → Nat} {S : zS} (p : Nat) (its : Int32) (hp : p < 40) (ht : iT S p) : zMc g M0 mo ad yX8_canWitness cX8_canWitness 3 (some .boolean) 2 42 mkI [.int (nI p), .int its] S (fun v S1 => v = b2i (canWit S p its) ∧ S1 = S) := by
  intro M hR
  refine zof [some (.ref mo), some (.int (nI p)), some (.int its)] (by decide +kernel) rfl rfl (Nat.le_of_ble_eq_true rfl) ?_
  intro X C hE hnm
  have C : zC g X RX8 cX8_canWitness 3 2 42 0 0 := C
  refine zaload_n C dX8_canWitness_0 rfl ?_
  refine ziload_n C dX8_canWitness_1 rfl ?_
  refine zcallV C (m_isGrown p hp M hR) hy_X8_isGrown hv_X8_isGrown hl_X8_205 hR.1 rfl rfl rfl rfl (by decide) (by decide) (by omega) (by omega) rfl (by exact Nat.le_of_ble_eq_true rfl) dX8_canWitness_2 (fun v2 M hp2 => ?_)
  obtain ⟨S1, ⟨rfl, hs⟩, hR⟩ := hp2
  rw [hs] at hR
  clear hs
  refine zif_eq (tgt := 25) C dX8_canWitness_5 (by decide) (fun h5 => ?_) (fun h5 => ?_)
  · replace h5 := b2i_0.mp h5
    refine zconst (v := 0) C dX8_canWitness_25 (by decide) ?_
    exact zend_z C hE dX8_canWitness_26 (by omega) (by omega) (by first | exact Or.inl rfl | exact Or.inr rfl | exact b2i_b _) ⟨_, ⟨by simp [canWit, b2i, h5], rfl⟩, hR⟩
  · replace h5 := b2i_n0.mp h5
    refine zaload_n C dX8_canWitness_8 rfl ?_
    refine ziload_n C dX8_canWitness_9 rfl ?_
    refine zaload_n C dX8_canWitness_10 rfl ?_
    refine zmgi C hR hf_X8_154 rfl dX8_canWitness_11 ?_
    refine zcallV C (m_faithAt p _ hp ht M hR) hy_X8_faithOn hv_X8_faithOn hl_X8_188 hR.1 rfl rfl rfl rfl (by decide) (by decide) (by omega) (by omega) rfl (by exact Nat.le_of_ble_eq_true rfl) dX8_canWitness_14 (fun v14 M hp14 => ?_)
    obtain ⟨S1, ⟨rfl, hs⟩, hR⟩ := hp14
    rw [hs] at hR
    clear hs
    refine ziload_n C dX8_canWitness_17 rfl ?_
    refine zicmp_ne (tgt := 25) C dX8_canWitness_18 (by decide) (fun h18 => ?_) (fun h18 => ?_)
    · refine zconst (v := 0) C dX8_canWitness_25 (by decide) ?_
      exact zend_z C hE dX8_canWitness_26 (by omega) (by omega) (by first | exact Or.inl rfl | exact Or.inr rfl | exact b2i_b _) ⟨_, ⟨by simp [canWit, b2i, h5, h18], rfl⟩, hR⟩
    · refine zconst (v := 1) C dX8_canWitness_21 (by decide) ?_
      refine zgoto (tgt := 26) C dX8_canWitness_22 (by decide) ?_
      exact zend_z C hE dX8_canWitness_26 (by omega) (by omega) (by first | exact Or.inl rfl | exact Or.inr rfl | exact b2i_b _) ⟨_, ⟨by simp [canWit, b2i, h5, h18], rfl⟩, hR⟩
set_option maxRecDepth 100000 in
set_option maxHeartbeats 1000000 in
theorem m_stays {g : zGh} {M0 : zM} {mo : Nat} {ad : Nat → Nat} {S : zS} (p : Nat) (hp : p < 40) : zMc g M0 mo ad yX8_stays cX8_stays 2 none 0 0 mkV [.int (nI p)] S (fun v S1 => S1 = staysS S p) := by
  intro M hR
  refine zof [some (.ref mo), some (.int (nI p))] (by decide +kernel) rfl rfl (Nat.le_of_ble_eq_true rfl) ?_
  intro X C hE hnm
  have C : zC g X RX8 cX8_stays 2 0 0 0 0 := C
  refine zaload_n C dX8_stays_0 rfl ?_
  refine zmga C hR hf_X8_61 rfl dX8_stays_1 ?_
  refine ziload_n C dX8_stays_4 rfl ?_
  refine zconst (v := -1) C dX8_stays_5 (by decide) ?_
  refine zmis C hR rfl rfl rfl (show _ < 40 from by omega) dX8_stays_6 (fun M hR => ?_)
  refine zaload_n C dX8_stays_7 rfl ?_
  refine zmga C hR hf_X8_64 rfl dX8_stays_8 ?_
  refine ziload_n C dX8_stays_11 rfl ?_
  refine zconst (v := -1) C dX8_stays_12 (by decide) ?_
  refine zmis C hR rfl rfl rfl (show _ < 40 from by omega) dX8_stays_13 (fun M hR => ?_)
  exact zend_v C hE dX8_stays_14 (by omega) (by omega) ⟨_, by simp [staysS, zsA_g], hR⟩
set_option maxRecDepth 100000 in
set_option maxHeartbeats 1000000 in
theorem m_takes {g : zGh} {M0 : zM} {mo : Nat} {ad : Nat → Nat} {S : zS} (p t : Nat) (its : Int32) (hp : p < 40) (ht : t < 1024) (htk : S.2.2.1 20 p = nI t) : zMc g M0 mo ad yX8_takes cX8_takes 3 none 0 0 mkV [.int (nI p), .int its] S (fun v S1 => S1 = takesS S p its) := by
  intro M hR
  refine zof [some (.ref mo), some (.int (nI p)), some (.int its)] (by decide +kernel) rfl rfl (Nat.le_of_ble_eq_true rfl) ?_
  intro X C hE hnm
  have C : zC g X RX8 cX8_takes 3 0 0 0 0 := C
  refine zaload_n C dX8_takes_0 rfl ?_
  refine zmga C hR hf_X8_58 rfl dX8_takes_1 ?_
  refine zsipush (v := 1024) C dX8_takes_4 (by decide) ?_
  refine ziload_n C dX8_takes_7 rfl ?_
  refine zimul C dX8_takes_8 ?_
  refine zaload_n C dX8_takes_9 rfl ?_
  refine zmga C hR hf_X8_54 rfl dX8_takes_10 ?_
  refine ziload_n C dX8_takes_13 rfl ?_
  refine zmia C hR rfl rfl rfl (show _ < 40 from by omega) dX8_takes_14 ?_
  rw [htk]
  refine ziadd C dX8_takes_15 ?_
  refine zbipush (v := 8) C dX8_takes_16 (by decide) ?_
  refine zaload_n C dX8_takes_18 rfl ?_
  refine zmgi C hR hf_X8_154 rfl dX8_takes_19 ?_
  refine zimul C dX8_takes_22 ?_
  refine ziload_n C dX8_takes_23 rfl ?_
  refine ziadd C dX8_takes_24 ?_
  refine zmis (i0 := 1024 * p + t) C hR rfl rfl (zx_tk p t) (show _ < 40960 from by omega) dX8_takes_25 (fun M hR => ?_)
  refine zaload_n C dX8_takes_26 rfl ?_
  refine zmga C hR hf_X8_54 rfl dX8_takes_27 ?_
  refine ziload_n C dX8_takes_30 rfl ?_
  refine zdup2_11 C dX8_takes_31 rfl rfl ?_
  refine zmia C hR rfl rfl rfl (show _ < 40 from by omega) dX8_takes_32 ?_
  refine zconst (v := 1) C dX8_takes_33 (by decide) ?_
  refine ziadd C dX8_takes_34 ?_
  refine zmis C hR rfl rfl rfl (show _ < 40 from by omega) dX8_takes_35 (fun M hR => ?_)
  exact zend_v C hE dX8_takes_36 (by omega) (by omega) ⟨_, by simp [takesS, zsA_g, htk, nI_clamp (show t < 2 ^ 31 by omega)], hR⟩
set_option maxRecDepth 100000 in
set_option maxHeartbeats 1000000 in
theorem m_isChild {g : zGh} {M0 : zM} {mo : Nat} {ad : Nat → Nat} {S : zS} (k : Nat) (p : Int32) (hk : k < 40) : zMc g M0 mo ad yX8_isChild cX8_isChild 3 (some .boolean) 0 0 mkI [.int (nI k), .int p] S (fun v S1 => v = b2i (isChild (S.2.2.1 15) (S.2.2.1 16) k p) ∧ S1 = S) := by
  intro M hR
  refine zof [some (.ref mo), some (.int (nI k)), some (.int p)] (by decide +kernel) rfl rfl (Nat.le_of_ble_eq_true rfl) ?_
  intro X C hE hnm
  have C : zC g X RX8 cX8_isChild 3 0 0 0 0 := C
  refine zaload_n C dX8_isChild_0 rfl ?_
  refine zmga C hR hf_X8_38 rfl dX8_isChild_1 ?_
  refine ziload_n C dX8_isChild_4 rfl ?_
  refine zmia C hR rfl rfl rfl (show _ < 40 from by omega) dX8_isChild_5 ?_
  refine ziload_n C dX8_isChild_6 rfl ?_
  refine zicmp_eq (tgt := 20) C dX8_isChild_7 (by decide) (fun h7 => ?_) (fun h7 => ?_)
  · refine zconst (v := 1) C dX8_isChild_20 (by decide) ?_
    refine zgoto (tgt := 25) C dX8_isChild_21 (by decide) ?_
    exact zend_z C hE dX8_isChild_25 (by omega) (by omega) (by first | exact Or.inl rfl | exact Or.inr rfl | exact b2i_b _) ⟨_, ⟨by simp [isChild, b2i, h7], rfl⟩, hR⟩
  · refine zaload_n C dX8_isChild_10 rfl ?_
    refine zmga C hR hf_X8_41 rfl dX8_isChild_11 ?_
    refine ziload_n C dX8_isChild_14 rfl ?_
    refine zmia C hR rfl rfl rfl (show _ < 40 from by omega) dX8_isChild_15 ?_
    refine ziload_n C dX8_isChild_16 rfl ?_
    refine zicmp_ne (tgt := 24) C dX8_isChild_17 (by decide) (fun h17 => ?_) (fun h17 => ?_)
    · refine zconst (v := 0) C dX8_isChild_24 (by decide) ?_
      exact zend_z C hE dX8_isChild_25 (by omega) (by omega) (by first | exact Or.inl rfl | exact Or.inr rfl | exact b2i_b _) ⟨_, ⟨by simp [isChild, b2i, h7, h17], rfl⟩, hR⟩
    · refine zconst (v := 1) C dX8_isChild_20 (by decide) ?_
      refine zgoto (tgt := 25) C dX8_isChild_21 (by decide) ?_
      exact zend_z C hE dX8_isChild_25 (by omega) (by omega) (by first | exact Or.inl rfl | exact Or.inr rfl | exact b2i_b _) ⟨_, ⟨by simp [isChild, b2i, h7, h17], rfl⟩, hR⟩
set_option maxRecDepth 100000 in
set_option maxHeartbeats 1000000 in
theorem m_lasting {g : zGh} {M0 : zM} {mo : Nat} {ad : Nat → Nat} {S : zS} (p : Int32) (hn : S.1 25 ≤ 30) : zMc g M0 mo ad yX8_lasting cX8_lasting 4 (some .int) 0 0 mkI [.int p] S (fun v S1 => v = nI (lasting S p) ∧ S1 = S) := by
  intro M hR
  refine zof [some (.ref mo), some (.int p), none, none] (by decide +kernel) rfl rfl (Nat.le_of_ble_eq_true rfl) ?_
  intro X C hE hnm
  have C : zC g X RX8 cX8_lasting 4 0 0 0 0 := C
  have loop : ∀ (r i : Nat), i + r = S.1 25 → ∀ M, zR g M0 mo ad S M → zG g X M 0 0 4 [some (.ref mo), some (.int p), some (.int (nI (lastL (S.2.2.1 26) (S.2.2.1 27) (S.2.2.1 28) p i))), some (.int (nI i))] [] := by
    intro r
    induction r with
    | zero =>
      intro i hi M hR
      refine ziload_n C dX8_lasting_4 rfl ?_
      refine zaload_n C dX8_lasting_5 rfl ?_
      refine zmgi C hR hf_X8_148 rfl dX8_lasting_6 ?_
      refine zicmp_ge (tgt := 55) C dX8_lasting_9 (by decide) (fun h9 => ?_) (fun h9 => absurd (nI_le (by omega) (by omega)) h9)
      refine ziload_n C dX8_lasting_55 rfl ?_
      exact zend_i C hE dX8_lasting_56 (by omega) (by omega) ⟨_, ⟨by rw [lasting, show S.1 25 = i by omega], rfl⟩, hR⟩
    | succ r ih =>
      intro i hi M hR
      refine ziload_n C dX8_lasting_4 rfl ?_
      refine zaload_n C dX8_lasting_5 rfl ?_
      refine zmgi C hR hf_X8_148 rfl dX8_lasting_6 ?_
      refine zicmp_ge (tgt := 55) C dX8_lasting_9 (by decide) (fun h9 => absurd h9 (nI_ge (by omega) (by omega))) (fun h9 => ?_)
      refine ziload_n C dX8_lasting_12 rfl ?_
      refine zaload_n C dX8_lasting_13 rfl ?_
      refine zmga C hR hf_X8_76 rfl dX8_lasting_14 ?_
      refine ziload_n C dX8_lasting_17 rfl ?_
      refine zmia C hR rfl rfl rfl (show _ < 30 from by omega) dX8_lasting_18 ?_
      refine zif_ne (tgt := 46) C dX8_lasting_19 (by decide) (fun h19 => ?_) (fun h19 => ?_)
      · refine zconst (v := 0) C dX8_lasting_46 (by decide) ?_
        refine ziadd C dX8_lasting_47 ?_
        refine zistore_n (L1 := [_, _, _, _]) C dX8_lasting_48 rfl (Nat.le_of_ble_eq_true rfl) ?_
        refine ziinc (L1 := [_, _, _, _]) (v := nI (i + 1)) C dX8_lasting_49 rfl (nI_1 i) rfl ?_
        refine zgoto (tgt := 4) C dX8_lasting_52 (by decide) ?_
        exact zcg (ih (i + 1) (by omega) M hR) (by simp [zk1, lastL, lastsFor, ← nI_1, h19])
      · refine zaload_n C dX8_lasting_22 rfl ?_
        refine zmga C hR hf_X8_70 rfl dX8_lasting_23 ?_
        refine ziload_n C dX8_lasting_26 rfl ?_
        refine zmia C hR rfl rfl rfl (show _ < 30 from by omega) dX8_lasting_27 ?_
        refine ziload_n C dX8_lasting_28 rfl ?_
        refine zicmp_eq (tgt := 42) C dX8_lasting_29 (by decide) (fun h29 => ?_) (fun h29 => ?_)
        · refine zconst (v := 1) C dX8_lasting_42 (by decide) ?_
          refine zgoto (tgt := 47) C dX8_lasting_43 (by decide) ?_
          refine ziadd C dX8_lasting_47 ?_
          refine zistore_n (L1 := [_, _, _, _]) C dX8_lasting_48 rfl (Nat.le_of_ble_eq_true rfl) ?_
          refine ziinc (L1 := [_, _, _, _]) (v := nI (i + 1)) C dX8_lasting_49 rfl (nI_1 i) rfl ?_
          refine zgoto (tgt := 4) C dX8_lasting_52 (by decide) ?_
          exact zcg (ih (i + 1) (by omega) M hR) (by simp [zk1, lastL, lastsFor, ← nI_1, h19, h29])
        · refine zaload_n C dX8_lasting_32 rfl ?_
          refine zmga C hR hf_X8_73 rfl dX8_lasting_33 ?_
          refine ziload_n C dX8_lasting_36 rfl ?_
          refine zmia C hR rfl rfl rfl (show _ < 30 from by omega) dX8_lasting_37 ?_
          refine ziload_n C dX8_lasting_38 rfl ?_
          refine zicmp_ne (tgt := 46) C dX8_lasting_39 (by decide) (fun h39 => ?_) (fun h39 => ?_)
          · refine zconst (v := 0) C dX8_lasting_46 (by decide) ?_
            refine ziadd C dX8_lasting_47 ?_
            refine zistore_n (L1 := [_, _, _, _]) C dX8_lasting_48 rfl (Nat.le_of_ble_eq_true rfl) ?_
            refine ziinc (L1 := [_, _, _, _]) (v := nI (i + 1)) C dX8_lasting_49 rfl (nI_1 i) rfl ?_
            refine zgoto (tgt := 4) C dX8_lasting_52 (by decide) ?_
            exact zcg (ih (i + 1) (by omega) M hR) (by simp [zk1, lastL, lastsFor, ← nI_1, h19, h29, h39])
          · refine zconst (v := 1) C dX8_lasting_42 (by decide) ?_
            refine zgoto (tgt := 47) C dX8_lasting_43 (by decide) ?_
            refine ziadd C dX8_lasting_47 ?_
            refine zistore_n (L1 := [_, _, _, _]) C dX8_lasting_48 rfl (Nat.le_of_ble_eq_true rfl) ?_
            refine ziinc (L1 := [_, _, _, _]) (v := nI (i + 1)) C dX8_lasting_49 rfl (nI_1 i) rfl ?_
            refine zgoto (tgt := 4) C dX8_lasting_52 (by decide) ?_
            exact zcg (ih (i + 1) (by omega) M hR) (by simp [zk1, lastL, lastsFor, ← nI_1, h19, h29, h39])
  refine zconst (v := 0) C dX8_lasting_0 (by decide) ?_
  refine zistore_n (L1 := [_, _, _, _]) C dX8_lasting_1 rfl (Nat.le_of_ble_eq_true rfl) ?_
  refine zconst (v := 0) C dX8_lasting_2 (by decide) ?_
  refine zistore_n (L1 := [_, _, _, _]) C dX8_lasting_3 rfl (Nat.le_of_ble_eq_true rfl) ?_
  exact loop (S.1 25) 0 (by omega) M hR
set_option maxRecDepth 100000 in
set_option maxHeartbeats 1000000 in
theorem m_units {g : zGh} {M0 : zM} {mo : Nat} {ad : Nat → Nat} {S : zS} (man : Nat) (hn : S.1 13 ≤ 40) : zMc g M0 mo ad yX8_units cX8_units 4 (some .int) 0 0 mkI [.int (nI man)] S (fun v S1 => v = nI (units S man) ∧ S1 = S) := by
  intro M hR
  refine zof [some (.ref mo), some (.int (nI man)), none, none] (by decide +kernel) rfl rfl (Nat.le_of_ble_eq_true rfl) ?_
  intro X C hE hnm
  have C : zC g X RX8 cX8_units 4 0 0 0 0 := C
  have loop : ∀ (r i : Nat), i + r = S.1 13 → ∀ M, zR g M0 mo ad S M → zG g X M 0 0 4 [some (.ref mo), some (.int (nI man)), some (.int (nI (unitsL (S.2.2.1 14) (S.2.2.1 47) man i))), some (.int (nI i))] [] := by
    intro r
    induction r with
    | zero =>
      intro i hi M hR
      refine ziload_n C dX8_units_4 rfl ?_
      refine zaload_n C dX8_units_5 rfl ?_
      refine zmgi C hR hf_X8_145 rfl dX8_units_6 ?_
      refine zicmp_ge (tgt := 48) C dX8_units_9 (by decide) (fun h9 => ?_) (fun h9 => absurd (nI_le (by omega) (by omega)) h9)
      refine ziload_n C dX8_units_48 rfl ?_
      exact zend_i C hE dX8_units_49 (by omega) (by omega) ⟨_, ⟨by rw [units, show S.1 13 = i by omega], rfl⟩, hR⟩
    | succ r ih =>
      intro i hi M hR
      refine ziload_n C dX8_units_4 rfl ?_
      refine zaload_n C dX8_units_5 rfl ?_
      refine zmgi C hR hf_X8_145 rfl dX8_units_6 ?_
      refine zicmp_ge (tgt := 48) C dX8_units_9 (by decide) (fun h9 => absurd h9 (nI_ge (by omega) (by omega))) (fun h9 => ?_)
      refine ziload_n C dX8_units_12 rfl ?_
      refine zaload_n C dX8_units_13 rfl ?_
      refine zmga C hR hf_X8_127 rfl dX8_units_14 ?_
      refine ziload_n C dX8_units_17 rfl ?_
      refine zmza C hR rfl rfl rfl (show _ < 40 from by omega) dX8_units_18 ?_
      refine zif_ne (tgt := 26) C dX8_units_19 (by decide) (fun h19 => ?_) (fun h19 => ?_)
      · refine zaload_n C dX8_units_26 rfl ?_
        refine zmga C hR hf_X8_34 rfl dX8_units_27 ?_
        refine ziload_n C dX8_units_30 rfl ?_
        refine zmza C hR rfl rfl rfl (show _ < 40 from by omega) dX8_units_31 ?_
        refine zif_eq (tgt := 39) C dX8_units_32 (by decide) (fun h32 => ?_) (fun h32 => ?_)
        · refine zconst (v := 1) C dX8_units_39 (by decide) ?_
          refine ziadd C dX8_units_40 ?_
          refine zistore_n (L1 := [_, _, _, _]) C dX8_units_41 rfl (Nat.le_of_ble_eq_true rfl) ?_
          refine ziinc (L1 := [_, _, _, _]) (v := nI (i + 1)) C dX8_units_42 rfl (nI_1 i) rfl ?_
          refine zgoto (tgt := 4) C dX8_units_45 (by decide) ?_
          exact zcg (ih (i + 1) (by omega) M hR) (by simp [zk1, unitsL, nI_add, nI_0, ← nI_1, h19, h32])
        · refine ziload_n C dX8_units_35 rfl ?_
          refine zgoto (tgt := 40) C dX8_units_36 (by decide) ?_
          refine ziadd C dX8_units_40 ?_
          refine zistore_n (L1 := [_, _, _, _]) C dX8_units_41 rfl (Nat.le_of_ble_eq_true rfl) ?_
          refine ziinc (L1 := [_, _, _, _]) (v := nI (i + 1)) C dX8_units_42 rfl (nI_1 i) rfl ?_
          refine zgoto (tgt := 4) C dX8_units_45 (by decide) ?_
          exact zcg (ih (i + 1) (by omega) M hR) (by simp [zk1, unitsL, nI_add, nI_0, ← nI_1, h19, h32])
      · refine zconst (v := 0) C dX8_units_22 (by decide) ?_
        refine zgoto (tgt := 40) C dX8_units_23 (by decide) ?_
        refine ziadd C dX8_units_40 ?_
        refine zistore_n (L1 := [_, _, _, _]) C dX8_units_41 rfl (Nat.le_of_ble_eq_true rfl) ?_
        refine ziinc (L1 := [_, _, _, _]) (v := nI (i + 1)) C dX8_units_42 rfl (nI_1 i) rfl ?_
        refine zgoto (tgt := 4) C dX8_units_45 (by decide) ?_
        exact zcg (ih (i + 1) (by omega) M hR) (by simp [zk1, unitsL, nI_add, nI_0, ← nI_1, h19])
  refine zconst (v := 0) C dX8_units_0 (by decide) ?_
  refine zistore_n (L1 := [_, _, _, _]) C dX8_units_1 rfl (Nat.le_of_ble_eq_true rfl) ?_
  refine zconst (v := 0) C dX8_units_2 (by decide) ?_
  refine zistore_n (L1 := [_, _, _, _]) C dX8_units_3 rfl (Nat.le_of_ble_eq_true rfl) ?_
  exact loop (S.1 13) 0 (by omega) M hR
set_option maxRecDepth 100000 in
set_option maxHeartbeats 1000000 in
theorem m_children {g : zGh} {M0 : zM} {mo : Nat} {ad : Nat → Nat} {S : zS} (p : Int32) (hn : S.1 13 ≤ 40) : zMc g M0 mo ad yX8_children cX8_children 4 (some .int) 1 22 mkI [.int p] S (fun v S1 => v = nI (kids S p) ∧ S1 = S) := by
  intro M hR
  refine zof [some (.ref mo), some (.int p), none, none] (by decide +kernel) rfl rfl (Nat.le_of_ble_eq_true rfl) ?_
  intro X C hE hnm
  have C : zC g X RX8 cX8_children 4 1 22 0 0 := C
  have loop : ∀ (r i : Nat), i + r = S.1 13 → ∀ M, zR g M0 mo ad S M → zG g X M 0 0 4 [some (.ref mo), some (.int p), some (.int (nI (kidsL (S.2.2.1 15) (S.2.2.1 16) (S.2.2.1 18) p i))), some (.int (nI i))] [] := by
    intro r
    induction r with
    | zero =>
      intro i hi M hR
      refine ziload_n C dX8_children_4 rfl ?_
      refine zaload_n C dX8_children_5 rfl ?_
      refine zmgi C hR hf_X8_145 rfl dX8_children_6 ?_
      refine zicmp_ge (tgt := 44) C dX8_children_9 (by decide) (fun h9 => ?_) (fun h9 => absurd (nI_le (by omega) (by omega)) h9)
      refine ziload_n C dX8_children_44 rfl ?_
      exact zend_i C hE dX8_children_45 (by omega) (by omega) ⟨_, ⟨by rw [kids, show S.1 13 = i by omega], rfl⟩, hR⟩
    | succ r ih =>
      intro i hi M hR
      refine ziload_n C dX8_children_4 rfl ?_
      refine zaload_n C dX8_children_5 rfl ?_
      refine zmgi C hR hf_X8_145 rfl dX8_children_6 ?_
      refine zicmp_ge (tgt := 44) C dX8_children_9 (by decide) (fun h9 => absurd h9 (nI_ge (by omega) (by omega))) (fun h9 => ?_)
      refine ziload_n C dX8_children_12 rfl ?_
      refine zaload_n C dX8_children_13 rfl ?_
      refine ziload_n C dX8_children_14 rfl ?_
      refine ziload_n C dX8_children_15 rfl ?_
      refine zcallV C (m_isChild i p (by omega) M hR) hy_X8_isChild hv_X8_isChild hl_X8_248 hR.1 rfl rfl rfl rfl (by decide) (by decide) (by omega) (by omega) rfl (by exact Nat.le_of_ble_eq_true rfl) dX8_children_16 (fun v16 M hp16 => ?_)
      obtain ⟨S1, ⟨rfl, hs⟩, hR⟩ := hp16
      rw [hs] at hR
      clear hs
      refine zif_eq (tgt := 35) C dX8_children_19 (by decide) (fun h19 => ?_) (fun h19 => ?_)
      · replace h19 := b2i_0.mp h19
        refine zconst (v := 0) C dX8_children_35 (by decide) ?_
        refine ziadd C dX8_children_36 ?_
        refine zistore_n (L1 := [_, _, _, _]) C dX8_children_37 rfl (Nat.le_of_ble_eq_true rfl) ?_
        refine ziinc (L1 := [_, _, _, _]) (v := nI (i + 1)) C dX8_children_38 rfl (nI_1 i) rfl ?_
        refine zgoto (tgt := 4) C dX8_children_41 (by decide) ?_
        exact zcg (ih (i + 1) (by omega) M hR) (by simp [zk1, kidsL, ← nI_1, h19])
      · replace h19 := b2i_n0.mp h19
        refine zaload_n C dX8_children_22 rfl ?_
        refine zmga C hR hf_X8_47 rfl dX8_children_23 ?_
        refine ziload_n C dX8_children_26 rfl ?_
        refine zmza C hR rfl rfl rfl (show _ < 40 from by omega) dX8_children_27 ?_
        refine zif_ne (tgt := 35) C dX8_children_28 (by decide) (fun h28 => ?_) (fun h28 => ?_)
        · refine zconst (v := 0) C dX8_children_35 (by decide) ?_
          refine ziadd C dX8_children_36 ?_
          refine zistore_n (L1 := [_, _, _, _]) C dX8_children_37 rfl (Nat.le_of_ble_eq_true rfl) ?_
          refine ziinc (L1 := [_, _, _, _]) (v := nI (i + 1)) C dX8_children_38 rfl (nI_1 i) rfl ?_
          refine zgoto (tgt := 4) C dX8_children_41 (by decide) ?_
          exact zcg (ih (i + 1) (by omega) M hR) (by simp [zk1, kidsL, ← nI_1, h19, h28])
        · refine zconst (v := 1) C dX8_children_31 (by decide) ?_
          refine zgoto (tgt := 36) C dX8_children_32 (by decide) ?_
          refine ziadd C dX8_children_36 ?_
          refine zistore_n (L1 := [_, _, _, _]) C dX8_children_37 rfl (Nat.le_of_ble_eq_true rfl) ?_
          refine ziinc (L1 := [_, _, _, _]) (v := nI (i + 1)) C dX8_children_38 rfl (nI_1 i) rfl ?_
          refine zgoto (tgt := 4) C dX8_children_41 (by decide) ?_
          exact zcg (ih (i + 1) (by omega) M hR) (by simp [zk1, kidsL, ← nI_1, h19, h28])
  refine zconst (v := 0) C dX8_children_0 (by decide) ?_
  refine zistore_n (L1 := [_, _, _, _]) C dX8_children_1 rfl (Nat.le_of_ble_eq_true rfl) ?_
  refine zconst (v := 0) C dX8_children_2 (by decide) ?_
  refine zistore_n (L1 := [_, _, _, _]) C dX8_children_3 rfl (Nat.le_of_ble_eq_true rfl) ?_
  exact loop (S.1 13) 0 (by omega) M hR
set_option maxRecDepth 100000 in
set_option maxHeartbeats 1000000 in
theorem m_lowestThatGets {g : zGh} {M0 : zM} {mo : Nat} {ad : Nat → Nat} {S : zS}  (hn : S.1 13 ≤ 40) : zMc g M0 mo ad yX8_lowestThatGets cX8_lowestThatGets 3 (some .int) 0 0 mkI [] S (fun v S1 => v = lowest S ∧ S1 = S) := by
  intro M hR
  refine zof [some (.ref mo), none, none] (by decide +kernel) rfl rfl (Nat.le_of_ble_eq_true rfl) ?_
  intro X C hE hnm
  have C : zC g X RX8 cX8_lowestThatGets 3 0 0 0 0 := C
  have loop : ∀ (i : Nat), i ≤ S.1 13 → zG g X M 0 0 9 [some (.ref mo), some (.int (lowL (S.2.2.1 47) (S.1 13) (S.1 13 - i))), some (.int (nI i - 1))] [] := by
    intro i
    induction i with
    | zero =>
      intro hi
      refine ziload_n C dX8_lowestThatGets_9 rfl ?_
      refine zif_lt_t (tgt := 34) C dX8_lowestThatGets_10 (by decide) (by decide) ?_
      refine ziload_n C dX8_lowestThatGets_34 rfl ?_
      exact zend_i C hE dX8_lowestThatGets_35 (by omega) (by omega) ⟨_, ⟨rfl, rfl⟩, hR⟩
    | succ i ih =>
      intro hi
      rw [nI_pred]
      refine ziload_n C dX8_lowestThatGets_9 rfl ?_
      refine zif_lt_f (tgt := 34) C dX8_lowestThatGets_10 (by decide) (nI_pos (by omega)) ?_
      refine zaload_n C dX8_lowestThatGets_13 rfl ?_
      refine zmga C hR hf_X8_127 rfl dX8_lowestThatGets_14 ?_
      refine ziload_n C dX8_lowestThatGets_17 rfl ?_
      refine zmza C hR rfl rfl rfl (show _ < 40 from by omega) dX8_lowestThatGets_18 ?_
      refine zif_eq (tgt := 26) C dX8_lowestThatGets_19 (by decide) (fun h19 => ?_) (fun h19 => ?_)
      · refine ziload_n C dX8_lowestThatGets_26 rfl ?_
        refine zistore_n (L1 := [_, _, _]) C dX8_lowestThatGets_27 rfl (Nat.le_of_ble_eq_true rfl) ?_
        refine ziinc (L1 := [_, _, _]) (v := nI i - 1) C dX8_lowestThatGets_28 rfl (zdec (nI i)) rfl ?_
        refine zgoto (tgt := 9) C dX8_lowestThatGets_31 (by decide) ?_
        exact zcg (ih (by omega)) (by rw [show S.1 13 - i = (S.1 13 - (i + 1)) + 1 by omega]; simp [lowL, zk1, show S.1 13 - (S.1 13 - (i + 1) + 1) = i by omega, h19])
      · refine ziload_n C dX8_lowestThatGets_22 rfl ?_
        refine zgoto (tgt := 27) C dX8_lowestThatGets_23 (by decide) ?_
        refine zistore_n (L1 := [_, _, _]) C dX8_lowestThatGets_27 rfl (Nat.le_of_ble_eq_true rfl) ?_
        refine ziinc (L1 := [_, _, _]) (v := nI i - 1) C dX8_lowestThatGets_28 rfl (zdec (nI i)) rfl ?_
        refine zgoto (tgt := 9) C dX8_lowestThatGets_31 (by decide) ?_
        exact zcg (ih (by omega)) (by rw [show S.1 13 - i = (S.1 13 - (i + 1)) + 1 by omega]; simp [lowL, zk1, show S.1 13 - (S.1 13 - (i + 1) + 1) = i by omega, h19])
  refine zconst (v := -1) C dX8_lowestThatGets_0 (by decide) ?_
  refine zistore_n (L1 := [_, _, _]) C dX8_lowestThatGets_1 rfl (Nat.le_of_ble_eq_true rfl) ?_
  refine zaload_n C dX8_lowestThatGets_2 rfl ?_
  refine zmgi C hR hf_X8_145 rfl dX8_lowestThatGets_3 ?_
  refine zconst (v := 1) C dX8_lowestThatGets_6 (by decide) ?_
  refine zisub C dX8_lowestThatGets_7 ?_
  refine zistore_n (L1 := [_, _, _]) C dX8_lowestThatGets_8 rfl (Nat.le_of_ble_eq_true rfl) ?_
  exact zcg (loop (S.1 13) (Nat.le_refl _)) (by rw [Nat.sub_self]; rfl)
set_option maxRecDepth 100000 in
set_option maxHeartbeats 1000000 in
theorem m_lowestMarriage {g : zGh} {M0 : zM} {mo : Nat} {ad : Nat → Nat} {S : zS} (p : Int32) (hn : S.1 25 ≤ 30) : zMc g M0 mo ad yX8_lowestMarriage cX8_lowestMarriage 4 (some .int) 0 0 mkI [.int p] S (fun v S1 => v = lowestMarriage S p ∧ S1 = S) := by
  intro M hR
  refine zof [some (.ref mo), some (.int p), none, none] (by decide +kernel) rfl rfl (Nat.le_of_ble_eq_true rfl) ?_
  intro X C hE hnm
  have C : zC g X RX8 cX8_lowestMarriage 4 0 0 0 0 := C
  have loop : ∀ (i : Nat), i ≤ S.1 25 → zG g X M 0 0 9 [some (.ref mo), some (.int p), some (.int (lowM (S.2.2.1 26) (S.2.2.1 27) (S.2.2.1 28) p (S.1 25) (S.1 25 - i))), some (.int (nI i - 1))] [] := by
    intro i
    induction i with
    | zero =>
      intro hi
      refine ziload_n C dX8_lowestMarriage_9 rfl ?_
      refine zif_lt_t (tgt := 54) C dX8_lowestMarriage_10 (by decide) (by decide) ?_
      refine ziload_n C dX8_lowestMarriage_54 rfl ?_
      exact zend_i C hE dX8_lowestMarriage_55 (by omega) (by omega) ⟨_, ⟨rfl, rfl⟩, hR⟩
    | succ i ih =>
      intro hi
      rw [nI_pred]
      refine ziload_n C dX8_lowestMarriage_9 rfl ?_
      refine zif_lt_f (tgt := 54) C dX8_lowestMarriage_10 (by decide) (nI_pos (by omega)) ?_
      refine zaload_n C dX8_lowestMarriage_13 rfl ?_
      refine zmga C hR hf_X8_76 rfl dX8_lowestMarriage_14 ?_
      refine ziload_n C dX8_lowestMarriage_17 rfl ?_
      refine zmia C hR rfl rfl rfl (show _ < 30 from by omega) dX8_lowestMarriage_18 ?_
      refine zif_ne (tgt := 46) C dX8_lowestMarriage_19 (by decide) (fun h19 => ?_) (fun h19 => ?_)
      · refine ziload_n C dX8_lowestMarriage_46 rfl ?_
        refine zistore_n (L1 := [_, _, _, _]) C dX8_lowestMarriage_47 rfl (Nat.le_of_ble_eq_true rfl) ?_
        refine ziinc (L1 := [_, _, _, _]) (v := nI i - 1) C dX8_lowestMarriage_48 rfl (zdec (nI i)) rfl ?_
        refine zgoto (tgt := 9) C dX8_lowestMarriage_51 (by decide) ?_
        exact zcg (ih (by omega)) (by rw [show S.1 25 - i = (S.1 25 - (i + 1)) + 1 by omega]; simp [lowM, zk1, lastsFor, show S.1 25 - (S.1 25 - (i + 1) + 1) = i by omega, h19])
      · refine zaload_n C dX8_lowestMarriage_22 rfl ?_
        refine zmga C hR hf_X8_70 rfl dX8_lowestMarriage_23 ?_
        refine ziload_n C dX8_lowestMarriage_26 rfl ?_
        refine zmia C hR rfl rfl rfl (show _ < 30 from by omega) dX8_lowestMarriage_27 ?_
        refine ziload_n C dX8_lowestMarriage_28 rfl ?_
        refine zicmp_eq (tgt := 42) C dX8_lowestMarriage_29 (by decide) (fun h29 => ?_) (fun h29 => ?_)
        · refine ziload_n C dX8_lowestMarriage_42 rfl ?_
          refine zgoto (tgt := 47) C dX8_lowestMarriage_43 (by decide) ?_
          refine zistore_n (L1 := [_, _, _, _]) C dX8_lowestMarriage_47 rfl (Nat.le_of_ble_eq_true rfl) ?_
          refine ziinc (L1 := [_, _, _, _]) (v := nI i - 1) C dX8_lowestMarriage_48 rfl (zdec (nI i)) rfl ?_
          refine zgoto (tgt := 9) C dX8_lowestMarriage_51 (by decide) ?_
          exact zcg (ih (by omega)) (by rw [show S.1 25 - i = (S.1 25 - (i + 1)) + 1 by omega]; simp [lowM, zk1, lastsFor, show S.1 25 - (S.1 25 - (i + 1) + 1) = i by omega, h19, h29])
        · refine zaload_n C dX8_lowestMarriage_32 rfl ?_
          refine zmga C hR hf_X8_73 rfl dX8_lowestMarriage_33 ?_
          refine ziload_n C dX8_lowestMarriage_36 rfl ?_
          refine zmia C hR rfl rfl rfl (show _ < 30 from by omega) dX8_lowestMarriage_37 ?_
          refine ziload_n C dX8_lowestMarriage_38 rfl ?_
          refine zicmp_ne (tgt := 46) C dX8_lowestMarriage_39 (by decide) (fun h39 => ?_) (fun h39 => ?_)
          · refine ziload_n C dX8_lowestMarriage_46 rfl ?_
            refine zistore_n (L1 := [_, _, _, _]) C dX8_lowestMarriage_47 rfl (Nat.le_of_ble_eq_true rfl) ?_
            refine ziinc (L1 := [_, _, _, _]) (v := nI i - 1) C dX8_lowestMarriage_48 rfl (zdec (nI i)) rfl ?_
            refine zgoto (tgt := 9) C dX8_lowestMarriage_51 (by decide) ?_
            exact zcg (ih (by omega)) (by rw [show S.1 25 - i = (S.1 25 - (i + 1)) + 1 by omega]; simp [lowM, zk1, lastsFor, show S.1 25 - (S.1 25 - (i + 1) + 1) = i by omega, h19, h29, h39])
          · refine ziload_n C dX8_lowestMarriage_42 rfl ?_
            refine zgoto (tgt := 47) C dX8_lowestMarriage_43 (by decide) ?_
            refine zistore_n (L1 := [_, _, _, _]) C dX8_lowestMarriage_47 rfl (Nat.le_of_ble_eq_true rfl) ?_
            refine ziinc (L1 := [_, _, _, _]) (v := nI i - 1) C dX8_lowestMarriage_48 rfl (zdec (nI i)) rfl ?_
            refine zgoto (tgt := 9) C dX8_lowestMarriage_51 (by decide) ?_
            exact zcg (ih (by omega)) (by rw [show S.1 25 - i = (S.1 25 - (i + 1)) + 1 by omega]; simp [lowM, zk1, lastsFor, show S.1 25 - (S.1 25 - (i + 1) + 1) = i by omega, h19, h29, h39])
  refine zconst (v := -1) C dX8_lowestMarriage_0 (by decide) ?_
  refine zistore_n (L1 := [_, _, _, _]) C dX8_lowestMarriage_1 rfl (Nat.le_of_ble_eq_true rfl) ?_
  refine zaload_n C dX8_lowestMarriage_2 rfl ?_
  refine zmgi C hR hf_X8_148 rfl dX8_lowestMarriage_3 ?_
  refine zconst (v := 1) C dX8_lowestMarriage_6 (by decide) ?_
  refine zisub C dX8_lowestMarriage_7 ?_
  refine zistore_n (L1 := [_, _, _, _]) C dX8_lowestMarriage_8 rfl (Nat.le_of_ble_eq_true rfl) ?_
  exact zcg (loop (S.1 25) (Nat.le_refl _)) (by rw [Nat.sub_self]; rfl)
set_option maxRecDepth 100000 in
set_option maxHeartbeats 1000000 in
theorem m_isBarred {g : zGh} {M0 : zM} {mo : Nat} {ad : Nat → Nat} {S : zS} (p q : Nat) (bars : Bool) (hp : p < 40) (hq : q < 40) (ht : iT S p) (hs : iT S q) : zMc g M0 mo ad yX8_isBarred cX8_isBarred 4 (some .boolean) 1 23 mkI [.int (nI p), .int (nI q), .int (b2i bars)] S (fun v S1 => v = b2i (isBarred S p q bars) ∧ S1 = S) := by
  intro M hR
  refine zof [some (.ref mo), some (.int (nI p)), some (.int (nI q)), some (.int (b2i bars))] (by decide +kernel) rfl rfl (Nat.le_of_ble_eq_true rfl) ?_
  intro X C hE hnm
  have C : zC g X RX8 cX8_isBarred 4 1 23 0 0 := C
  refine ziload_n C dX8_isBarred_0 rfl ?_
  refine zif_eq (tgt := 29) C dX8_isBarred_1 (by decide) (fun h1 => ?_) (fun h1 => ?_)
  · replace h1 := b2i_0.mp h1
    refine zconst (v := 0) C dX8_isBarred_29 (by decide) ?_
    exact zend_z C hE dX8_isBarred_30 (by omega) (by omega) (by first | exact Or.inl rfl | exact Or.inr rfl | exact b2i_b _) ⟨_, ⟨by simp [isBarred, b2i, h1], rfl⟩, hR⟩
  · replace h1 := b2i_n0.mp h1
    refine zaload_n C dX8_isBarred_4 rfl ?_
    refine ziload_n C dX8_isBarred_5 rfl ?_
    refine zaload_n C dX8_isBarred_6 rfl ?_
    refine zmgi C hR hf_X8_154 rfl dX8_isBarred_7 ?_
    refine zcallV C (m_faithAt p _ hp ht M hR) hy_X8_faithOn hv_X8_faithOn hl_X8_188 hR.1 rfl rfl rfl rfl (by decide) (by decide) (by omega) (by omega) rfl (by exact Nat.le_of_ble_eq_true rfl) dX8_isBarred_10 (fun v10 M hp10 => ?_)
    obtain ⟨S1, ⟨rfl, hs⟩, hR⟩ := hp10
    rw [hs] at hR
    clear hs
    refine zaload_n C dX8_isBarred_13 rfl ?_
    refine ziload_n C dX8_isBarred_14 rfl ?_
    refine zaload_n C dX8_isBarred_15 rfl ?_
    refine zmgi C hR hf_X8_154 rfl dX8_isBarred_16 ?_
    refine zcallV C (m_faithAt q _ hq hs M hR) hy_X8_faithOn hv_X8_faithOn hl_X8_188 hR.1 rfl rfl rfl rfl (by decide) (by decide) (by omega) (by omega) rfl (by exact Nat.le_of_ble_eq_true rfl) dX8_isBarred_19 (fun v19 M hp19 => ?_)
    obtain ⟨S1, ⟨rfl, hs⟩, hR⟩ := hp19
    rw [hs] at hR
    clear hs
    refine zicmp_eq (tgt := 29) C dX8_isBarred_22 (by decide) (fun h22 => ?_) (fun h22 => ?_)
    · refine zconst (v := 0) C dX8_isBarred_29 (by decide) ?_
      exact zend_z C hE dX8_isBarred_30 (by omega) (by omega) (by first | exact Or.inl rfl | exact Or.inr rfl | exact b2i_b _) ⟨_, ⟨by simp [isBarred, b2i, h1, h22], rfl⟩, hR⟩
    · refine zconst (v := 1) C dX8_isBarred_25 (by decide) ?_
      refine zgoto (tgt := 30) C dX8_isBarred_26 (by decide) ?_
      exact zend_z C hE dX8_isBarred_30 (by omega) (by omega) (by first | exact Or.inl rfl | exact Or.inr rfl | exact b2i_b _) ⟨_, ⟨by simp [isBarred, b2i, h1, h22], rfl⟩, hR⟩
set_option maxRecDepth 100000 in
set_option maxHeartbeats 1000000 in
theorem m_canJudge {g : zGh} {M0 : zM} {mo : Nat} {ad : Nat → Nat} {S : zS} (s : Nat) (hs : s < 20) : zMc g M0 mo ad yX8_canJudge cX8_canJudge 2 (some .boolean) 0 0 mkI [.int (nI s)] S (fun v S1 => v = b2i (canJudge S s) ∧ S1 = S) := by
  intro M hR
  refine zof [some (.ref mo), some (.int (nI s))] (by decide +kernel) rfl rfl (Nat.le_of_ble_eq_true rfl) ?_
  intro X C hE hnm
  have C : zC g X RX8 cX8_canJudge 2 0 0 0 0 := C
  refine zaload_n C dX8_canJudge_0 rfl ?_
  refine zmga C hR hf_X8_109 rfl dX8_canJudge_1 ?_
  refine ziload_n C dX8_canJudge_4 rfl ?_
  refine zmza C hR rfl rfl rfl (show _ < 20 from by omega) dX8_canJudge_5 ?_
  refine zif_ne (tgt := 18) C dX8_canJudge_6 (by decide) (fun h6 => ?_) (fun h6 => ?_)
  · refine zconst (v := 1) C dX8_canJudge_18 (by decide) ?_
    refine zgoto (tgt := 23) C dX8_canJudge_19 (by decide) ?_
    exact zend_z C hE dX8_canJudge_23 (by omega) (by omega) (by first | exact Or.inl rfl | exact Or.inr rfl | exact b2i_b _) ⟨_, ⟨by simp [canJudge, b2i, h6], rfl⟩, hR⟩
  · refine zaload_n C dX8_canJudge_9 rfl ?_
    refine zmga C hR hf_X8_103 rfl dX8_canJudge_10 ?_
    refine ziload_n C dX8_canJudge_13 rfl ?_
    refine zmza C hR rfl rfl rfl (show _ < 20 from by omega) dX8_canJudge_14 ?_
    refine zif_eq (tgt := 22) C dX8_canJudge_15 (by decide) (fun h15 => ?_) (fun h15 => ?_)
    · refine zconst (v := 0) C dX8_canJudge_22 (by decide) ?_
      exact zend_z C hE dX8_canJudge_23 (by omega) (by omega) (by first | exact Or.inl rfl | exact Or.inr rfl | exact b2i_b _) ⟨_, ⟨by simp [canJudge, b2i, h6, h15], rfl⟩, hR⟩
    · refine zconst (v := 1) C dX8_canJudge_18 (by decide) ?_
      refine zgoto (tgt := 23) C dX8_canJudge_19 (by decide) ?_
      exact zend_z C hE dX8_canJudge_23 (by omega) (by omega) (by first | exact Or.inl rfl | exact Or.inr rfl | exact b2i_b _) ⟨_, ⟨by simp [canJudge, b2i, h6, h15], rfl⟩, hR⟩
set_option maxRecDepth 100000 in
set_option maxHeartbeats 1000000 in
theorem m_canTestify {g : zGh} {M0 : zM} {mo : Nat} {ad : Nat → Nat} {S : zS} (s p : Nat) (hs : s < 20) (hp : p < 40) : zMc g M0 mo ad yX8_canTestify cX8_canTestify 3 (some .boolean) 2 42 mkI [.int (nI s), .int (nI p)] S (fun v S1 => v = b2i (canTest S s p) ∧ S1 = S) := by
  intro M hR
  refine zof [some (.ref mo), some (.int (nI s)), some (.int (nI p))] (by decide +kernel) rfl rfl (Nat.le_of_ble_eq_true rfl) ?_
  intro X C hE hnm
  have C : zC g X RX8 cX8_canTestify 3 2 42 0 0 := C
  refine zaload_n C dX8_canTestify_0 rfl ?_
  refine zmga C hR hf_X8_106 rfl dX8_canTestify_1 ?_
  refine ziload_n C dX8_canTestify_4 rfl ?_
  refine zmia C hR rfl rfl rfl (show _ < 20 from by omega) dX8_canTestify_5 ?_
  refine zif_ne (tgt := 55) C dX8_canTestify_6 (by decide) (fun h6 => ?_) (fun h6 => ?_)
  · refine zconst (v := 0) C dX8_canTestify_55 (by decide) ?_
    exact zend_z C hE dX8_canTestify_56 (by omega) (by omega) (by first | exact Or.inl rfl | exact Or.inr rfl | exact b2i_b _) ⟨_, ⟨by simp [canTest, b2i, h6], rfl⟩, hR⟩
  · refine zaload_n C dX8_canTestify_9 rfl ?_
    refine ziload_n C dX8_canTestify_10 rfl ?_
    refine zcallV C (m_isGrown p hp M hR) hy_X8_isGrown hv_X8_isGrown hl_X8_205 hR.1 rfl rfl rfl rfl (by decide) (by decide) (by omega) (by omega) rfl (by exact Nat.le_of_ble_eq_true rfl) dX8_canTestify_11 (fun v11 M hp11 => ?_)
    obtain ⟨S1, ⟨rfl, hs⟩, hR⟩ := hp11
    rw [hs] at hR
    clear hs
    refine zif_eq (tgt := 55) C dX8_canTestify_14 (by decide) (fun h14 => ?_) (fun h14 => ?_)
    · replace h14 := b2i_0.mp h14
      refine zconst (v := 0) C dX8_canTestify_55 (by decide) ?_
      exact zend_z C hE dX8_canTestify_56 (by omega) (by omega) (by first | exact Or.inl rfl | exact Or.inr rfl | exact b2i_b _) ⟨_, ⟨by simp [canTest, b2i, h6, h14], rfl⟩, hR⟩
    · replace h14 := b2i_n0.mp h14
      refine zaload_n C dX8_canTestify_17 rfl ?_
      refine zmga C hR hf_X8_91 rfl dX8_canTestify_18 ?_
      refine ziload_n C dX8_canTestify_21 rfl ?_
      refine zmia C hR rfl rfl rfl (show _ < 20 from by omega) dX8_canTestify_22 ?_
      refine ziload_n C dX8_canTestify_23 rfl ?_
      refine zicmp_eq (tgt := 55) C dX8_canTestify_24 (by decide) (fun h24 => ?_) (fun h24 => ?_)
      · refine zconst (v := 0) C dX8_canTestify_55 (by decide) ?_
        exact zend_z C hE dX8_canTestify_56 (by omega) (by omega) (by first | exact Or.inl rfl | exact Or.inr rfl | exact b2i_b _) ⟨_, ⟨by simp [canTest, b2i, h6, h14, h24], rfl⟩, hR⟩
      · refine zaload_n C dX8_canTestify_27 rfl ?_
        refine zmga C hR hf_X8_94 rfl dX8_canTestify_28 ?_
        refine ziload_n C dX8_canTestify_31 rfl ?_
        refine zmia C hR rfl rfl rfl (show _ < 20 from by omega) dX8_canTestify_32 ?_
        refine ziload_n C dX8_canTestify_33 rfl ?_
        refine zicmp_eq (tgt := 55) C dX8_canTestify_34 (by decide) (fun h34 => ?_) (fun h34 => ?_)
        · refine zconst (v := 0) C dX8_canTestify_55 (by decide) ?_
          exact zend_z C hE dX8_canTestify_56 (by omega) (by omega) (by first | exact Or.inl rfl | exact Or.inr rfl | exact b2i_b _) ⟨_, ⟨by simp [canTest, b2i, h6, h14, h24, h34], rfl⟩, hR⟩
        · refine zaload_n C dX8_canTestify_37 rfl ?_
          refine zmga C hR hf_X8_112 rfl dX8_canTestify_38 ?_
          refine zbipush (v := 40) C dX8_canTestify_41 (by decide) ?_
          refine ziload_n C dX8_canTestify_43 rfl ?_
          refine zimul C dX8_canTestify_44 ?_
          refine ziload_n C dX8_canTestify_45 rfl ?_
          refine ziadd C dX8_canTestify_46 ?_
          refine zmia (i0 := 40 * s + p) C hR rfl rfl (zx_wt s p) (show _ < 800 from by omega) dX8_canTestify_47 ?_
          refine zif_ne (tgt := 55) C dX8_canTestify_48 (by decide) (fun h48 => ?_) (fun h48 => ?_)
          · refine zconst (v := 0) C dX8_canTestify_55 (by decide) ?_
            exact zend_z C hE dX8_canTestify_56 (by omega) (by omega) (by first | exact Or.inl rfl | exact Or.inr rfl | exact b2i_b _) ⟨_, ⟨by simp [canTest, b2i, h6, h14, h24, h34, h48], rfl⟩, hR⟩
          · refine zconst (v := 1) C dX8_canTestify_51 (by decide) ?_
            refine zgoto (tgt := 56) C dX8_canTestify_52 (by decide) ?_
            exact zend_z C hE dX8_canTestify_56 (by omega) (by omega) (by first | exact Or.inl rfl | exact Or.inr rfl | exact b2i_b _) ⟨_, ⟨by simp [canTest, b2i, h6, h14, h24, h34, h48], rfl⟩, hR⟩
set_option maxRecDepth 100000 in
set_option maxHeartbeats 1000000 in
theorem m_bothLive {g : zGh} {M0 : zM} {mo : Nat} {ad : Nat → Nat} {S : zS} (s a b : Nat) (hs : s < 20) (ha : a < 40) (hb : b < 40) (ea : S.2.2.1 34 s = nI a) (eb : S.2.2.1 35 s = nI b) : zMc g M0 mo ad yX8_bothLive cX8_bothLive 2 (some .boolean) 0 0 mkI [.int (nI s)] S (fun v S1 => v = b2i (bothLive S s) ∧ S1 = S) := by
  intro M hR
  refine zof [some (.ref mo), some (.int (nI s))] (by decide +kernel) rfl rfl (Nat.le_of_ble_eq_true rfl) ?_
  intro X C hE hnm
  have C : zC g X RX8 cX8_bothLive 2 0 0 0 0 := C
  refine zaload_n C dX8_bothLive_0 rfl ?_
  refine zmga C hR hf_X8_47 rfl dX8_bothLive_1 ?_
  refine zaload_n C dX8_bothLive_4 rfl ?_
  refine zmga C hR hf_X8_91 rfl dX8_bothLive_5 ?_
  refine ziload_n C dX8_bothLive_8 rfl ?_
  refine zmia C hR rfl rfl rfl (show _ < 20 from by omega) dX8_bothLive_9 ?_
  refine zmza (i0 := a) C hR rfl rfl ea (show _ < 40 from by omega) dX8_bothLive_10 ?_
  refine zif_ne (tgt := 32) C dX8_bothLive_11 (by decide) (fun h11 => ?_) (fun h11 => ?_)
  · refine zconst (v := 0) C dX8_bothLive_32 (by decide) ?_
    exact zend_z C hE dX8_bothLive_33 (by omega) (by omega) (by first | exact Or.inl rfl | exact Or.inr rfl | exact b2i_b _) ⟨_, ⟨by simp [bothLive, ea, eb, nI_clamp (show a < 2 ^ 31 by omega), nI_clamp (show b < 2 ^ 31 by omega), b2i, h11], rfl⟩, hR⟩
  · refine zaload_n C dX8_bothLive_14 rfl ?_
    refine zmga C hR hf_X8_47 rfl dX8_bothLive_15 ?_
    refine zaload_n C dX8_bothLive_18 rfl ?_
    refine zmga C hR hf_X8_94 rfl dX8_bothLive_19 ?_
    refine ziload_n C dX8_bothLive_22 rfl ?_
    refine zmia C hR rfl rfl rfl (show _ < 20 from by omega) dX8_bothLive_23 ?_
    refine zmza (i0 := b) C hR rfl rfl eb (show _ < 40 from by omega) dX8_bothLive_24 ?_
    refine zif_ne (tgt := 32) C dX8_bothLive_25 (by decide) (fun h25 => ?_) (fun h25 => ?_)
    · refine zconst (v := 0) C dX8_bothLive_32 (by decide) ?_
      exact zend_z C hE dX8_bothLive_33 (by omega) (by omega) (by first | exact Or.inl rfl | exact Or.inr rfl | exact b2i_b _) ⟨_, ⟨by simp [bothLive, ea, eb, nI_clamp (show a < 2 ^ 31 by omega), nI_clamp (show b < 2 ^ 31 by omega), b2i, h11, h25], rfl⟩, hR⟩
    · refine zconst (v := 1) C dX8_bothLive_28 (by decide) ?_
      refine zgoto (tgt := 33) C dX8_bothLive_29 (by decide) ?_
      exact zend_z C hE dX8_bothLive_33 (by omega) (by omega) (by first | exact Or.inl rfl | exact Or.inr rfl | exact b2i_b _) ⟨_, ⟨by simp [bothLive, ea, eb, nI_clamp (show a < 2 ^ 31 by omega), nI_clamp (show b < 2 ^ 31 by omega), b2i, h11, h25], rfl⟩, hR⟩
set_option maxRecDepth 100000 in
set_option maxHeartbeats 1000000 in
theorem m_heard {g : zGh} {M0 : zM} {mo : Nat} {ad : Nat → Nat} {S : zS} (s : Nat) (hs : s < 20) : zMc g M0 mo ad yX8_heard cX8_heard 4 (some .int) 0 0 mkI [.int (nI s)] S (fun v S1 => v = nI (heard S s) ∧ S1 = S) := by
  intro M hR
  refine zof [some (.ref mo), some (.int (nI s)), none, none] (by decide +kernel) rfl rfl (Nat.le_of_ble_eq_true rfl) ?_
  intro X C hE hnm
  have C : zC g X RX8 cX8_heard 4 0 0 0 0 := C
  have loop : ∀ (r i : Nat), i + r = 40 → zG g X M 0 0 7 [some (.ref mo), some (.int (nI s)), some (.int (nI (heardL (S.2.2.1 41) s i))), some (.int (nI (40 * s + i)))] [] := by
    intro r
    induction r with
    | zero =>
      intro i hi 
      refine ziload_n C dX8_heard_7 rfl ?_
      refine zbipush (v := 40) C dX8_heard_8 (by decide) ?_
      refine ziload_n C dX8_heard_10 rfl ?_
      refine zconst (v := 1) C dX8_heard_11 (by decide) ?_
      refine ziadd C dX8_heard_12 ?_
      refine zimul C dX8_heard_13 ?_
      rw [show (40 : Int32) * (nI s + 1) = nI (40 * s + 40) from by rw [nI_1, zx_40]; congr 1]
      refine zicmp_ge (tgt := 40) C dX8_heard_14 (by decide) (fun h14 => ?_) (fun h14 => absurd (nI_le (by omega) (by omega)) h14)
      refine ziload_n C dX8_heard_40 rfl ?_
      exact zend_i C hE dX8_heard_41 (by omega) (by omega) ⟨_, ⟨by rw [heard, show 40 = i by omega], rfl⟩, hR⟩
    | succ r ih =>
      intro i hi 
      refine ziload_n C dX8_heard_7 rfl ?_
      refine zbipush (v := 40) C dX8_heard_8 (by decide) ?_
      refine ziload_n C dX8_heard_10 rfl ?_
      refine zconst (v := 1) C dX8_heard_11 (by decide) ?_
      refine ziadd C dX8_heard_12 ?_
      refine zimul C dX8_heard_13 ?_
      rw [show (40 : Int32) * (nI s + 1) = nI (40 * s + 40) from by rw [nI_1, zx_40]; congr 1]
      refine zicmp_ge (tgt := 40) C dX8_heard_14 (by decide) (fun h14 => absurd h14 (nI_ge (by omega) (by omega))) (fun h14 => ?_)
      refine ziload_n C dX8_heard_17 rfl ?_
      refine zaload_n C dX8_heard_18 rfl ?_
      refine zmga C hR hf_X8_112 rfl dX8_heard_19 ?_
      refine ziload_n C dX8_heard_22 rfl ?_
      refine zmia (i0 := 40 * s + i) C hR rfl rfl rfl (show _ < 800 from by omega) dX8_heard_23 ?_
      refine zif_eq (tgt := 31) C dX8_heard_24 (by decide) (fun h24 => ?_) (fun h24 => ?_)
      · refine zconst (v := 0) C dX8_heard_31 (by decide) ?_
        refine ziadd C dX8_heard_32 ?_
        refine zistore_n (L1 := [_, _, _, _]) C dX8_heard_33 rfl (Nat.le_of_ble_eq_true rfl) ?_
        refine ziinc (L1 := [_, _, _, _]) (v := nI (40 * s + (i + 1))) C dX8_heard_34 rfl (nI_1 (40 * s + i)) rfl ?_
        refine zgoto (tgt := 7) C dX8_heard_37 (by decide) ?_
        exact zcg (ih (i + 1) (by omega)) (by simp [heardL, zk1, ← nI_1, h24])
      · refine zconst (v := 1) C dX8_heard_27 (by decide) ?_
        refine zgoto (tgt := 32) C dX8_heard_28 (by decide) ?_
        refine ziadd C dX8_heard_32 ?_
        refine zistore_n (L1 := [_, _, _, _]) C dX8_heard_33 rfl (Nat.le_of_ble_eq_true rfl) ?_
        refine ziinc (L1 := [_, _, _, _]) (v := nI (40 * s + (i + 1))) C dX8_heard_34 rfl (nI_1 (40 * s + i)) rfl ?_
        refine zgoto (tgt := 7) C dX8_heard_37 (by decide) ?_
        exact zcg (ih (i + 1) (by omega)) (by simp [heardL, zk1, ← nI_1, h24])
  refine zconst (v := 0) C dX8_heard_0 (by decide) ?_
  refine zistore_n (L1 := [_, _, _, _]) C dX8_heard_1 rfl (Nat.le_of_ble_eq_true rfl) ?_
  refine zbipush (v := 40) C dX8_heard_2 (by decide) ?_
  refine ziload_n C dX8_heard_4 rfl ?_
  refine zimul C dX8_heard_5 ?_
  rw [zx_40]
  refine zistore_n (L1 := [_, _, _, _]) C dX8_heard_6 rfl (Nat.le_of_ble_eq_true rfl) ?_
  exact loop 40 0 (by omega)
set_option maxRecDepth 100000 in
set_option maxHeartbeats 1000000 in
theorem m_isWonAt {g : zGh} {M0 : zM} {mo : Nat} {ad : Nat → Nat} {S : zS} (s : Nat) (cc0 : Int32) (hs : s < 20) (hn : S.1 13 ≤ 40) (hd : S.1 4 ≤ 100) (hT : ∀ p, p < S.1 13 → iT S p) : zMc g M0 mo ad yX8_isWonAt cX8_isWonAt 9 (some .boolean) 1 26 mkI [.int (nI s), .int cc0] S (fun v S1 => v = b2i (isWonAt S s cc0) ∧ S1 = S) := by
  intro M hR
  refine zof [some (.ref mo), some (.int (nI s)), some (.int cc0), none, none, none, none, none, none] (by decide +kernel) rfl rfl (Nat.le_of_ble_eq_true rfl) ?_
  intro X C hE hnm
  have C : zC g X RX8 cX8_isWonAt 9 1 26 0 0 := C
  obtain ⟨hh, eh⟩ : ∃ x, x = lawOf S cc0 6 (nI (S.1 1)) := ⟨_, rfl⟩
  have hf : ∀ k how, k ≤ S.1 13 → forL (S.2.2.1 20) (S.2.2.1 21) (S.2.2.1 41) hh (nI (S.1 1)) s how k ≤ 80 := fun k how hk => by have := forL_le (S.2.2.1 20) (S.2.2.1 21) (S.2.2.1 41) hh (nI (S.1 1)) s how k; omega
  have loop : ∀ (r i : Nat), i + r = S.1 13 → ∀ M, zR g M0 mo ad S M → zG g X M 0 0 21 [some (.ref mo), some (.int (nI s)), some (.int cc0), some (.int hh), some (.int (nI (forL (S.2.2.1 20) (S.2.2.1 21) (S.2.2.1 41) hh (nI (S.1 1)) s 1 i))), some (.int (nI (forL (S.2.2.1 20) (S.2.2.1 21) (S.2.2.1 41) hh (nI (S.1 1)) s 2 i))), some (.int (nI i)), none, none] [] := by
    intro r
    induction r with
    | zero =>
      intro i hi M hR
      refine ziload C dX8_isWonAt_21 rfl ?_
      refine zaload_n C dX8_isWonAt_23 rfl ?_
      refine zmgi C hR hf_X8_145 rfl dX8_isWonAt_24 ?_
      refine zicmp_ge (tgt := 118) C dX8_isWonAt_27 (by decide) (fun h27 => ?_) (fun h27 => absurd (nI_le (by omega) (by omega)) h27)
      refine ziload C dX8_isWonAt_118 rfl ?_
      refine ziload C dX8_isWonAt_120 rfl ?_
      refine zicmp_le (tgt := 135) C dX8_isWonAt_122 (by decide) (fun h122 => ?_) (fun h122 => ?_)
      · rw [nI_leI (by have := hf i 1 (by omega); omega) (by have := hf i 2 (by omega); omega)] at h122
        refine zconst (v := 0) C dX8_isWonAt_135 (by decide) ?_
        exact zend_z C hE dX8_isWonAt_136 (by omega) (by omega) (by first | exact Or.inl rfl | exact Or.inr rfl | exact b2i_b _) ⟨_, ⟨by rw [isWonAt, ← eh, show S.1 13 = i by omega]; simp only [b2i]; symm; first | (rw [if_pos (by simp; omega)]; done) | (rw [if_neg (by simp; omega)]; done), rfl⟩, hR⟩
      · rw [nI_leI (by have := hf i 1 (by omega); omega) (by have := hf i 2 (by omega); omega)] at h122
        refine ziload C dX8_isWonAt_125 rfl ?_
        refine zconst (v := 4) C dX8_isWonAt_127 (by decide) ?_
        refine zicmp_lt (tgt := 135) C dX8_isWonAt_128 (by decide) (fun h128 => ?_) (fun h128 => ?_)
        · rw [show (4 : Int32) = nI 4 from rfl, nI_ltI (by have := hf i 1 (by omega); omega) (by decide)] at h128
          refine zconst (v := 0) C dX8_isWonAt_135 (by decide) ?_
          exact zend_z C hE dX8_isWonAt_136 (by omega) (by omega) (by first | exact Or.inl rfl | exact Or.inr rfl | exact b2i_b _) ⟨_, ⟨by rw [isWonAt, ← eh, show S.1 13 = i by omega]; simp only [b2i]; symm; first | (rw [if_pos (by simp; omega)]; done) | (rw [if_neg (by simp; omega)]; done), rfl⟩, hR⟩
        · rw [show (4 : Int32) = nI 4 from rfl, nI_ltI (by have := hf i 1 (by omega); omega) (by decide)] at h128
          refine zconst (v := 1) C dX8_isWonAt_131 (by decide) ?_
          refine zgoto (tgt := 136) C dX8_isWonAt_132 (by decide) ?_
          exact zend_z C hE dX8_isWonAt_136 (by omega) (by omega) (by first | exact Or.inl rfl | exact Or.inr rfl | exact b2i_b _) ⟨_, ⟨by rw [isWonAt, ← eh, show S.1 13 = i by omega]; simp only [b2i]; symm; first | (rw [if_pos (by simp; omega)]; done) | (rw [if_neg (by simp; omega)]; done), rfl⟩, hR⟩
    | succ r ih =>
      intro i hi M hR
      refine ziload C dX8_isWonAt_21 rfl ?_
      refine zaload_n C dX8_isWonAt_23 rfl ?_
      refine zmgi C hR hf_X8_145 rfl dX8_isWonAt_24 ?_
      refine zicmp_ge (tgt := 118) C dX8_isWonAt_27 (by decide) (fun h27 => absurd h27 (nI_ge (by omega) (by omega))) (fun h27 => ?_)
      refine zaload_n C dX8_isWonAt_30 rfl ?_
      refine zmga C hR hf_X8_112 rfl dX8_isWonAt_31 ?_
      refine zbipush (v := 40) C dX8_isWonAt_34 (by decide) ?_
      refine ziload_n C dX8_isWonAt_36 rfl ?_
      refine zimul C dX8_isWonAt_37 ?_
      refine ziload C dX8_isWonAt_38 rfl ?_
      refine ziadd C dX8_isWonAt_40 ?_
      refine zmia (i0 := 40 * s + i) C hR rfl rfl (zx_wt s i) (show _ < 800 from by omega) dX8_isWonAt_41 ?_
      refine zistore (L1 := [_, _, _, _, _, _, _, _, _]) C dX8_isWonAt_42 rfl (Nat.le_of_ble_eq_true rfl) ?_
      refine ziload C dX8_isWonAt_44 rfl ?_
      refine zif_ne (tgt := 53) C dX8_isWonAt_46 (by decide) (fun h46 => ?_) (fun h46 => ?_)
      · refine ziload_n C dX8_isWonAt_53 rfl ?_
        refine zaload_n C dX8_isWonAt_54 rfl ?_
        refine ziload C dX8_isWonAt_55 rfl ?_
        refine zaload_n C dX8_isWonAt_57 rfl ?_
        refine zmgi C hR hf_X8_154 rfl dX8_isWonAt_58 ?_
        refine zcallV C (m_faithAt i _ (by omega) (hT i (by omega)) M hR) hy_X8_faithOn hv_X8_faithOn hl_X8_188 hR.1 rfl rfl rfl rfl (by decide) (by decide) (by omega) (by omega) rfl (by exact Nat.le_of_ble_eq_true rfl) dX8_isWonAt_61 (fun v61 M hp61 => ?_)
        obtain ⟨S1, ⟨rfl, hs⟩, hR⟩ := hp61
        rw [hs] at hR
        clear hs
        refine zishr C dX8_isWonAt_64 ?_
        refine zconst (v := 1) C dX8_isWonAt_65 (by decide) ?_
        refine ziand C dX8_isWonAt_66 ?_
        refine zconst (v := 1) C dX8_isWonAt_67 (by decide) ?_
        refine zicmp_ne (tgt := 75) C dX8_isWonAt_68 (by decide) (fun h68 => ?_) (fun h68 => ?_)
        · refine zconst (v := 1) C dX8_isWonAt_75 (by decide) ?_
          refine zistore (L1 := [_, _, _, _, _, _, _, _, _]) C dX8_isWonAt_76 rfl (Nat.le_of_ble_eq_true rfl) ?_
          refine ziload C dX8_isWonAt_78 rfl ?_
          refine ziload C dX8_isWonAt_80 rfl ?_
          refine zconst (v := 1) C dX8_isWonAt_82 (by decide) ?_
          refine zicmp_ne (tgt := 91) C dX8_isWonAt_83 (by decide) (fun h83 => ?_) (fun h83 => ?_)
          · refine zconst (v := 0) C dX8_isWonAt_91 (by decide) ?_
            refine ziadd C dX8_isWonAt_92 ?_
            refine zistore (L1 := [_, _, _, _, _, _, _, _, _]) C dX8_isWonAt_93 rfl (Nat.le_of_ble_eq_true rfl) ?_
            refine ziload C dX8_isWonAt_95 rfl ?_
            refine ziload C dX8_isWonAt_97 rfl ?_
            refine zconst (v := 2) C dX8_isWonAt_99 (by decide) ?_
            refine zicmp_ne (tgt := 108) C dX8_isWonAt_100 (by decide) (fun h100 => ?_) (fun h100 => ?_)
            · refine zconst (v := 0) C dX8_isWonAt_108 (by decide) ?_
              refine ziadd C dX8_isWonAt_109 ?_
              refine zistore (L1 := [_, _, _, _, _, _, _, _, _]) C dX8_isWonAt_110 rfl (Nat.le_of_ble_eq_true rfl) ?_
              refine ziinc (L1 := [_, _, _, _, _, _, _, _, _]) (v := nI (i + 1)) C dX8_isWonAt_112 rfl (nI_1 i) rfl ?_
              refine zgoto (tgt := 21) C dX8_isWonAt_115 (by decide) ?_
              refine zfor [true, true, true, true, true, true, true, false, false] (L1 := [_, _, _, _, _, _, _, _, _]) rfl ?_
              exact zcg (ih (i + 1) (by omega) M hR) (by simp_all [z2, forL, zk1, wgt, faithAt, fT, ← nI_1, nI_add])
            · refine ziload C dX8_isWonAt_103 rfl ?_
              refine zgoto (tgt := 109) C dX8_isWonAt_105 (by decide) ?_
              refine ziadd C dX8_isWonAt_109 ?_
              refine zistore (L1 := [_, _, _, _, _, _, _, _, _]) C dX8_isWonAt_110 rfl (Nat.le_of_ble_eq_true rfl) ?_
              refine ziinc (L1 := [_, _, _, _, _, _, _, _, _]) (v := nI (i + 1)) C dX8_isWonAt_112 rfl (nI_1 i) rfl ?_
              refine zgoto (tgt := 21) C dX8_isWonAt_115 (by decide) ?_
              refine zfor [true, true, true, true, true, true, true, false, false] (L1 := [_, _, _, _, _, _, _, _, _]) rfl ?_
              exact zcg (ih (i + 1) (by omega) M hR) (by simp_all [z2, forL, zk1, wgt, faithAt, fT, ← nI_1, nI_add])
          · refine ziload C dX8_isWonAt_86 rfl ?_
            refine zgoto (tgt := 92) C dX8_isWonAt_88 (by decide) ?_
            refine ziadd C dX8_isWonAt_92 ?_
            refine zistore (L1 := [_, _, _, _, _, _, _, _, _]) C dX8_isWonAt_93 rfl (Nat.le_of_ble_eq_true rfl) ?_
            refine ziload C dX8_isWonAt_95 rfl ?_
            refine ziload C dX8_isWonAt_97 rfl ?_
            refine zconst (v := 2) C dX8_isWonAt_99 (by decide) ?_
            refine zicmp_ne (tgt := 108) C dX8_isWonAt_100 (by decide) (fun h100 => ?_) (fun h100 => ?_)
            · refine zconst (v := 0) C dX8_isWonAt_108 (by decide) ?_
              refine ziadd C dX8_isWonAt_109 ?_
              refine zistore (L1 := [_, _, _, _, _, _, _, _, _]) C dX8_isWonAt_110 rfl (Nat.le_of_ble_eq_true rfl) ?_
              refine ziinc (L1 := [_, _, _, _, _, _, _, _, _]) (v := nI (i + 1)) C dX8_isWonAt_112 rfl (nI_1 i) rfl ?_
              refine zgoto (tgt := 21) C dX8_isWonAt_115 (by decide) ?_
              refine zfor [true, true, true, true, true, true, true, false, false] (L1 := [_, _, _, _, _, _, _, _, _]) rfl ?_
              exact zcg (ih (i + 1) (by omega) M hR) (by simp_all [z2, forL, zk1, wgt, faithAt, fT, ← nI_1, nI_add])
            · refine ziload C dX8_isWonAt_103 rfl ?_
              refine zgoto (tgt := 109) C dX8_isWonAt_105 (by decide) ?_
              refine ziadd C dX8_isWonAt_109 ?_
              refine zistore (L1 := [_, _, _, _, _, _, _, _, _]) C dX8_isWonAt_110 rfl (Nat.le_of_ble_eq_true rfl) ?_
              refine ziinc (L1 := [_, _, _, _, _, _, _, _, _]) (v := nI (i + 1)) C dX8_isWonAt_112 rfl (nI_1 i) rfl ?_
              refine zgoto (tgt := 21) C dX8_isWonAt_115 (by decide) ?_
              refine zfor [true, true, true, true, true, true, true, false, false] (L1 := [_, _, _, _, _, _, _, _, _]) rfl ?_
              exact zcg (ih (i + 1) (by omega) M hR) (by simp_all [z2, forL, zk1, wgt, faithAt, fT, ← nI_1, nI_add])
        · refine zconst (v := 2) C dX8_isWonAt_71 (by decide) ?_
          refine zgoto (tgt := 76) C dX8_isWonAt_72 (by decide) ?_
          refine zistore (L1 := [_, _, _, _, _, _, _, _, _]) C dX8_isWonAt_76 rfl (Nat.le_of_ble_eq_true rfl) ?_
          refine ziload C dX8_isWonAt_78 rfl ?_
          refine ziload C dX8_isWonAt_80 rfl ?_
          refine zconst (v := 1) C dX8_isWonAt_82 (by decide) ?_
          refine zicmp_ne (tgt := 91) C dX8_isWonAt_83 (by decide) (fun h83 => ?_) (fun h83 => ?_)
          · refine zconst (v := 0) C dX8_isWonAt_91 (by decide) ?_
            refine ziadd C dX8_isWonAt_92 ?_
            refine zistore (L1 := [_, _, _, _, _, _, _, _, _]) C dX8_isWonAt_93 rfl (Nat.le_of_ble_eq_true rfl) ?_
            refine ziload C dX8_isWonAt_95 rfl ?_
            refine ziload C dX8_isWonAt_97 rfl ?_
            refine zconst (v := 2) C dX8_isWonAt_99 (by decide) ?_
            refine zicmp_ne (tgt := 108) C dX8_isWonAt_100 (by decide) (fun h100 => ?_) (fun h100 => ?_)
            · refine zconst (v := 0) C dX8_isWonAt_108 (by decide) ?_
              refine ziadd C dX8_isWonAt_109 ?_
              refine zistore (L1 := [_, _, _, _, _, _, _, _, _]) C dX8_isWonAt_110 rfl (Nat.le_of_ble_eq_true rfl) ?_
              refine ziinc (L1 := [_, _, _, _, _, _, _, _, _]) (v := nI (i + 1)) C dX8_isWonAt_112 rfl (nI_1 i) rfl ?_
              refine zgoto (tgt := 21) C dX8_isWonAt_115 (by decide) ?_
              refine zfor [true, true, true, true, true, true, true, false, false] (L1 := [_, _, _, _, _, _, _, _, _]) rfl ?_
              exact zcg (ih (i + 1) (by omega) M hR) (by simp_all [z2, forL, zk1, wgt, faithAt, fT, ← nI_1, nI_add])
            · refine ziload C dX8_isWonAt_103 rfl ?_
              refine zgoto (tgt := 109) C dX8_isWonAt_105 (by decide) ?_
              refine ziadd C dX8_isWonAt_109 ?_
              refine zistore (L1 := [_, _, _, _, _, _, _, _, _]) C dX8_isWonAt_110 rfl (Nat.le_of_ble_eq_true rfl) ?_
              refine ziinc (L1 := [_, _, _, _, _, _, _, _, _]) (v := nI (i + 1)) C dX8_isWonAt_112 rfl (nI_1 i) rfl ?_
              refine zgoto (tgt := 21) C dX8_isWonAt_115 (by decide) ?_
              refine zfor [true, true, true, true, true, true, true, false, false] (L1 := [_, _, _, _, _, _, _, _, _]) rfl ?_
              exact zcg (ih (i + 1) (by omega) M hR) (by simp_all [z2, forL, zk1, wgt, faithAt, fT, ← nI_1, nI_add])
          · refine ziload C dX8_isWonAt_86 rfl ?_
            refine zgoto (tgt := 92) C dX8_isWonAt_88 (by decide) ?_
            refine ziadd C dX8_isWonAt_92 ?_
            refine zistore (L1 := [_, _, _, _, _, _, _, _, _]) C dX8_isWonAt_93 rfl (Nat.le_of_ble_eq_true rfl) ?_
            refine ziload C dX8_isWonAt_95 rfl ?_
            refine ziload C dX8_isWonAt_97 rfl ?_
            refine zconst (v := 2) C dX8_isWonAt_99 (by decide) ?_
            refine zicmp_ne (tgt := 108) C dX8_isWonAt_100 (by decide) (fun h100 => ?_) (fun h100 => ?_)
            · refine zconst (v := 0) C dX8_isWonAt_108 (by decide) ?_
              refine ziadd C dX8_isWonAt_109 ?_
              refine zistore (L1 := [_, _, _, _, _, _, _, _, _]) C dX8_isWonAt_110 rfl (Nat.le_of_ble_eq_true rfl) ?_
              refine ziinc (L1 := [_, _, _, _, _, _, _, _, _]) (v := nI (i + 1)) C dX8_isWonAt_112 rfl (nI_1 i) rfl ?_
              refine zgoto (tgt := 21) C dX8_isWonAt_115 (by decide) ?_
              refine zfor [true, true, true, true, true, true, true, false, false] (L1 := [_, _, _, _, _, _, _, _, _]) rfl ?_
              exact zcg (ih (i + 1) (by omega) M hR) (by simp_all [z2, forL, zk1, wgt, faithAt, fT, ← nI_1, nI_add])
            · refine ziload C dX8_isWonAt_103 rfl ?_
              refine zgoto (tgt := 109) C dX8_isWonAt_105 (by decide) ?_
              refine ziadd C dX8_isWonAt_109 ?_
              refine zistore (L1 := [_, _, _, _, _, _, _, _, _]) C dX8_isWonAt_110 rfl (Nat.le_of_ble_eq_true rfl) ?_
              refine ziinc (L1 := [_, _, _, _, _, _, _, _, _]) (v := nI (i + 1)) C dX8_isWonAt_112 rfl (nI_1 i) rfl ?_
              refine zgoto (tgt := 21) C dX8_isWonAt_115 (by decide) ?_
              refine zfor [true, true, true, true, true, true, true, false, false] (L1 := [_, _, _, _, _, _, _, _, _]) rfl ?_
              exact zcg (ih (i + 1) (by omega) M hR) (by simp_all [z2, forL, zk1, wgt, faithAt, fT, ← nI_1, nI_add])
      · refine zconst (v := 0) C dX8_isWonAt_49 (by decide) ?_
        refine zgoto (tgt := 76) C dX8_isWonAt_50 (by decide) ?_
        refine zistore (L1 := [_, _, _, _, _, _, _, _, _]) C dX8_isWonAt_76 rfl (Nat.le_of_ble_eq_true rfl) ?_
        refine ziload C dX8_isWonAt_78 rfl ?_
        refine ziload C dX8_isWonAt_80 rfl ?_
        refine zconst (v := 1) C dX8_isWonAt_82 (by decide) ?_
        refine zicmp_ne (tgt := 91) C dX8_isWonAt_83 (by decide) (fun h83 => ?_) (fun h83 => ?_)
        · refine zconst (v := 0) C dX8_isWonAt_91 (by decide) ?_
          refine ziadd C dX8_isWonAt_92 ?_
          refine zistore (L1 := [_, _, _, _, _, _, _, _, _]) C dX8_isWonAt_93 rfl (Nat.le_of_ble_eq_true rfl) ?_
          refine ziload C dX8_isWonAt_95 rfl ?_
          refine ziload C dX8_isWonAt_97 rfl ?_
          refine zconst (v := 2) C dX8_isWonAt_99 (by decide) ?_
          refine zicmp_ne (tgt := 108) C dX8_isWonAt_100 (by decide) (fun h100 => ?_) (fun h100 => ?_)
          · refine zconst (v := 0) C dX8_isWonAt_108 (by decide) ?_
            refine ziadd C dX8_isWonAt_109 ?_
            refine zistore (L1 := [_, _, _, _, _, _, _, _, _]) C dX8_isWonAt_110 rfl (Nat.le_of_ble_eq_true rfl) ?_
            refine ziinc (L1 := [_, _, _, _, _, _, _, _, _]) (v := nI (i + 1)) C dX8_isWonAt_112 rfl (nI_1 i) rfl ?_
            refine zgoto (tgt := 21) C dX8_isWonAt_115 (by decide) ?_
            refine zfor [true, true, true, true, true, true, true, false, false] (L1 := [_, _, _, _, _, _, _, _, _]) rfl ?_
            exact zcg (ih (i + 1) (by omega) M hR) (by simp_all [z2, forL, zk1, wgt, faithAt, fT, ← nI_1, nI_add])
          · refine ziload C dX8_isWonAt_103 rfl ?_
            refine zgoto (tgt := 109) C dX8_isWonAt_105 (by decide) ?_
            refine ziadd C dX8_isWonAt_109 ?_
            refine zistore (L1 := [_, _, _, _, _, _, _, _, _]) C dX8_isWonAt_110 rfl (Nat.le_of_ble_eq_true rfl) ?_
            refine ziinc (L1 := [_, _, _, _, _, _, _, _, _]) (v := nI (i + 1)) C dX8_isWonAt_112 rfl (nI_1 i) rfl ?_
            refine zgoto (tgt := 21) C dX8_isWonAt_115 (by decide) ?_
            refine zfor [true, true, true, true, true, true, true, false, false] (L1 := [_, _, _, _, _, _, _, _, _]) rfl ?_
            exact zcg (ih (i + 1) (by omega) M hR) (by simp_all [z2, forL, zk1, wgt, faithAt, fT, ← nI_1, nI_add])
        · refine ziload C dX8_isWonAt_86 rfl ?_
          refine zgoto (tgt := 92) C dX8_isWonAt_88 (by decide) ?_
          refine ziadd C dX8_isWonAt_92 ?_
          refine zistore (L1 := [_, _, _, _, _, _, _, _, _]) C dX8_isWonAt_93 rfl (Nat.le_of_ble_eq_true rfl) ?_
          refine ziload C dX8_isWonAt_95 rfl ?_
          refine ziload C dX8_isWonAt_97 rfl ?_
          refine zconst (v := 2) C dX8_isWonAt_99 (by decide) ?_
          refine zicmp_ne (tgt := 108) C dX8_isWonAt_100 (by decide) (fun h100 => ?_) (fun h100 => ?_)
          · refine zconst (v := 0) C dX8_isWonAt_108 (by decide) ?_
            refine ziadd C dX8_isWonAt_109 ?_
            refine zistore (L1 := [_, _, _, _, _, _, _, _, _]) C dX8_isWonAt_110 rfl (Nat.le_of_ble_eq_true rfl) ?_
            refine ziinc (L1 := [_, _, _, _, _, _, _, _, _]) (v := nI (i + 1)) C dX8_isWonAt_112 rfl (nI_1 i) rfl ?_
            refine zgoto (tgt := 21) C dX8_isWonAt_115 (by decide) ?_
            refine zfor [true, true, true, true, true, true, true, false, false] (L1 := [_, _, _, _, _, _, _, _, _]) rfl ?_
            exact zcg (ih (i + 1) (by omega) M hR) (by simp_all [z2, forL, zk1, wgt, faithAt, fT, ← nI_1, nI_add])
          · refine ziload C dX8_isWonAt_103 rfl ?_
            refine zgoto (tgt := 109) C dX8_isWonAt_105 (by decide) ?_
            refine ziadd C dX8_isWonAt_109 ?_
            refine zistore (L1 := [_, _, _, _, _, _, _, _, _]) C dX8_isWonAt_110 rfl (Nat.le_of_ble_eq_true rfl) ?_
            refine ziinc (L1 := [_, _, _, _, _, _, _, _, _]) (v := nI (i + 1)) C dX8_isWonAt_112 rfl (nI_1 i) rfl ?_
            refine zgoto (tgt := 21) C dX8_isWonAt_115 (by decide) ?_
            refine zfor [true, true, true, true, true, true, true, false, false] (L1 := [_, _, _, _, _, _, _, _, _]) rfl ?_
            exact zcg (ih (i + 1) (by omega) M hR) (by simp_all [z2, forL, zk1, wgt, faithAt, fT, ← nI_1, nI_add])
  refine zaload_n C dX8_isWonAt_0 rfl ?_
  refine ziload_n C dX8_isWonAt_1 rfl ?_
  refine zbipush (v := 6) C dX8_isWonAt_2 (by decide) ?_
  refine zaload_n C dX8_isWonAt_4 rfl ?_
  refine zmgi C hR hf_X8_154 rfl dX8_isWonAt_5 ?_
  refine zcallV C (m_lawOf cc0 6 _ hd M hR) hy_X8_lawOf hv_X8_lawOf hl_X8_177 hR.1 rfl rfl rfl rfl (by decide) (by decide) (by omega) (by omega) rfl (by exact Nat.le_of_ble_eq_true rfl) dX8_isWonAt_8 (fun v8 M hp8 => ?_)
  obtain ⟨S1, ⟨rfl, hs⟩, hR⟩ := hp8
  rw [hs] at hR
  clear hs
  refine zistore_n (L1 := [_, _, _, _, _, _, _, _, _]) C dX8_isWonAt_11 rfl (Nat.le_of_ble_eq_true rfl) ?_
  refine zconst (v := 0) C dX8_isWonAt_12 (by decide) ?_
  refine zistore (L1 := [_, _, _, _, _, _, _, _, _]) C dX8_isWonAt_13 rfl (Nat.le_of_ble_eq_true rfl) ?_
  refine zconst (v := 0) C dX8_isWonAt_15 (by decide) ?_
  refine zistore (L1 := [_, _, _, _, _, _, _, _, _]) C dX8_isWonAt_16 rfl (Nat.le_of_ble_eq_true rfl) ?_
  refine zconst (v := 0) C dX8_isWonAt_18 (by decide) ?_
  refine zistore (L1 := [_, _, _, _, _, _, _, _, _]) C dX8_isWonAt_19 rfl (Nat.le_of_ble_eq_true rfl) ?_
  rw [← eh]
  exact loop (S.1 13) 0 (by omega) M hR
