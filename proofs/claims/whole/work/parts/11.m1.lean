theorem b2i_n0 {b : Bool} : ¬ b2i b = 0 ↔ b = true := by cases b <;> decide
theorem zR.eqv {g : zGh} {M0 M : zM} {mo : Nat} {ad : Nat → Nat} {S S1 : zS} (h : zR g M0 mo ad S M) (e : S = S1) : zR g M0 mo ad S1 M := e ▸ h
theorem zup_up {α : Type} (f : Nat → α) (j : Nat) (x y : α) : va_up (va_up f j x) j y = va_up f j y := by
  funext i
  unfold va_up
  split <;> rfl
theorem zsA_A (S : zS) (j : Nat) (f h : Nat → Int32) : zsA (zsA S j f) j h = zsA S j h := by
  unfold zsA
  simp only [zup_up]
theorem zsA_s (S : zS) (j : Nat) (f : Nat → Int32) : (zsA S j f).2.2.1 j = f := by simp [zsA, va_up]
theorem zsA_n (S : zS) (j : Nat) (f : Nat → Int32) {i : Nat} (h : i ≠ j) : (zsA S j f).2.2.1 i = S.2.2.1 i := by simp [zsA, va_up, h]
theorem zsA_id (S : zS) (j : Nat) : zsA S j (S.2.2.1 j) = S := by
  obtain ⟨a, b, c, d⟩ := S
  unfold zsA
  congr
  funext i
  unfold va_up
  split
  · rename_i h; rw [h]
  · rfl
set_option maxRecDepth 100000 in
set_option maxHeartbeats 1000000 in
theorem m_in {g : zGh} {M : zM} (x lo hi : Int32)  : zCt g yX8_in cX8_in 3 (some .boolean) 0 0 mkI [.int x, .int lo, .int hi] M 0 0 (fun v M1 => v = b2i (decide (lo ≤ x) && decide (x ≤ hi)) ∧ M1 = M) noX := by
  refine zof [some (.int x), some (.int lo), some (.int hi)] (by decide +kernel) rfl rfl (Nat.le_of_ble_eq_true rfl) ?_
  intro X C hE hnm
  have C : zC g X RX8 cX8_in 3 0 0 0 0 := C
  refine ziload_n C dX8_in_0 rfl ?_
  refine ziload_n C dX8_in_1 rfl ?_
  refine zicmp_lt (tgt := 14) C dX8_in_2 (by decide) (fun h2 => ?_) (fun h2 => ?_)
  · refine zconst (v := 0) C dX8_in_14 (by decide) ?_
    exact zend_z C hE dX8_in_15 (by omega) (by omega) (by first | exact Or.inl rfl | exact Or.inr rfl | exact b2i_b _) ⟨by simp_all [b2i, Int32.le_iff_toInt_le, Int32.lt_iff_toInt_lt] <;> omega, rfl⟩
  · refine ziload_n C dX8_in_5 rfl ?_
    refine ziload_n C dX8_in_6 rfl ?_
    refine zicmp_gt (tgt := 14) C dX8_in_7 (by decide) (fun h7 => ?_) (fun h7 => ?_)
    · refine zconst (v := 0) C dX8_in_14 (by decide) ?_
      exact zend_z C hE dX8_in_15 (by omega) (by omega) (by first | exact Or.inl rfl | exact Or.inr rfl | exact b2i_b _) ⟨by simp_all [b2i, Int32.le_iff_toInt_le, Int32.lt_iff_toInt_lt] <;> omega, rfl⟩
    · refine zconst (v := 1) C dX8_in_10 (by decide) ?_
      refine zgoto (tgt := 15) C dX8_in_11 (by decide) ?_
      exact zend_z C hE dX8_in_15 (by omega) (by omega) (by first | exact Or.inl rfl | exact Or.inr rfl | exact b2i_b _) ⟨by simp_all [b2i, Int32.le_iff_toInt_le, Int32.lt_iff_toInt_lt] <;> omega, rfl⟩

set_option maxRecDepth 100000 in
set_option maxHeartbeats 1000000 in
theorem m_thrown {g : zGh} {M0 : zM} {mo : Nat} {ad : Nat → Nat} {S : zS}   : zMc g M0 mo ad yX8_thrown cX8_thrown 1 (some .int) 0 0 mkI [] S (fun v S1 => v = nI (S.1 0) ∧ S1 = S) := by
  intro M hR
  refine zof [some (.ref mo)] (by decide +kernel) rfl rfl (Nat.le_of_ble_eq_true rfl) ?_
  intro X C hE hnm
  have C : zC g X RX8 cX8_thrown 1 0 0 0 0 := C
  refine zaload_n C dX8_thrown_0 rfl ?_
  refine zmgi C hR hf_X8_130 rfl dX8_thrown_1 ?_
  exact zend_i C hE dX8_thrown_4 (by omega) (by omega) ⟨_, ⟨rfl, rfl⟩, hR⟩

set_option maxRecDepth 100000 in
set_option maxHeartbeats 1000000 in
theorem m_holds {g : zGh} {M0 : zM} {mo : Nat} {ad : Nat → Nat} {S : zS} (pl : Nat) (hp : pl < 2 ^ 31)  : zMc g M0 mo ad yX8_holds cX8_holds 2 (some .boolean) 0 0 mkI [.int (nI pl)] S (fun v S1 => v = b2i (decide (pl = 0)) ∧ S1 = zsN S 0 pl) := by
  intro M hR
  refine zof [some (.ref mo), some (.int (nI pl))] (by decide +kernel) rfl rfl (Nat.le_of_ble_eq_true rfl) ?_
  intro X C hE hnm
  have C : zC g X RX8 cX8_holds 2 0 0 0 0 := C
  refine zaload_n C dX8_holds_0 rfl ?_
  refine ziload_n C dX8_holds_1 rfl ?_
  refine zmpi C hR hf_X8_130 rfl rfl rfl rfl dX8_holds_2 (fun M hR => ?_)
  refine ziload_n C dX8_holds_5 rfl ?_
  refine zif_ne (tgt := 13) C dX8_holds_6 (by decide) (fun h6 => ?_) (fun h6 => ?_)
  · have e : ¬ pl = 0 := fun e => h6 (by rw [e]; rfl)
    refine zconst (v := 0) C dX8_holds_13 (by decide) ?_
    exact zend_z C hE dX8_holds_14 (by omega) (by omega) (by first | exact Or.inl rfl | exact Or.inr rfl | exact b2i_b _) ⟨_, ⟨by simp [e, b2i], rfl⟩, hR⟩
  · have e : pl = 0 := (nI_eq hp (by decide)).mp h6
    refine zconst (v := 1) C dX8_holds_9 (by decide) ?_
    refine zgoto (tgt := 14) C dX8_holds_10 (by decide) ?_
    exact zend_z C hE dX8_holds_14 (by omega) (by omega) (by first | exact Or.inl rfl | exact Or.inr rfl | exact b2i_b _) ⟨_, ⟨by simp [e, b2i], rfl⟩, hR⟩

set_option maxRecDepth 100000 in
set_option maxHeartbeats 1000000 in
theorem m_isCommunity {g : zGh} {M0 : zM} {mo : Nat} {ad : Nat → Nat} {S : zS} (x : Int32) (hn : S.1 2 < 2 ^ 30) : zMc g M0 mo ad yX8_isCommunity cX8_isCommunity 2 (some .boolean) 1 22 mkI [.int x] S (fun v S1 => v = b2i (zix x (S.1 2)) ∧ S1 = S) := by
  intro M hR
  refine zof [some (.ref mo), some (.int x)] (by decide +kernel) rfl rfl (Nat.le_of_ble_eq_true rfl) ?_
  intro X C hE hnm
  have C : zC g X RX8 cX8_isCommunity 2 1 22 0 0 := C
  refine ziload_n C dX8_isCommunity_0 rfl ?_
  refine zconst (v := 0) C dX8_isCommunity_1 (by decide) ?_
  refine zaload_n C dX8_isCommunity_2 rfl ?_
  refine zmgi C hR hf_X8_134 rfl dX8_isCommunity_3 ?_
  refine zconst (v := 1) C dX8_isCommunity_6 (by decide) ?_
  refine zisub C dX8_isCommunity_7 ?_
  refine zcallS C (m_in x 0 (nI (S.1 2) - 1)) hy_X8_in hst_X8_in hl_X8_137 rfl rfl (by decide) (by decide) (by omega) (by omega) rfl (by exact Nat.le_of_ble_eq_true rfl) dX8_isCommunity_8 (fun v8 M hp8 => ?_)
  obtain ⟨rfl, rfl⟩ := hp8
  exact zend_z C hE dX8_isCommunity_11 (by omega) (by omega) (by first | exact Or.inl rfl | exact Or.inr rfl | exact b2i_b _) ⟨_, ⟨by rw [zin_zix hn], rfl⟩, hR⟩

set_option maxRecDepth 100000 in
set_option maxHeartbeats 1000000 in
theorem m_isCourt {g : zGh} {M0 : zM} {mo : Nat} {ad : Nat → Nat} {S : zS} (x : Int32) (hn : S.1 2 < 2 ^ 30) : zMc g M0 mo ad yX8_isCourt cX8_isCourt 2 (some .boolean) 2 43 mkI [.int x] S (fun v S1 => v = b2i (decide (x = -1) || zix x (S.1 2)) ∧ S1 = S) := by
  intro M hR
  refine zof [some (.ref mo), some (.int x)] (by decide +kernel) rfl rfl (Nat.le_of_ble_eq_true rfl) ?_
  intro X C hE hnm
  have C : zC g X RX8 cX8_isCourt 2 2 43 0 0 := C
  refine ziload_n C dX8_isCourt_0 rfl ?_
  refine zconst (v := -1) C dX8_isCourt_1 (by decide) ?_
  refine zicmp_eq (tgt := 13) C dX8_isCourt_2 (by decide) (fun h2 => ?_) (fun h2 => ?_)
  · refine zconst (v := 1) C dX8_isCourt_13 (by decide) ?_
    refine zgoto (tgt := 18) C dX8_isCourt_14 (by decide) ?_
    exact zend_z C hE dX8_isCourt_18 (by omega) (by omega) (by first | exact Or.inl rfl | exact Or.inr rfl | exact b2i_b _) ⟨_, ⟨by simp_all [b2i], rfl⟩, hR⟩
  · refine zaload_n C dX8_isCourt_5 rfl ?_
    refine ziload_n C dX8_isCourt_6 rfl ?_
    refine zcallV C (m_isCommunity x hn M hR) hy_X8_isCommunity hv_X8_isCommunity hl_X8_141 hR.1 rfl rfl rfl rfl (by decide) (by decide) (by omega) (by omega) rfl (by exact Nat.le_of_ble_eq_true rfl) dX8_isCourt_7 (fun v7 M hp7 => ?_)
    obtain ⟨S1, ⟨rfl, hs⟩, hR⟩ := hp7
    rw [hs] at hR
    clear hs
    refine zif_eq (tgt := 17) C dX8_isCourt_10 (by decide) (fun h10 => ?_) (fun h10 => ?_)
    · replace h10 := b2i_0.mp h10
      refine zconst (v := 0) C dX8_isCourt_17 (by decide) ?_
      exact zend_z C hE dX8_isCourt_18 (by omega) (by omega) (by first | exact Or.inl rfl | exact Or.inr rfl | exact b2i_b _) ⟨_, ⟨by simp_all [b2i], rfl⟩, hR⟩
    · replace h10 := b2i_n0.mp h10
      refine zconst (v := 1) C dX8_isCourt_13 (by decide) ?_
      refine zgoto (tgt := 18) C dX8_isCourt_14 (by decide) ?_
      exact zend_z C hE dX8_isCourt_18 (by omega) (by omega) (by first | exact Or.inl rfl | exact Or.inr rfl | exact b2i_b _) ⟨_, ⟨by simp_all [b2i], rfl⟩, hR⟩

set_option maxRecDepth 100000 in
set_option maxHeartbeats 1000000 in
theorem m_isPerson {g : zGh} {M0 : zM} {mo : Nat} {ad : Nat → Nat} {S : zS} (x : Int32) (hn : S.1 13 < 2 ^ 30) : zMc g M0 mo ad yX8_isPerson cX8_isPerson 2 (some .boolean) 1 22 mkI [.int x] S (fun v S1 => v = b2i (zix x (S.1 13)) ∧ S1 = S) := by
  intro M hR
  refine zof [some (.ref mo), some (.int x)] (by decide +kernel) rfl rfl (Nat.le_of_ble_eq_true rfl) ?_
  intro X C hE hnm
  have C : zC g X RX8 cX8_isPerson 2 1 22 0 0 := C
  refine ziload_n C dX8_isPerson_0 rfl ?_
  refine zconst (v := 0) C dX8_isPerson_1 (by decide) ?_
  refine zaload_n C dX8_isPerson_2 rfl ?_
  refine zmgi C hR hf_X8_145 rfl dX8_isPerson_3 ?_
  refine zconst (v := 1) C dX8_isPerson_6 (by decide) ?_
  refine zisub C dX8_isPerson_7 ?_
  refine zcallS C (m_in x 0 (nI (S.1 13) - 1)) hy_X8_in hst_X8_in hl_X8_137 rfl rfl (by decide) (by decide) (by omega) (by omega) rfl (by exact Nat.le_of_ble_eq_true rfl) dX8_isPerson_8 (fun v8 M hp8 => ?_)
  obtain ⟨rfl, rfl⟩ := hp8
  exact zend_z C hE dX8_isPerson_11 (by omega) (by omega) (by first | exact Or.inl rfl | exact Or.inr rfl | exact b2i_b _) ⟨_, ⟨by rw [zin_zix hn], rfl⟩, hR⟩

set_option maxRecDepth 100000 in
set_option maxHeartbeats 1000000 in
theorem m_isMarriage {g : zGh} {M0 : zM} {mo : Nat} {ad : Nat → Nat} {S : zS} (x : Int32) (hn : S.1 25 < 2 ^ 30) : zMc g M0 mo ad yX8_isMarriage cX8_isMarriage 2 (some .boolean) 1 22 mkI [.int x] S (fun v S1 => v = b2i (zix x (S.1 25)) ∧ S1 = S) := by
  intro M hR
  refine zof [some (.ref mo), some (.int x)] (by decide +kernel) rfl rfl (Nat.le_of_ble_eq_true rfl) ?_
  intro X C hE hnm
  have C : zC g X RX8 cX8_isMarriage 2 1 22 0 0 := C
  refine ziload_n C dX8_isMarriage_0 rfl ?_
  refine zconst (v := 0) C dX8_isMarriage_1 (by decide) ?_
  refine zaload_n C dX8_isMarriage_2 rfl ?_
  refine zmgi C hR hf_X8_148 rfl dX8_isMarriage_3 ?_
  refine zconst (v := 1) C dX8_isMarriage_6 (by decide) ?_
  refine zisub C dX8_isMarriage_7 ?_
  refine zcallS C (m_in x 0 (nI (S.1 25) - 1)) hy_X8_in hst_X8_in hl_X8_137 rfl rfl (by decide) (by decide) (by omega) (by omega) rfl (by exact Nat.le_of_ble_eq_true rfl) dX8_isMarriage_8 (fun v8 M hp8 => ?_)
  obtain ⟨rfl, rfl⟩ := hp8
  exact zend_z C hE dX8_isMarriage_11 (by omega) (by omega) (by first | exact Or.inl rfl | exact Or.inr rfl | exact b2i_b _) ⟨_, ⟨by rw [zin_zix hn], rfl⟩, hR⟩

set_option maxRecDepth 100000 in
set_option maxHeartbeats 1000000 in
theorem m_isSuit {g : zGh} {M0 : zM} {mo : Nat} {ad : Nat → Nat} {S : zS} (x : Int32) (hn : S.1 33 < 2 ^ 30) : zMc g M0 mo ad yX8_isSuit cX8_isSuit 2 (some .boolean) 1 22 mkI [.int x] S (fun v S1 => v = b2i (zix x (S.1 33)) ∧ S1 = S) := by
  intro M hR
  refine zof [some (.ref mo), some (.int x)] (by decide +kernel) rfl rfl (Nat.le_of_ble_eq_true rfl) ?_
  intro X C hE hnm
  have C : zC g X RX8 cX8_isSuit 2 1 22 0 0 := C
  refine ziload_n C dX8_isSuit_0 rfl ?_
  refine zconst (v := 0) C dX8_isSuit_1 (by decide) ?_
  refine zaload_n C dX8_isSuit_2 rfl ?_
  refine zmgi C hR hf_X8_151 rfl dX8_isSuit_3 ?_
  refine zconst (v := 1) C dX8_isSuit_6 (by decide) ?_
  refine zisub C dX8_isSuit_7 ?_
  refine zcallS C (m_in x 0 (nI (S.1 33) - 1)) hy_X8_in hst_X8_in hl_X8_137 rfl rfl (by decide) (by decide) (by omega) (by omega) rfl (by exact Nat.le_of_ble_eq_true rfl) dX8_isSuit_8 (fun v8 M hp8 => ?_)
  obtain ⟨rfl, rfl⟩ := hp8
  exact zend_z C hE dX8_isSuit_11 (by omega) (by omega) (by first | exact Or.inl rfl | exact Or.inr rfl | exact b2i_b _) ⟨_, ⟨by rw [zin_zix hn], rfl⟩, hR⟩

set_option maxRecDepth 100000 in
set_option maxHeartbeats 1000000 in
theorem m_isRecognised {g : zGh} {M0 : zM} {mo : Nat} {ad : Nat → Nat} {S : zS} (c d : Nat) (hc : c < 6) (hd : d ≤ 30000) : zMc g M0 mo ad yX8_isRecognised cX8_isRecognised 3 (some .boolean) 0 0 mkI [.int (nI c), .int (nI d)] S (fun v S1 => v = b2i (recBit S c d) ∧ S1 = S) := by
  intro M hR
  refine zof [some (.ref mo), some (.int (nI c)), some (.int (nI d))] (by decide +kernel) rfl rfl (Nat.le_of_ble_eq_true rfl) ?_
  intro X C hE hnm
  have C : zC g X RX8 cX8_isRecognised 3 0 0 0 0 := C
  refine zaload_n C dX8_isRecognised_0 rfl ?_
  refine zmga C hR hf_X8_7 rfl dX8_isRecognised_1 ?_
  refine zsipush (v := 938) C dX8_isRecognised_4 (by decide) ?_
  refine ziload_n C dX8_isRecognised_7 rfl ?_
  refine zimul C dX8_isRecognised_8 ?_
  refine ziload_n C dX8_isRecognised_9 rfl ?_
  refine zbipush (v := 32) C dX8_isRecognised_10 (by decide) ?_
  refine zidiv C dX8_isRecognised_12 (by decide) ?_
  refine ziadd C dX8_isRecognised_13 ?_
  refine zmia (i0 := 938 * c + d / 32) C hR rfl rfl (zx_rec c d (by omega)) (show _ < 5628 from by omega) dX8_isRecognised_14 ?_
  refine ziload_n C dX8_isRecognised_15 rfl ?_
  refine zbipush (v := 32) C dX8_isRecognised_16 (by decide) ?_
  refine zirem C dX8_isRecognised_18 (by decide) ?_
  refine zishr C dX8_isRecognised_19 ?_
  refine zconst (v := 1) C dX8_isRecognised_20 (by decide) ?_
  refine ziand C dX8_isRecognised_21 ?_
  refine zconst (v := 1) C dX8_isRecognised_22 (by decide) ?_
  rw [zx_rem d (by omega), zb_bit _ _ (Nat.mod_lt _ (by decide))]
  refine zicmp_ne (tgt := 30) C dX8_isRecognised_23 (by decide) (fun h23 => ?_) (fun h23 => ?_)
  · have e : recBit S c d = false := b2i_0.mp (by rcases b2i_b (recBit S c d) with e | e; exact e; exact absurd e h23)
    refine zconst (v := 0) C dX8_isRecognised_30 (by decide) ?_
    exact zend_z C hE dX8_isRecognised_31 (by omega) (by omega) (by first | exact Or.inl rfl | exact Or.inr rfl | exact b2i_b _) ⟨_, ⟨by rw [e]; rfl, rfl⟩, hR⟩
  · have e : recBit S c d = true := b2i_1.mp h23
    refine zconst (v := 1) C dX8_isRecognised_26 (by decide) ?_
    refine zgoto (tgt := 31) C dX8_isRecognised_27 (by decide) ?_
    exact zend_z C hE dX8_isRecognised_31 (by omega) (by omega) (by first | exact Or.inl rfl | exact Or.inr rfl | exact b2i_b _) ⟨_, ⟨by rw [e]; rfl, rfl⟩, hR⟩

set_option maxRecDepth 100000 in
set_option maxHeartbeats 1000000 in
theorem m_recognises {g : zGh} {M0 : zM} {mo : Nat} {ad : Nat → Nat} {S : zS} (c : Nat) (on : Bool) (hc : c < 6) (ht : S.1 1 ≤ 30000) : zMc g M0 mo ad yX8_recognises cX8_recognises 5 none 0 0 mkV [.int (nI c), .int (b2i on)] S (fun v S1 => S1 = recS S c on) := by
  intro M hR
  refine zof [some (.ref mo), some (.int (nI c)), some (.int (b2i on)), none, none] (by decide +kernel) rfl rfl (Nat.le_of_ble_eq_true rfl) ?_
  intro X C hE hnm
  have C : zC g X RX8 cX8_recognises 5 0 0 0 0 := C
  have loop : ∀ (r i : Nat), i + r = 30001 - S.1 1 → ∀ M, zR g M0 mo ad (zsA S 3 (recF (S.2.2.1 3) c on (S.1 1) i)) M → zG g X M 0 0 5 [some (.ref mo), some (.int (nI c)), some (.int (b2i on)), some (.int (nI (S.1 1 + i))), none] [] := by
    intro r
    induction r with
    | zero =>
      intro i hi M hR
      refine ziload_n C dX8_recognises_5 rfl ?_
      refine zsipush (v := 30000) C dX8_recognises_6 (by decide) ?_
      refine zicmp_gt (tgt := 68) C dX8_recognises_9 (by decide) (fun h9 => ?_) (fun h9 => absurd (nI_lt (a := 30000) (b := S.1 1 + i) (by omega) (by omega)) h9)
      exact zend_v C hE dX8_recognises_68 (by omega) (by omega) ⟨_, by rw [recS, show 30001 - S.1 1 = i by omega], hR⟩
    | succ r ih =>
      intro i hi M hR
      have hd : S.1 1 + i ≤ 30000 := by omega
      have hq : 938 * c + (S.1 1 + i) / 32 < 5628 := by omega
      refine ziload_n C dX8_recognises_5 rfl ?_
      refine zsipush (v := 30000) C dX8_recognises_6 (by decide) ?_
      refine zicmp_gt (tgt := 68) C dX8_recognises_9 (by decide) (fun h9 => absurd h9 (fun h => absurd h (by rw [Int32.lt_iff_toInt_lt, nI_toInt (by omega)]; show ¬ (30000 : Int) < _; omega))) (fun h9 => ?_)
      refine zsipush (v := 938) C dX8_recognises_12 (by decide) ?_
      refine ziload_n C dX8_recognises_15 rfl ?_
      refine zimul C dX8_recognises_16 ?_
      refine ziload_n C dX8_recognises_17 rfl ?_
      refine zbipush (v := 32) C dX8_recognises_18 (by decide) ?_
      refine zidiv C dX8_recognises_20 (by decide) ?_
      refine ziadd C dX8_recognises_21 ?_
      rw [zx_rec c (S.1 1 + i) (by omega)]
      refine zistore (L1 := [_, _, _, _, _]) C dX8_recognises_22 rfl (Nat.le_of_ble_eq_true rfl) ?_
      refine zaload_n C dX8_recognises_24 rfl ?_
      refine zmga C hR hf_X8_7 rfl dX8_recognises_25 ?_
      refine ziload C dX8_recognises_28 rfl ?_
      refine zaload_n C dX8_recognises_30 rfl ?_
      refine zmga C hR hf_X8_7 rfl dX8_recognises_31 ?_
      refine ziload C dX8_recognises_34 rfl ?_
      refine zmia (i0 := 938 * c + (S.1 1 + i) / 32) C hR rfl rfl rfl (show _ < 5628 from by omega) dX8_recognises_36 ?_
      refine zconst (v := 1) C dX8_recognises_37 (by decide) ?_
      refine ziload_n C dX8_recognises_38 rfl ?_
      refine zbipush (v := 32) C dX8_recognises_39 (by decide) ?_
      refine zirem C dX8_recognises_41 (by decide) ?_
      rw [zx_rem (S.1 1 + i) (by omega)]
      refine zishl C dX8_recognises_42 ?_
      refine zconst (v := -1) C dX8_recognises_43 (by decide) ?_
      refine zixor C dX8_recognises_44 ?_
      refine ziand C dX8_recognises_45 ?_
      refine ziload_n C dX8_recognises_46 rfl ?_
      refine zif_eq (tgt := 59) C dX8_recognises_47 (by decide) (fun h47 => ?_) (fun h47 => ?_)
      · have eo : on = false := b2i_0.mp h47
        refine zconst (v := 0) C dX8_recognises_59 (by decide) ?_
        refine zior C dX8_recognises_60 ?_
        refine zmis (i0 := 938 * c + (S.1 1 + i) / 32) C hR rfl rfl rfl (show _ < 5628 from by omega) dX8_recognises_61 (fun M hR => ?_)
        have hR2 := hR.eqv (S1 := zsA S 3 (recF (S.2.2.1 3) c on (S.1 1) (i + 1))) (by rw [zsA_A]; simp [recF, recW, eo, zsA_s])
        refine ziinc (L1 := [_, _, _, _, _]) (v := nI (S.1 1 + (i + 1))) C dX8_recognises_62 rfl (nI_1 (S.1 1 + i)) rfl ?_
        refine zgoto (tgt := 5) C dX8_recognises_65 (by decide) ?_
        refine zfor [true, true, true, true, false] (L1 := [_, _, _, _, _]) rfl ?_
        exact ih (i + 1) (by omega) M hR2
      · have eo : on = true := by cases on; exact absurd rfl h47; rfl
        refine zconst (v := 1) C dX8_recognises_50 (by decide) ?_
        refine ziload_n C dX8_recognises_51 rfl ?_
        refine zbipush (v := 32) C dX8_recognises_52 (by decide) ?_
        refine zirem C dX8_recognises_54 (by decide) ?_
        rw [zx_rem (S.1 1 + i) (by omega)]
        refine zishl C dX8_recognises_55 ?_
        refine zgoto (tgt := 60) C dX8_recognises_56 (by decide) ?_
        refine zior C dX8_recognises_60 ?_
        refine zmis (i0 := 938 * c + (S.1 1 + i) / 32) C hR rfl rfl rfl (show _ < 5628 from by omega) dX8_recognises_61 (fun M hR => ?_)
        have hR2 := hR.eqv (S1 := zsA S 3 (recF (S.2.2.1 3) c on (S.1 1) (i + 1))) (by rw [zsA_A]; simp [recF, recW, eo, zsA_s])
        refine ziinc (L1 := [_, _, _, _, _]) (v := nI (S.1 1 + (i + 1))) C dX8_recognises_62 rfl (nI_1 (S.1 1 + i)) rfl ?_
        refine zgoto (tgt := 5) C dX8_recognises_65 (by decide) ?_
        refine zfor [true, true, true, true, false] (L1 := [_, _, _, _, _]) rfl ?_
        exact ih (i + 1) (by omega) M hR2
  refine zaload_n C dX8_recognises_0 rfl ?_
  refine zmgi C hR hf_X8_154 rfl dX8_recognises_1 ?_
  refine zistore_n (L1 := [_, _, _, _, _]) C dX8_recognises_4 rfl (Nat.le_of_ble_eq_true rfl) ?_
  exact loop (30001 - S.1 1) 0 (by omega) M (hR.eqv (zsA_id _ _).symm)