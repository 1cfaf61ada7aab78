theorem zgt_n {x y : Int32} (h : y < x) : ¬ x ≤ y := by rw [Int32.le_iff_toInt_le]; rw [Int32.lt_iff_toInt_lt] at h; omega
theorem zngt {x y : Int32} (h : ¬ y < x) : x ≤ y := by rw [Int32.le_iff_toInt_le]; rw [Int32.lt_iff_toInt_lt] at h; omega
theorem nI_pos_lt {n : Nat} (h0 : 0 < n) (h : n < 2 ^ 31) : 0 < nI n := by
  rw [Int32.lt_iff_toInt_lt, nI_toInt h]
  show (0 : Int) < _
  omega
set_option maxRecDepth 100000 in
set_option maxHeartbeats 1000000 in
theorem m_lawOf {g : zGh} {M0 : zM} {mo : Nat} {ad : Nat → Nat} {S : zS} (c w d : Int32) (hn : S.1 4 ≤ 100) : zMc g M0 mo ad yX8_lawOf cX8_lawOf 7 (some .int) 0 0 mkI [.int c, .int w, .int d] S (fun v S1 => v = lawOf S c w d ∧ S1 = S) := by
  intro M hR
  refine zof [some (.ref mo), some (.int c), some (.int w), some (.int d), none, none, none] (by decide +kernel) rfl rfl (Nat.le_of_ble_eq_true rfl) ?_
  intro X C hE hnm
  have C : zC g X RX8 cX8_lawOf 7 0 0 0 0 := C
  have loop : ∀ (r i : Nat), i + r = S.1 4 → zG g X M 0 0 50 [some (.ref mo), some (.int c), some (.int w), some (.int d), some (.int (lawL (S.2.2.1 5) (S.2.2.1 6) (S.2.2.1 7) (S.2.2.1 8) c w d i)), some (.int (nI i)), none] [] := by
    intro r
    induction r with
    | zero =>
      intro i hi 
      refine ziload C dX8_lawOf_50 rfl ?_
      refine zaload_n C dX8_lawOf_52 rfl ?_
      refine zmgi C hR hf_X8_168 rfl dX8_lawOf_53 ?_
      refine zicmp_ge (tgt := 124) C dX8_lawOf_56 (by decide) (fun h56 => ?_) (fun h56 => absurd (nI_le (by omega) (by omega)) h56)
      refine ziload C dX8_lawOf_124 rfl ?_
      exact zend_i C hE dX8_lawOf_126 (by omega) (by omega) ⟨_, ⟨by rw [lawOf, show S.1 4 = i by omega], rfl⟩, hR⟩
    | succ r ih =>
      intro i hi 
      refine ziload C dX8_lawOf_50 rfl ?_
      refine zaload_n C dX8_lawOf_52 rfl ?_
      refine zmgi C hR hf_X8_168 rfl dX8_lawOf_53 ?_
      refine zicmp_ge (tgt := 124) C dX8_lawOf_56 (by decide) (fun h56 => absurd h56 (nI_ge (by omega) (by omega))) (fun h56 => ?_)
      refine zaload_n C dX8_lawOf_59 rfl ?_
      refine zmga C hR hf_X8_13 rfl dX8_lawOf_60 ?_
      refine ziload C dX8_lawOf_63 rfl ?_
      refine zmia C hR rfl rfl rfl (show _ < 100 from by omega) dX8_lawOf_65 ?_
      refine ziload_n C dX8_lawOf_66 rfl ?_
      refine zicmp_ne (tgt := 96) C dX8_lawOf_67 (by decide) (fun h67 => ?_) (fun h67 => ?_)
      · refine zconst (v := 0) C dX8_lawOf_96 (by decide) ?_
        refine zistore (L1 := [_, _, _, _, _, _, _]) C dX8_lawOf_97 rfl (Nat.le_of_ble_eq_true rfl) ?_
        refine ziload C dX8_lawOf_99 rfl ?_
        refine zif_eq_t (tgt := 114) C dX8_lawOf_101 (by decide) (by decide) ?_
        refine ziload C dX8_lawOf_114 rfl ?_
        refine zistore (L1 := [_, _, _, _, _, _, _]) C dX8_lawOf_116 rfl (Nat.le_of_ble_eq_true rfl) ?_
        refine ziinc (L1 := [_, _, _, _, _, _, _]) (v := nI (i + 1)) C dX8_lawOf_118 rfl (nI_1 i) rfl ?_
        refine zgoto (tgt := 50) C dX8_lawOf_121 (by decide) ?_
        refine zfor [true, true, true, true, true, true, false] (L1 := [_, _, _, _, _, _, _]) rfl ?_
        exact zcg (ih (i + 1) (by omega)) (by simp [lawL, zk1, h67])
      · refine zaload_n C dX8_lawOf_70 rfl ?_
        refine zmga C hR hf_X8_16 rfl dX8_lawOf_71 ?_
        refine ziload C dX8_lawOf_74 rfl ?_
        refine zmia C hR rfl rfl rfl (show _ < 100 from by omega) dX8_lawOf_76 ?_
        refine ziload_n C dX8_lawOf_77 rfl ?_
        refine zicmp_ne (tgt := 96) C dX8_lawOf_78 (by decide) (fun h78 => ?_) (fun h78 => ?_)
        · refine zconst (v := 0) C dX8_lawOf_96 (by decide) ?_
          refine zistore (L1 := [_, _, _, _, _, _, _]) C dX8_lawOf_97 rfl (Nat.le_of_ble_eq_true rfl) ?_
          refine ziload C dX8_lawOf_99 rfl ?_
          refine zif_eq_t (tgt := 114) C dX8_lawOf_101 (by decide) (by decide) ?_
          refine ziload C dX8_lawOf_114 rfl ?_
          refine zistore (L1 := [_, _, _, _, _, _, _]) C dX8_lawOf_116 rfl (Nat.le_of_ble_eq_true rfl) ?_
          refine ziinc (L1 := [_, _, _, _, _, _, _]) (v := nI (i + 1)) C dX8_lawOf_118 rfl (nI_1 i) rfl ?_
          refine zgoto (tgt := 50) C dX8_lawOf_121 (by decide) ?_
          refine zfor [true, true, true, true, true, true, false] (L1 := [_, _, _, _, _, _, _]) rfl ?_
          exact zcg (ih (i + 1) (by omega)) (by simp [lawL, zk1, h67, h78])
        · refine zaload_n C dX8_lawOf_81 rfl ?_
          refine zmga C hR hf_X8_22 rfl dX8_lawOf_82 ?_
          refine ziload C dX8_lawOf_85 rfl ?_
          refine zmia C hR rfl rfl rfl (show _ < 100 from by omega) dX8_lawOf_87 ?_
          refine ziload_n C dX8_lawOf_88 rfl ?_
          refine zicmp_gt (tgt := 96) C dX8_lawOf_89 (by decide) (fun h89 => ?_) (fun h89 => ?_)
          · replace h89 := zgt_n h89
            refine zconst (v := 0) C dX8_lawOf_96 (by decide) ?_
            refine zistore (L1 := [_, _, _, _, _, _, _]) C dX8_lawOf_97 rfl (Nat.le_of_ble_eq_true rfl) ?_
            refine ziload C dX8_lawOf_99 rfl ?_
            refine zif_eq_t (tgt := 114) C dX8_lawOf_101 (by decide) (by decide) ?_
            refine ziload C dX8_lawOf_114 rfl ?_
            refine zistore (L1 := [_, _, _, _, _, _, _]) C dX8_lawOf_116 rfl (Nat.le_of_ble_eq_true rfl) ?_
            refine ziinc (L1 := [_, _, _, _, _, _, _]) (v := nI (i + 1)) C dX8_lawOf_118 rfl (nI_1 i) rfl ?_
            refine zgoto (tgt := 50) C dX8_lawOf_121 (by decide) ?_
            refine zfor [true, true, true, true, true, true, false] (L1 := [_, _, _, _, _, _, _]) rfl ?_
            exact zcg (ih (i + 1) (by omega)) (by simp [lawL, zk1, h67, h78, h89])
          · replace h89 := zngt h89
            refine zconst (v := 1) C dX8_lawOf_92 (by decide) ?_
            refine zgoto (tgt := 97) C dX8_lawOf_93 (by decide) ?_
            refine zistore (L1 := [_, _, _, _, _, _, _]) C dX8_lawOf_97 rfl (Nat.le_of_ble_eq_true rfl) ?_
            refine ziload C dX8_lawOf_99 rfl ?_
            refine zif_eq_f (tgt := 114) C dX8_lawOf_101 (by decide) (by decide) ?_
            refine zaload_n C dX8_lawOf_104 rfl ?_
            refine zmga C hR hf_X8_19 rfl dX8_lawOf_105 ?_
            refine ziload C dX8_lawOf_108 rfl ?_
            refine zmia C hR rfl rfl rfl (show _ < 100 from by omega) dX8_lawOf_110 ?_
            refine zgoto (tgt := 116) C dX8_lawOf_111 (by decide) ?_
            refine zistore (L1 := [_, _, _, _, _, _, _]) C dX8_lawOf_116 rfl (Nat.le_of_ble_eq_true rfl) ?_
            refine ziinc (L1 := [_, _, _, _, _, _, _]) (v := nI (i + 1)) C dX8_lawOf_118 rfl (nI_1 i) rfl ?_
            refine zgoto (tgt := 50) C dX8_lawOf_121 (by decide) ?_
            refine zfor [true, true, true, true, true, true, false] (L1 := [_, _, _, _, _, _, _]) rfl ?_
            exact zcg (ih (i + 1) (by omega)) (by simp [lawL, zk1, h67, h78, h89])
  refine ziload_n C dX8_lawOf_0 rfl ?_
  refine zconst (v := 1) C dX8_lawOf_1 (by decide) ?_
  refine zicmp_ne (tgt := 9) C dX8_lawOf_2 (by decide) (fun h2 => ?_) (fun h2 => ?_)
  · refine ziload_n C dX8_lawOf_9 rfl ?_
    refine zconst (v := 3) C dX8_lawOf_10 (by decide) ?_
    refine zicmp_ne (tgt := 19) C dX8_lawOf_11 (by decide) (fun h11 => ?_) (fun h11 => ?_)
    · refine ziload_n C dX8_lawOf_19 rfl ?_
      refine zbipush (v := 6) C dX8_lawOf_20 (by decide) ?_
      refine zicmp_ne (tgt := 30) C dX8_lawOf_22 (by decide) (fun h22 => ?_) (fun h22 => ?_)
      · refine ziload_n C dX8_lawOf_30 rfl ?_
        refine zconst (v := 2) C dX8_lawOf_31 (by decide) ?_
        refine zicmp_eq (tgt := 40) C dX8_lawOf_32 (by decide) (fun h32 => ?_) (fun h32 => ?_)
        · refine zconst (v := 1) C dX8_lawOf_40 (by decide) ?_
          refine zgoto (tgt := 45) C dX8_lawOf_41 (by decide) ?_
          refine zistore (L1 := [_, _, _, _, _, _, _]) C dX8_lawOf_45 rfl (Nat.le_of_ble_eq_true rfl) ?_
          refine zconst (v := 0) C dX8_lawOf_47 (by decide) ?_
          refine zistore (L1 := [_, _, _, _, _, _, _]) C dX8_lawOf_48 rfl (Nat.le_of_ble_eq_true rfl) ?_
          exact zcg (loop (S.1 4) 0 (by omega)) (by simp_all [lawL, lawI, nI_0, zk1])
        · refine ziload_n C dX8_lawOf_35 rfl ?_
          refine zconst (v := 4) C dX8_lawOf_36 (by decide) ?_
          refine zicmp_ne (tgt := 44) C dX8_lawOf_37 (by decide) (fun h37 => ?_) (fun h37 => ?_)
          · refine zconst (v := 0) C dX8_lawOf_44 (by decide) ?_
            refine zistore (L1 := [_, _, _, _, _, _, _]) C dX8_lawOf_45 rfl (Nat.le_of_ble_eq_true rfl) ?_
            refine zconst (v := 0) C dX8_lawOf_47 (by decide) ?_
            refine zistore (L1 := [_, _, _, _, _, _, _]) C dX8_lawOf_48 rfl (Nat.le_of_ble_eq_true rfl) ?_
            exact zcg (loop (S.1 4) 0 (by omega)) (by simp_all [lawL, lawI, nI_0, zk1])
          · refine zconst (v := 1) C dX8_lawOf_40 (by decide) ?_
            refine zgoto (tgt := 45) C dX8_lawOf_41 (by decide) ?_
            refine zistore (L1 := [_, _, _, _, _, _, _]) C dX8_lawOf_45 rfl (Nat.le_of_ble_eq_true rfl) ?_
            refine zconst (v := 0) C dX8_lawOf_47 (by decide) ?_
            refine zistore (L1 := [_, _, _, _, _, _, _]) C dX8_lawOf_48 rfl (Nat.le_of_ble_eq_true rfl) ?_
            exact zcg (loop (S.1 4) 0 (by omega)) (by simp_all [lawL, lawI, nI_0, zk1])
      · refine zbipush (v := 63) C dX8_lawOf_25 (by decide) ?_
        refine zgoto (tgt := 45) C dX8_lawOf_27 (by decide) ?_
        refine zistore (L1 := [_, _, _, _, _, _, _]) C dX8_lawOf_45 rfl (Nat.le_of_ble_eq_true rfl) ?_
        refine zconst (v := 0) C dX8_lawOf_47 (by decide) ?_
        refine zistore (L1 := [_, _, _, _, _, _, _]) C dX8_lawOf_48 rfl (Nat.le_of_ble_eq_true rfl) ?_
        exact zcg (loop (S.1 4) 0 (by omega)) (by simp_all [lawL, lawI, nI_0, zk1])
    · refine zbipush (v := 25) C dX8_lawOf_14 (by decide) ?_
      refine zgoto (tgt := 45) C dX8_lawOf_16 (by decide) ?_
      refine zistore (L1 := [_, _, _, _, _, _, _]) C dX8_lawOf_45 rfl (Nat.le_of_ble_eq_true rfl) ?_
      refine zconst (v := 0) C dX8_lawOf_47 (by decide) ?_
      refine zistore (L1 := [_, _, _, _, _, _, _]) C dX8_lawOf_48 rfl (Nat.le_of_ble_eq_true rfl) ?_
      exact zcg (loop (S.1 4) 0 (by omega)) (by simp_all [lawL, lawI, nI_0, zk1])
  · refine zconst (v := 2) C dX8_lawOf_5 (by decide) ?_
    refine zgoto (tgt := 45) C dX8_lawOf_6 (by decide) ?_
    refine zistore (L1 := [_, _, _, _, _, _, _]) C dX8_lawOf_45 rfl (Nat.le_of_ble_eq_true rfl) ?_
    refine zconst (v := 0) C dX8_lawOf_47 (by decide) ?_
    refine zistore (L1 := [_, _, _, _, _, _, _]) C dX8_lawOf_48 rfl (Nat.le_of_ble_eq_true rfl) ?_
    exact zcg (loop (S.1 4) 0 (by omega)) (by simp_all [lawL, lawI, nI_0, zk1])
set_option maxRecDepth 100000 in
set_option maxHeartbeats 1000000 in
theorem m_ruleOn {g : zGh} {M0 : zM} {mo : Nat} {ad : Nat → Nat} {S : zS} (m d : Int32) (hn : S.1 9 ≤ 40) : zMc g M0 mo ad yX8_ruleOn cX8_ruleOn 5 (some .int) 0 0 mkI [.int m, .int d] S (fun v S1 => v = ruleOn S m d ∧ S1 = S) := by
  intro M hR
  refine zof [some (.ref mo), some (.int m), some (.int d), none, none] (by decide +kernel) rfl rfl (Nat.le_of_ble_eq_true rfl) ?_
  intro X C hE hnm
  have C : zC g X RX8 cX8_ruleOn 5 0 0 0 0 := C
  have loop : ∀ (r i : Nat), i + r = S.1 9 → zG g X M 0 0 14 [some (.ref mo), some (.int m), some (.int d), some (.int (ruleL (S.2.2.1 10) (S.2.2.1 11) (S.2.2.1 12) m d i)), some (.int (nI i))] [] := by
    intro r
    induction r with
    | zero =>
      intro i hi 
      refine ziload C dX8_ruleOn_14 rfl ?_
      refine zaload_n C dX8_ruleOn_16 rfl ?_
      refine zmgi C hR hf_X8_181 rfl dX8_ruleOn_17 ?_
      refine zicmp_ge (tgt := 63) C dX8_ruleOn_20 (by decide) (fun h20 => ?_) (fun h20 => absurd (nI_le (by omega) (by omega)) h20)
      refine ziload_n C dX8_ruleOn_63 rfl ?_
      exact zend_i C hE dX8_ruleOn_64 (by omega) (by omega) ⟨_, ⟨by rw [ruleOn, show S.1 9 = i by omega], rfl⟩, hR⟩
    | succ r ih =>
      intro i hi 
      refine ziload C dX8_ruleOn_14 rfl ?_
      refine zaload_n C dX8_ruleOn_16 rfl ?_
      refine zmgi C hR hf_X8_181 rfl dX8_ruleOn_17 ?_
      refine zicmp_ge (tgt := 63) C dX8_ruleOn_20 (by decide) (fun h20 => absurd h20 (nI_ge (by omega) (by omega))) (fun h20 => ?_)
      refine zaload_n C dX8_ruleOn_23 rfl ?_
      refine zmga C hR hf_X8_25 rfl dX8_ruleOn_24 ?_
      refine ziload C dX8_ruleOn_27 rfl ?_
      refine zmia C hR rfl rfl rfl (show _ < 40 from by omega) dX8_ruleOn_29 ?_
      refine ziload_n C dX8_ruleOn_30 rfl ?_
      refine zicmp_ne (tgt := 55) C dX8_ruleOn_31 (by decide) (fun h31 => ?_) (fun h31 => ?_)
      · refine ziload_n C dX8_ruleOn_55 rfl ?_
        refine zistore_n (L1 := [_, _, _, _, _]) C dX8_ruleOn_56 rfl (Nat.le_of_ble_eq_true rfl) ?_
        refine ziinc (L1 := [_, _, _, _, _]) (v := nI (i + 1)) C dX8_ruleOn_57 rfl (nI_1 i) rfl ?_
        refine zgoto (tgt := 14) C dX8_ruleOn_60 (by decide) ?_
        exact zcg (ih (i + 1) (by omega)) (by simp [ruleL, zk1, h31])
      · refine zaload_n C dX8_ruleOn_34 rfl ?_
        refine zmga C hR hf_X8_31 rfl dX8_ruleOn_35 ?_
        refine ziload C dX8_ruleOn_38 rfl ?_
        refine zmia C hR rfl rfl rfl (show _ < 40 from by omega) dX8_ruleOn_40 ?_
        refine ziload_n C dX8_ruleOn_41 rfl ?_
        refine zicmp_gt (tgt := 55) C dX8_ruleOn_42 (by decide) (fun h42 => ?_) (fun h42 => ?_)
        · replace h42 := zgt_n h42
          refine ziload_n C dX8_ruleOn_55 rfl ?_
          refine zistore_n (L1 := [_, _, _, _, _]) C dX8_ruleOn_56 rfl (Nat.le_of_ble_eq_true rfl) ?_
          refine ziinc (L1 := [_, _, _, _, _]) (v := nI (i + 1)) C dX8_ruleOn_57 rfl (nI_1 i) rfl ?_
          refine zgoto (tgt := 14) C dX8_ruleOn_60 (by decide) ?_
          exact zcg (ih (i + 1) (by omega)) (by simp [ruleL, zk1, h31, h42])
        · replace h42 := zngt h42
          refine zaload_n C dX8_ruleOn_45 rfl ?_
          refine zmga C hR hf_X8_28 rfl dX8_ruleOn_46 ?_
          refine ziload C dX8_ruleOn_49 rfl ?_
          refine zmia C hR rfl rfl rfl (show _ < 40 from by omega) dX8_ruleOn_51 ?_
          refine zgoto (tgt := 56) C dX8_ruleOn_52 (by decide) ?_
          refine zistore_n (L1 := [_, _, _, _, _]) C dX8_ruleOn_56 rfl (Nat.le_of_ble_eq_true rfl) ?_
          refine ziinc (L1 := [_, _, _, _, _]) (v := nI (i + 1)) C dX8_ruleOn_57 rfl (nI_1 i) rfl ?_
          refine zgoto (tgt := 14) C dX8_ruleOn_60 (by decide) ?_
          exact zcg (ih (i + 1) (by omega)) (by simp [ruleL, zk1, h31, h42])
  refine ziload_n C dX8_ruleOn_0 rfl ?_
  refine zconst (v := 3) C dX8_ruleOn_1 (by decide) ?_
  refine zicmp_ne (tgt := 9) C dX8_ruleOn_2 (by decide) (fun h2 => ?_) (fun h2 => ?_)
  · refine zconst (v := 0) C dX8_ruleOn_9 (by decide) ?_
    refine zistore_n (L1 := [_, _, _, _, _]) C dX8_ruleOn_10 rfl (Nat.le_of_ble_eq_true rfl) ?_
    refine zconst (v := 0) C dX8_ruleOn_11 (by decide) ?_
    refine zistore (L1 := [_, _, _, _, _]) C dX8_ruleOn_12 rfl (Nat.le_of_ble_eq_true rfl) ?_
    exact zcg (loop (S.1 9) 0 (by omega)) (by simp_all [ruleL, nI_0, zk1])
  · refine zconst (v := 1) C dX8_ruleOn_5 (by decide) ?_
    refine zgoto (tgt := 10) C dX8_ruleOn_6 (by decide) ?_
    refine zistore_n (L1 := [_, _, _, _, _]) C dX8_ruleOn_10 rfl (Nat.le_of_ble_eq_true rfl) ?_
    refine zconst (v := 0) C dX8_ruleOn_11 (by decide) ?_
    refine zistore (L1 := [_, _, _, _, _]) C dX8_ruleOn_12 rfl (Nat.le_of_ble_eq_true rfl) ?_
    exact zcg (loop (S.1 9) 0 (by omega)) (by simp_all [ruleL, nI_0, zk1])
set_option maxRecDepth 100000 in
set_option maxHeartbeats 1000000 in
theorem m_faithOn {g : zGh} {M0 : zM} {mo : Nat} {ad : Nat → Nat} {S : zS} (p : Nat) (d : Int32) (t : Nat) (hp : p < 40) (ht : t < 1024) (htk : S.2.2.1 20 p = nI (t + 1)) : zMc g M0 mo ad yX8_faithOn cX8_faithOn 4 (some .int) 0 0 mkI [.int (nI p), .int d] S (fun v S1 => v = faithOn (S.2.2.1 21) p d t ∧ S1 = S) := by
  intro M hR
  refine zof [some (.ref mo), some (.int (nI p)), some (.int d), none] (by decide +kernel) rfl rfl (Nat.le_of_ble_eq_true rfl) ?_
  intro X C hE hnm
  have C : zC g X RX8 cX8_faithOn 4 0 0 0 0 := C
  have loop : ∀ (i : Nat), i ≤ t → fIx (S.2.2.1 21) p d i = fIx (S.2.2.1 21) p d t → zG g X M 0 0 9 [some (.ref mo), some (.int (nI p)), some (.int d), some (.int (nI i))] [] := by
    intro i
    induction i with
    | zero =>
      intro hi hx
      refine ziload_n C dX8_faithOn_9 rfl ?_
      refine zif_le_t (tgt := 38) C dX8_faithOn_10 (by decide) (by decide) ?_
      refine zaload_n C dX8_faithOn_38 rfl ?_
      refine zmga C hR hf_X8_58 rfl dX8_faithOn_39 ?_
      refine zsipush (v := 1024) C dX8_faithOn_42 (by decide) ?_
      refine ziload_n C dX8_faithOn_45 rfl ?_
      refine zimul C dX8_faithOn_46 ?_
      refine ziload_n C dX8_faithOn_47 rfl ?_
      refine ziadd C dX8_faithOn_48 ?_
      refine zmia (i0 := 1024 * p + 0) C hR rfl rfl (zx_tk p 0) (show _ < 40960 from by omega) dX8_faithOn_49 ?_
      refine zbipush (v := 8) C dX8_faithOn_50 (by decide) ?_
      refine zirem C dX8_faithOn_52 (by decide) ?_
      exact zend_i C hE dX8_faithOn_53 (by omega) (by omega) ⟨_, ⟨by rw [faithOn, ← hx]; rfl, rfl⟩, hR⟩
    | succ i ih =>
      intro hi hx
      refine ziload_n C dX8_faithOn_9 rfl ?_
      refine zif_le_f (tgt := 38) C dX8_faithOn_10 (by decide) (nI_nle (by omega) (by omega)) ?_
      refine zaload_n C dX8_faithOn_13 rfl ?_
      refine zmga C hR hf_X8_58 rfl dX8_faithOn_14 ?_
      refine zsipush (v := 1024) C dX8_faithOn_17 (by decide) ?_
      refine ziload_n C dX8_faithOn_20 rfl ?_
      refine zimul C dX8_faithOn_21 ?_
      refine ziload_n C dX8_faithOn_22 rfl ?_
      refine ziadd C dX8_faithOn_23 ?_
      refine zmia (i0 := 1024 * p + (i + 1)) C hR rfl rfl (zx_tk p (i + 1)) (show _ < 40960 from by omega) dX8_faithOn_24 ?_
      refine zbipush (v := 8) C dX8_faithOn_25 (by decide) ?_
      refine zidiv C dX8_faithOn_27 (by decide) ?_
      refine ziload_n C dX8_faithOn_28 rfl ?_
      refine zicmp_le (tgt := 38) C dX8_faithOn_29 (by decide) (fun h29 => ?_) (fun h29 => ?_)
      · refine zaload_n C dX8_faithOn_38 rfl ?_
        refine zmga C hR hf_X8_58 rfl dX8_faithOn_39 ?_
        refine zsipush (v := 1024) C dX8_faithOn_42 (by decide) ?_
        refine ziload_n C dX8_faithOn_45 rfl ?_
        refine zimul C dX8_faithOn_46 ?_
        refine ziload_n C dX8_faithOn_47 rfl ?_
        refine ziadd C dX8_faithOn_48 ?_
        refine zmia (i0 := 1024 * p + (i + 1)) C hR rfl rfl (zx_tk p (i + 1)) (show _ < 40960 from by omega) dX8_faithOn_49 ?_
        refine zbipush (v := 8) C dX8_faithOn_50 (by decide) ?_
        refine zirem C dX8_faithOn_52 (by decide) ?_
        exact zend_i C hE dX8_faithOn_53 (by omega) (by omega) ⟨_, ⟨by rw [faithOn, ← hx, fIx, if_neg (by rw [Int32.lt_iff_toInt_lt]; rw [Int32.le_iff_toInt_le] at h29; omega)], rfl⟩, hR⟩
      · refine ziinc (L1 := [_, _, _, _]) (v := nI i) C dX8_faithOn_32 rfl (pk_m1 i) rfl ?_
        refine zgoto (tgt := 9) C dX8_faithOn_35 (by decide) ?_
        exact ih (by omega) (by rw [← hx, fIx, if_pos (by rw [Int32.lt_iff_toInt_lt]; rw [Int32.le_iff_toInt_le] at h29; omega)])
  refine zaload_n C dX8_faithOn_0 rfl ?_
  refine zmga C hR hf_X8_54 rfl dX8_faithOn_1 ?_
  refine ziload_n C dX8_faithOn_4 rfl ?_
  refine zmia C hR rfl rfl rfl (show _ < 40 from by omega) dX8_faithOn_5 ?_
  refine zconst (v := 1) C dX8_faithOn_6 (by decide) ?_
  refine zisub C dX8_faithOn_7 ?_
  rw [htk, nI_pred]
  refine zistore_n (L1 := [_, _, _, _]) C dX8_faithOn_8 rfl (Nat.le_of_ble_eq_true rfl) ?_
  exact loop t (Nat.le_refl _) rfl
