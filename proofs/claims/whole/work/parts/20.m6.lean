theorem zsL_t (S : zS) (v : Nat) : (zsN S 0 v).2.2.2 = S.2.2.2 := rfl
theorem zlt_n {x y : Int32} (h : x < y) : ¬ y ≤ x := by rw [Int32.le_iff_toInt_le]; rw [Int32.lt_iff_toInt_lt] at h; omega
theorem znlt {x y : Int32} (h : ¬ x < y) : y ≤ x := by rw [Int32.le_iff_toInt_le]; rw [Int32.lt_iff_toInt_lt] at h; omega
set_option maxRecDepth 100000 in
set_option maxHeartbeats 1000000 in
theorem m_divorce {g : zGh} {M0 : zM} {mo : Nat} {ad : Nat → Nat} {S : zS} (m : Int32) (by' : Bool) (hi : iB S) (hP : iPs S) (hM : ∀ m, m < S.1 25 → iM S m) : zMc g M0 mo ad yX8_divorce cX8_divorce 8 (some .boolean) 2 52 mkI [.int m, .int (b2i by')] S (fun v S1 => (S1, v) = o_divorce S m by') := by
  intro M hR
  refine zof [some (.ref mo), some (.int m), some (.int (b2i by')), none, none, none, none, none] (by decide +kernel) rfl rfl (Nat.le_of_ble_eq_true rfl) ?_
  intro X C hE hnm
  have C : zC g X RX8 cX8_divorce 8 2 52 0 0 := C
  obtain ⟨hb1, hb2, hb4, hb9, hb13, hb25, hb33⟩ := id hi
  refine zaload_n C dX8_divorce_0 rfl ?_
  refine ziload_n C dX8_divorce_1 rfl ?_
  refine zcallV C (m_isMarriage m (by omega) M hR) hy_X8_isMarriage hv_X8_isMarriage hl_X8_226 hR.1 rfl rfl rfl rfl (by decide) (by decide) (by omega) (by omega) rfl (by exact Nat.le_of_ble_eq_true rfl) dX8_divorce_2 (fun v2 M hp2 => ?_)
  obtain ⟨S1, ⟨rfl, hs⟩, hR⟩ := hp2
  rw [hs] at hR
  clear hs
  refine zistore_n (L1 := [_, _, _, _, _, _, _, _]) C dX8_divorce_5 rfl (Nat.le_of_ble_eq_true rfl) ?_
  refine zaload_n C dX8_divorce_6 rfl ?_
  refine ziload_n C dX8_divorce_7 rfl ?_
  refine zif_ne (tgt := 15) C dX8_divorce_8 (by decide) (fun h8 => ?_) (fun h8 => ?_)
  · replace h8 := b2i_n0.mp h8
    obtain ⟨mn, hmn, rfl⟩ := zix_of h8 (by omega)
    have emn := nI_clamp (show mn < 2 ^ 31 by omega)
    refine zaload_n C dX8_divorce_15 rfl ?_
    refine zmga C hR hf_X8_76 rfl dX8_divorce_16 ?_
    refine ziload_n C dX8_divorce_19 rfl ?_
    refine zmia C hR rfl rfl rfl (show _ < 30 from by omega) dX8_divorce_20 ?_
    refine zif_eq (tgt := 28) C dX8_divorce_21 (by decide) (fun h21 => ?_) (fun h21 => ?_)
    · refine zconst (v := 0) C dX8_divorce_28 (by decide) ?_
      refine zcallV C (m_holds 0 (by decide) M hR) hy_X8_holds hv_X8_holds hl_X8_157 hR.1 rfl rfl rfl rfl (by decide) (by decide) (by omega) (by omega) rfl (by exact Nat.le_of_ble_eq_true rfl) dX8_divorce_29 (fun v29 M hp29 => ?_)
      obtain ⟨S1, ⟨rfl, hs⟩, hR⟩ := hp29
      rw [hs] at hR
      clear hs
      refine zif_ne_t (tgt := 37) C dX8_divorce_32 (by decide) (by decide) ?_
      refine zaload_n C dX8_divorce_37 rfl ?_
      refine zconst (v := 1) C dX8_divorce_38 (by decide) ?_
      refine zaload_n C dX8_divorce_39 rfl ?_
      refine zmga C hR hf_X8_70 rfl dX8_divorce_40 ?_
      refine ziload_n C dX8_divorce_43 rfl ?_
      obtain ⟨hn, wn, hhn, hwn, eh, ew⟩ := hM mn hmn
      have ehn := nI_clamp (show hn < 2 ^ 31 by omega)
      have ewn := nI_clamp (show wn < 2 ^ 31 by omega)
      refine zmia C hR rfl rfl rfl (show _ < 30 from by omega) dX8_divorce_44 ?_
      rw [show (zsN S 0 0).2.2.1 26 mn = nI hn from eh]
      refine zaload_n C dX8_divorce_45 rfl ?_
      refine zmga C hR hf_X8_73 rfl dX8_divorce_46 ?_
      refine ziload_n C dX8_divorce_49 rfl ?_
      refine zmia C hR rfl rfl rfl (show _ < 30 from by omega) dX8_divorce_50 ?_
      rw [show (zsN S 0 0).2.2.1 27 mn = nI wn from ew]
      refine zaload_n C dX8_divorce_51 rfl ?_
      refine zmgi C hR hf_X8_154 rfl dX8_divorce_52 ?_
      refine zcallV C (m_courtOn (S := th S 0) 1 hn wn (S.1 1) hb9 hb1 (by omega) (by omega) (hP hn hhn).1 (hP wn hwn).1 (by obtain ⟨c, h1, h2⟩ := (hP hn hhn).2.2 (nI (S.1 1)); exact ⟨c, by omega, h2⟩) (by obtain ⟨c, h1, h2⟩ := (hP wn hwn).2.2 (nI (S.1 1)); exact ⟨c, by omega, h2⟩) M hR) hy_X8_courtOn hv_X8_courtOn hl_X8_194 hR.1 rfl rfl rfl rfl (by decide) (by decide) (by omega) (by omega) rfl (by exact Nat.le_of_ble_eq_true rfl) dX8_divorce_55 (fun v55 M hp55 => ?_)
      obtain ⟨S1, ⟨hv, hs⟩, hR⟩ := hp55
      have hv : v55 = courtOn S 1 hn wn (S.1 1) := hv
      subst hv
      rw [hs] at hR
      clear hs
      refine zistore (L1 := [_, _, _, _, _, _, _, _]) C dX8_divorce_58 rfl (Nat.le_of_ble_eq_true rfl) ?_
      refine zaload_n C dX8_divorce_60 rfl ?_
      refine ziload C dX8_divorce_61 rfl ?_
      refine zconst (v := 1) C dX8_divorce_63 (by decide) ?_
      refine zaload_n C dX8_divorce_64 rfl ?_
      refine zmgi C hR hf_X8_154 rfl dX8_divorce_65 ?_
      refine zcallV C (m_lawOf (S := th S 0) _ 1 (nI (S.1 1)) hb4 M hR) hy_X8_lawOf hv_X8_lawOf hl_X8_177 hR.1 rfl rfl rfl rfl (by decide) (by decide) (by omega) (by omega) rfl (by exact Nat.le_of_ble_eq_true rfl) dX8_divorce_68 (fun v68 M hp68 => ?_)
      obtain ⟨S1, ⟨hv, hs⟩, hR⟩ := hp68
      have hv : v68 = lawOf S (courtOn S 1 hn wn (S.1 1)) 1 (nI (S.1 1)) := hv
      subst hv
      rw [hs] at hR
      clear hs
      refine zistore (L1 := [_, _, _, _, _, _, _, _]) C dX8_divorce_71 rfl (Nat.le_of_ble_eq_true rfl) ?_
      refine zjn 92 (fun x => x = if by' = true then S.2.2.1 32 mn else S.2.2.1 31 mn) (fun J73_4 => ?_) (fun x73 hx73 => ?_)
      · refine ziload_n C dX8_divorce_73 rfl ?_
        refine zif_eq (tgt := 86) C dX8_divorce_74 (by decide) (fun h74 => ?_) (fun h74 => ?_)
        · replace h74 := b2i_0.mp h74
          refine zaload_n C dX8_divorce_86 rfl ?_
          refine zmga C hR hf_X8_85 rfl dX8_divorce_87 ?_
          refine ziload_n C dX8_divorce_90 rfl ?_
          refine zmza C hR rfl rfl rfl (show _ < 30 from by omega) dX8_divorce_91 ?_
          exact J73_4 _ (by simp [h74]; rfl)
        · replace h74 := b2i_n0.mp h74
          refine zaload_n C dX8_divorce_77 rfl ?_
          refine zmga C hR hf_X8_88 rfl dX8_divorce_78 ?_
          refine ziload_n C dX8_divorce_81 rfl ?_
          refine zmza C hR rfl rfl rfl (show _ < 30 from by omega) dX8_divorce_82 ?_
          refine zgoto (tgt := 92) C dX8_divorce_83 (by decide) ?_
          exact J73_4 _ (by simp [h74]; rfl)
      · subst hx73
        refine zistore (L1 := [_, _, _, _, _, _, _, _]) C dX8_divorce_92 rfl (Nat.le_of_ble_eq_true rfl) ?_
        refine zaload_n C dX8_divorce_94 rfl ?_
        refine zmga C hR hf_X8_85 rfl dX8_divorce_95 ?_
        refine ziload_n C dX8_divorce_98 rfl ?_
        refine zjn 117 (fun x => x = b2i (decide (S.2.2.1 31 mn ≠ 0) || by')) (fun J99_6 => ?_) (fun x99 hx99 => ?_)
        · refine zaload_n C dX8_divorce_99 rfl ?_
          refine zmga C hR hf_X8_85 rfl dX8_divorce_100 ?_
          refine ziload_n C dX8_divorce_103 rfl ?_
          refine zmza C hR rfl rfl rfl (show _ < 30 from by omega) dX8_divorce_104 ?_
          refine zif_ne (tgt := 112) C dX8_divorce_105 (by decide) (fun h105 => ?_) (fun h105 => ?_)
          · replace h105 : ¬ S.2.2.1 31 mn = 0 := h105
            refine zconst (v := 1) C dX8_divorce_112 (by decide) ?_
            refine zgoto (tgt := 117) C dX8_divorce_113 (by decide) ?_
            exact J99_6 _ (by simp [b2i, h105])
          · replace h105 : S.2.2.1 31 mn = 0 := h105
            refine ziload_n C dX8_divorce_108 rfl ?_
            refine zif_eq (tgt := 116) C dX8_divorce_109 (by decide) (fun h109 => ?_) (fun h109 => ?_)
            · replace h109 := b2i_0.mp h109
              refine zconst (v := 0) C dX8_divorce_116 (by decide) ?_
              exact J99_6 _ (by simp [b2i, h105, h109])
            · replace h109 := b2i_n0.mp h109
              refine zconst (v := 1) C dX8_divorce_112 (by decide) ?_
              refine zgoto (tgt := 117) C dX8_divorce_113 (by decide) ?_
              exact J99_6 _ (by simp [b2i, h105, h109])
        · subst hx99
          refine zmzs C hR rfl rfl rfl (show _ < 30 from by omega) (b2i_b _) dX8_divorce_117 (fun M hR => ?_)
          refine zaload_n C dX8_divorce_118 rfl ?_
          refine zmga C hR hf_X8_88 rfl dX8_divorce_119 ?_
          refine ziload_n C dX8_divorce_122 rfl ?_
          refine zjn 141 (fun x => x = b2i (decide (S.2.2.1 32 mn ≠ 0) || !by')) (fun J123_7 => ?_) (fun x123 hx123 => ?_)
          · refine zaload_n C dX8_divorce_123 rfl ?_
            refine zmga C hR hf_X8_88 rfl dX8_divorce_124 ?_
            refine ziload_n C dX8_divorce_127 rfl ?_
            refine zmza C hR rfl rfl rfl (show _ < 30 from by omega) dX8_divorce_128 ?_
            refine zif_ne (tgt := 136) C dX8_divorce_129 (by decide) (fun h129 => ?_) (fun h129 => ?_)
            · replace h129 : ¬ S.2.2.1 32 mn = 0 := h129
              refine zconst (v := 1) C dX8_divorce_136 (by decide) ?_
              refine zgoto (tgt := 141) C dX8_divorce_137 (by decide) ?_
              exact J123_7 _ (by simp [b2i, h129])
            · replace h129 : S.2.2.1 32 mn = 0 := h129
              refine ziload_n C dX8_divorce_132 rfl ?_
              refine zif_ne (tgt := 140) C dX8_divorce_133 (by decide) (fun h133 => ?_) (fun h133 => ?_)
              · replace h133 := b2i_n0.mp h133
                refine zconst (v := 0) C dX8_divorce_140 (by decide) ?_
                exact J123_7 _ (by simp [b2i, h129, h133])
              · replace h133 := b2i_0.mp h133
                refine zconst (v := 1) C dX8_divorce_136 (by decide) ?_
                refine zgoto (tgt := 141) C dX8_divorce_137 (by decide) ?_
                exact J123_7 _ (by simp [b2i, h129, h133])
          · subst hx123
            refine zmzs C hR rfl rfl rfl (show _ < 30 from by omega) (b2i_b _) dX8_divorce_141 (fun M hR => ?_)
            refine zjn 173 (fun x => x = b2i (divB (lawOf S (courtOn S 1 hn wn (S.1 1)) 1 (nI (S.1 1))) by' (decide ((if by' = true then S.2.2.1 32 mn else S.2.2.1 31 mn) ≠ 0)))) (fun J142_8 => ?_) (fun x142 hx142 => ?_)
            · refine ziload C dX8_divorce_142 rfl ?_
              refine zconst (v := 1) C dX8_divorce_144 (by decide) ?_
              refine zicmp_eq (tgt := 168) C dX8_divorce_145 (by decide) (fun h145 => ?_) (fun h145 => ?_)
              · refine zconst (v := 1) C dX8_divorce_168 (by decide) ?_
                refine zgoto (tgt := 173) C dX8_divorce_169 (by decide) ?_
                exact J142_8 _ (by simp [divB, b2i, h145])
              · refine ziload C dX8_divorce_148 rfl ?_
                refine zif_ne (tgt := 157) C dX8_divorce_150 (by decide) (fun h150 => ?_) (fun h150 => ?_)
                · refine ziload C dX8_divorce_157 rfl ?_
                  refine zconst (v := 2) C dX8_divorce_159 (by decide) ?_
                  refine zicmp_ne (tgt := 172) C dX8_divorce_160 (by decide) (fun h160 => ?_) (fun h160 => ?_)
                  · refine zconst (v := 0) C dX8_divorce_172 (by decide) ?_
                    exact J142_8 _ (by simp [divB, b2i, h145, h150, h160])
                  · refine ziload C dX8_divorce_163 rfl ?_
                    refine zif_eq (tgt := 172) C dX8_divorce_165 (by decide) (fun h165 => ?_) (fun h165 => ?_)
                    · refine zconst (v := 0) C dX8_divorce_172 (by decide) ?_
                      exact J142_8 _ (by simp [divB, b2i, h145, h150, h160, h165])
                    · refine zconst (v := 1) C dX8_divorce_168 (by decide) ?_
                      refine zgoto (tgt := 173) C dX8_divorce_169 (by decide) ?_
                      exact J142_8 _ (by simp [divB, b2i, h145, h150, h160, h165])
                · refine ziload_n C dX8_divorce_153 rfl ?_
                  refine zif_ne (tgt := 168) C dX8_divorce_154 (by decide) (fun h154 => ?_) (fun h154 => ?_)
                  · replace h154 := b2i_n0.mp h154
                    refine zconst (v := 1) C dX8_divorce_168 (by decide) ?_
                    refine zgoto (tgt := 173) C dX8_divorce_169 (by decide) ?_
                    exact J142_8 _ (by simp [divB, b2i, h145, h150, h154])
                  · replace h154 := b2i_0.mp h154
                    refine ziload C dX8_divorce_157 rfl ?_
                    refine zconst (v := 2) C dX8_divorce_159 (by decide) ?_
                    refine zicmp_ne (tgt := 172) C dX8_divorce_160 (by decide) (fun h160 => ?_) (fun h160 => ?_)
                    · refine zconst (v := 0) C dX8_divorce_172 (by decide) ?_
                      exact J142_8 _ (by first | (simp [divB, b2i, h145, h150, h154, h160]; done) | exact absurd (h150.symm.trans h160) (by decide))
                    · refine ziload C dX8_divorce_163 rfl ?_
                      refine zif_eq (tgt := 172) C dX8_divorce_165 (by decide) (fun h165 => ?_) (fun h165 => ?_)
                      · refine zconst (v := 0) C dX8_divorce_172 (by decide) ?_
                        exact J142_8 _ (by first | (simp [divB, b2i, h145, h150, h154, h160]; done) | exact absurd (h150.symm.trans h160) (by decide))
                      · refine zconst (v := 1) C dX8_divorce_168 (by decide) ?_
                        refine zgoto (tgt := 173) C dX8_divorce_169 (by decide) ?_
                        exact J142_8 _ (by first | (simp [divB, b2i, h145, h150, h154, h160]; done) | exact absurd (h150.symm.trans h160) (by decide))
            · subst hx142
              refine zistore (L1 := [_, _, _, _, _, _, _, _]) C dX8_divorce_173 rfl (Nat.le_of_ble_eq_true rfl) ?_
              refine ziload C dX8_divorce_175 rfl ?_
              refine zif_eq (tgt := 192) C dX8_divorce_177 (by decide) (fun h177 => ?_) (fun h177 => ?_)
              · replace h177 := b2i_0.mp h177
                refine ziload C dX8_divorce_192 rfl ?_
                exact zend_z C hE dX8_divorce_194 (by omega) (by omega) (by first | exact Or.inl rfl | exact Or.inr rfl | exact b2i_b _) ⟨_, by rw [o_div_p h8 emn h21 eh ew ehn ewn, h177]; first | rfl | (simp [b2i, divA, zsA_g, zsA_A, zsN_2]; done), hR⟩
              · replace h177 := b2i_n0.mp h177
                refine zaload_n C dX8_divorce_180 rfl ?_
                refine zmga C hR hf_X8_76 rfl dX8_divorce_181 ?_
                refine ziload_n C dX8_divorce_184 rfl ?_
                refine zconst (v := 1) C dX8_divorce_185 (by decide) ?_
                refine zmis C hR rfl rfl rfl (show _ < 30 from by omega) dX8_divorce_186 (fun M hR => ?_)
                refine zaload_n C dX8_divorce_187 rfl ?_
                refine ziload_n C dX8_divorce_188 rfl ?_
                refine zcallV C (m_paysDower (S := zsA (divA (th S 0) mn by') 28 (upd (S.2.2.1 28) mn 1)) mn hn wn (by omega) (by omega) (by omega) eh ew M hR) hy_X8_paysDower hv_X8_paysDower hl_X8_229 hR.1 rfl rfl rfl rfl (by decide) (by decide) (by omega) (by omega) rfl (by exact Nat.le_of_ble_eq_true rfl) dX8_divorce_189 (fun v189 M hp189 => ?_)
                obtain ⟨S1, hs, hR⟩ := hp189
                rw [hs] at hR
                clear hs
                refine ziload C dX8_divorce_192 rfl ?_
                exact zend_z C hE dX8_divorce_194 (by omega) (by omega) (by first | exact Or.inl rfl | exact Or.inr rfl | exact b2i_b _) ⟨_, by rw [o_div_p h8 emn h21 eh ew ehn ewn, h177]; first | rfl | (simp [b2i, divA, zsA_g, zsA_A, zsN_2]; done), hR⟩
    · refine zconst (v := 2) C dX8_divorce_24 (by decide) ?_
      refine zgoto (tgt := 29) C dX8_divorce_25 (by decide) ?_
      refine zcallV C (m_holds 2 (by decide) M hR) hy_X8_holds hv_X8_holds hl_X8_157 hR.1 rfl rfl rfl rfl (by decide) (by decide) (by omega) (by omega) rfl (by exact Nat.le_of_ble_eq_true rfl) dX8_divorce_29 (fun v29 M hp29 => ?_)
      obtain ⟨S1, ⟨rfl, hs⟩, hR⟩ := hp29
      rw [hs] at hR
      clear hs
      refine zif_ne_f (tgt := 37) C dX8_divorce_32 (by decide) (by decide) ?_
      refine zconst (v := 0) C dX8_divorce_35 (by decide) ?_
      exact zend_z C hE dX8_divorce_36 (by omega) (by omega) (by first | exact Or.inl rfl | exact Or.inr rfl | exact b2i_b _) ⟨_, by simp [o_divorce, zsA_g, zsN_g, zsN_2, zsA_1, zsA_c, zsA_l, zsL_g, zsL_1, zsL_c, zsL_a, zsN_N, h8, emn, h21], hR⟩
  · replace h8 := b2i_0.mp h8
    refine zconst (v := 1) C dX8_divorce_11 (by decide) ?_
    refine zgoto (tgt := 29) C dX8_divorce_12 (by decide) ?_
    refine zcallV C (m_holds 1 (by decide) M hR) hy_X8_holds hv_X8_holds hl_X8_157 hR.1 rfl rfl rfl rfl (by decide) (by decide) (by omega) (by omega) rfl (by exact Nat.le_of_ble_eq_true rfl) dX8_divorce_29 (fun v29 M hp29 => ?_)
    obtain ⟨S1, ⟨rfl, hs⟩, hR⟩ := hp29
    rw [hs] at hR
    clear hs
    refine zif_ne_f (tgt := 37) C dX8_divorce_32 (by decide) (by decide) ?_
    refine zconst (v := 0) C dX8_divorce_35 (by decide) ?_
    exact zend_z C hE dX8_divorce_36 (by omega) (by omega) (by first | exact Or.inl rfl | exact Or.inr rfl | exact b2i_b _) ⟨_, by simp [o_divorce, zsA_g, zsN_g, zsN_2, zsA_1, zsA_c, zsA_l, zsL_g, zsL_1, zsL_c, zsL_a, zsN_N, h8], hR⟩
set_option maxRecDepth 100000 in
set_option maxHeartbeats 1000000 in
theorem m_appear {g : zGh} {M0 : zM} {mo : Nat} {ad : Nat → Nat} {S : zS} (s : Int32) (hi : iB S) (hS : ∀ s, s < S.1 33 → iSu S s) : zMc g M0 mo ad yX8_appear cX8_appear 4 (some .boolean) 2 43 mkI [.int s] S (fun v S1 => (S1, v) = o_appear S s) := by
  intro M hR
  refine zof [some (.ref mo), some (.int s), none, none] (by decide +kernel) rfl rfl (Nat.le_of_ble_eq_true rfl) ?_
  intro X C hE hnm
  have C : zC g X RX8 cX8_appear 4 2 43 0 0 := C
  obtain ⟨hb1, hb2, hb4, hb9, hb13, hb25, hb33⟩ := id hi
  refine zaload_n C dX8_appear_0 rfl ?_
  refine ziload_n C dX8_appear_1 rfl ?_
  refine zcallV C (m_isSuit s (by omega) M hR) hy_X8_isSuit hv_X8_isSuit hl_X8_259 hR.1 rfl rfl rfl rfl (by decide) (by decide) (by omega) (by omega) rfl (by exact Nat.le_of_ble_eq_true rfl) dX8_appear_2 (fun v2 M hp2 => ?_)
  obtain ⟨S1, ⟨rfl, hs⟩, hR⟩ := hp2
  rw [hs] at hR
  clear hs
  refine zistore_n (L1 := [_, _, _, _]) C dX8_appear_5 rfl (Nat.le_of_ble_eq_true rfl) ?_
  refine zaload_n C dX8_appear_6 rfl ?_
  refine ziload_n C dX8_appear_7 rfl ?_
  refine zif_ne (tgt := 15) C dX8_appear_8 (by decide) (fun h8 => ?_) (fun h8 => ?_)
  · replace h8 := b2i_n0.mp h8
    obtain ⟨sn, hsn, rfl⟩ := zix_of h8 (by omega)
    have esn := nI_clamp (show sn < 2 ^ 31 by omega)
    refine zaload_n C dX8_appear_15 rfl ?_
    refine zmga C hR hf_X8_106 rfl dX8_appear_16 ?_
    refine ziload_n C dX8_appear_19 rfl ?_
    refine zmia C hR rfl rfl rfl (show _ < 20 from by omega) dX8_appear_20 ?_
    refine zif_ne (tgt := 38) C dX8_appear_21 (by decide) (fun h21 => ?_) (fun h21 => ?_)
    · refine zconst (v := 2) C dX8_appear_38 (by decide) ?_
      refine zgoto (tgt := 43) C dX8_appear_39 (by decide) ?_
      refine zcallV C (m_holds 2 (by decide) M hR) hy_X8_holds hv_X8_holds hl_X8_157 hR.1 rfl rfl rfl rfl (by decide) (by decide) (by omega) (by omega) rfl (by exact Nat.le_of_ble_eq_true rfl) dX8_appear_43 (fun v43 M hp43 => ?_)
      obtain ⟨S1, ⟨rfl, hs⟩, hR⟩ := hp43
      rw [hs] at hR
      clear hs
      refine zif_ne_f (tgt := 51) C dX8_appear_46 (by decide) (by decide) ?_
      refine zconst (v := 0) C dX8_appear_49 (by decide) ?_
      exact zend_z C hE dX8_appear_50 (by omega) (by omega) (by first | exact Or.inl rfl | exact Or.inr rfl | exact b2i_b _) ⟨_, by first | (simp [o_appear, b2i, zsA_g, zsN_g, zsN_2, zsA_1, zsA_c, zsA_l, zsL_g, zsL_1, zsL_c, zsL_a, zsN_N, courtOn_th, faithAt_th, lawOf_th, ruleOn_th, isGrown_th, canWit_th, lasting_th, isMinor_th, isWonAt_th, canJudge_th, canTest_th, heard_th, bothLive_th, lowestMarriage_th, kids_th, h8, esn, h21]; done) | (simp_all [o_appear, b2i, zsA_g, zsN_g, zsN_2, zsA_1, zsA_c, zsA_l, zsL_g, zsL_1, zsL_c, zsL_a, zsN_N, courtOn_th, faithAt_th, lawOf_th, ruleOn_th, isGrown_th, canWit_th, lasting_th, isMinor_th, isWonAt_th, canJudge_th, canTest_th, heard_th, bothLive_th, lowestMarriage_th, kids_th, h8, esn, h21]; done), hR⟩
    · refine zaload_n C dX8_appear_24 rfl ?_
      refine zmga C hR hf_X8_47 rfl dX8_appear_25 ?_
      refine zaload_n C dX8_appear_28 rfl ?_
      refine zmga C hR hf_X8_94 rfl dX8_appear_29 ?_
      refine ziload_n C dX8_appear_32 rfl ?_
      obtain ⟨an, bn, han, hbn, ea, eb⟩ := hS sn hsn
      have ebn := nI_clamp (show bn < 2 ^ 31 by omega)
      refine zmia C hR rfl rfl rfl (show _ < 20 from by omega) dX8_appear_33 ?_
      rw [eb]
      refine zmza C hR rfl rfl rfl (show _ < 40 from by omega) dX8_appear_34 ?_
      refine zif_eq (tgt := 42) C dX8_appear_35 (by decide) (fun h35 => ?_) (fun h35 => ?_)
      · refine zconst (v := 0) C dX8_appear_42 (by decide) ?_
        refine zcallV C (m_holds 0 (by decide) M hR) hy_X8_holds hv_X8_holds hl_X8_157 hR.1 rfl rfl rfl rfl (by decide) (by decide) (by omega) (by omega) rfl (by exact Nat.le_of_ble_eq_true rfl) dX8_appear_43 (fun v43 M hp43 => ?_)
        obtain ⟨S1, ⟨rfl, hs⟩, hR⟩ := hp43
        rw [hs] at hR
        clear hs
        refine zif_ne_t (tgt := 51) C dX8_appear_46 (by decide) (by decide) ?_
        refine zaload_n C dX8_appear_51 rfl ?_
        refine ziload_n C dX8_appear_52 rfl ?_
        refine zcallV C (m_canJudge (S := th S 0) sn (by omega) M hR) hy_X8_canJudge hv_X8_canJudge hl_X8_262 hR.1 rfl rfl rfl rfl (by decide) (by decide) (by omega) (by omega) rfl (by exact Nat.le_of_ble_eq_true rfl) dX8_appear_53 (fun v53 M hp53 => ?_)
        obtain ⟨S1, ⟨hv, hs⟩, hR⟩ := hp53
        have hv : v53 = b2i (canJudge S sn) := hv
        subst hv
        rw [hs] at hR
        clear hs
        refine zistore_n (L1 := [_, _, _, _]) C dX8_appear_56 rfl (Nat.le_of_ble_eq_true rfl) ?_
        refine zaload_n C dX8_appear_57 rfl ?_
        refine zmga C hR hf_X8_109 rfl dX8_appear_58 ?_
        refine ziload_n C dX8_appear_61 rfl ?_
        refine zconst (v := 1) C dX8_appear_62 (by decide) ?_
        refine zmzs C hR rfl rfl rfl (show _ < 20 from by omega) (Or.inr rfl) dX8_appear_63 (fun M hR => ?_)
        refine ziload_n C dX8_appear_64 rfl ?_
        refine zif_ne (tgt := 72) C dX8_appear_65 (by decide) (fun h65 => ?_) (fun h65 => ?_)
        · replace h65 := b2i_n0.mp h65
          refine zconst (v := 0) C dX8_appear_72 (by decide) ?_
          exact zend_z C hE dX8_appear_73 (by omega) (by omega) (by first | exact Or.inl rfl | exact Or.inr rfl | exact b2i_b _) ⟨_, by first | (simp [o_appear, b2i, zsA_g, zsN_g, zsN_2, zsA_1, zsA_c, zsA_l, zsL_g, zsL_1, zsL_c, zsL_a, zsN_N, courtOn_th, faithAt_th, lawOf_th, ruleOn_th, isGrown_th, canWit_th, lasting_th, isMinor_th, isWonAt_th, canJudge_th, canTest_th, heard_th, bothLive_th, lowestMarriage_th, kids_th, h8, esn, h21, h35, eb, ebn, h65]; done) | (simp_all [o_appear, b2i, zsA_g, zsN_g, zsN_2, zsA_1, zsA_c, zsA_l, zsL_g, zsL_1, zsL_c, zsL_a, zsN_N, courtOn_th, faithAt_th, lawOf_th, ruleOn_th, isGrown_th, canWit_th, lasting_th, isMinor_th, isWonAt_th, canJudge_th, canTest_th, heard_th, bothLive_th, lowestMarriage_th, kids_th, h8, esn, h21, h35, eb, ebn, h65]; done), hR⟩
        · replace h65 := b2i_0.mp h65
          refine zconst (v := 1) C dX8_appear_68 (by decide) ?_
          refine zgoto (tgt := 73) C dX8_appear_69 (by decide) ?_
          exact zend_z C hE dX8_appear_73 (by omega) (by omega) (by first | exact Or.inl rfl | exact Or.inr rfl | exact b2i_b _) ⟨_, by first | (simp [o_appear, b2i, zsA_g, zsN_g, zsN_2, zsA_1, zsA_c, zsA_l, zsL_g, zsL_1, zsL_c, zsL_a, zsN_N, courtOn_th, faithAt_th, lawOf_th, ruleOn_th, isGrown_th, canWit_th, lasting_th, isMinor_th, isWonAt_th, canJudge_th, canTest_th, heard_th, bothLive_th, lowestMarriage_th, kids_th, h8, esn, h21, h35, eb, ebn, h65]; done) | (simp_all [o_appear, b2i, zsA_g, zsN_g, zsN_2, zsA_1, zsA_c, zsA_l, zsL_g, zsL_1, zsL_c, zsL_a, zsN_N, courtOn_th, faithAt_th, lawOf_th, ruleOn_th, isGrown_th, canWit_th, lasting_th, isMinor_th, isWonAt_th, canJudge_th, canTest_th, heard_th, bothLive_th, lowestMarriage_th, kids_th, h8, esn, h21, h35, eb, ebn, h65]; done), hR⟩
      · refine zconst (v := 2) C dX8_appear_38 (by decide) ?_
        refine zgoto (tgt := 43) C dX8_appear_39 (by decide) ?_
        refine zcallV C (m_holds 2 (by decide) M hR) hy_X8_holds hv_X8_holds hl_X8_157 hR.1 rfl rfl rfl rfl (by decide) (by decide) (by omega) (by omega) rfl (by exact Nat.le_of_ble_eq_true rfl) dX8_appear_43 (fun v43 M hp43 => ?_)
        obtain ⟨S1, ⟨rfl, hs⟩, hR⟩ := hp43
        rw [hs] at hR
        clear hs
        refine zif_ne_f (tgt := 51) C dX8_appear_46 (by decide) (by decide) ?_
        refine zconst (v := 0) C dX8_appear_49 (by decide) ?_
        exact zend_z C hE dX8_appear_50 (by omega) (by omega) (by first | exact Or.inl rfl | exact Or.inr rfl | exact b2i_b _) ⟨_, by first | (simp [o_appear, b2i, zsA_g, zsN_g, zsN_2, zsA_1, zsA_c, zsA_l, zsL_g, zsL_1, zsL_c, zsL_a, zsN_N, courtOn_th, faithAt_th, lawOf_th, ruleOn_th, isGrown_th, canWit_th, lasting_th, isMinor_th, isWonAt_th, canJudge_th, canTest_th, heard_th, bothLive_th, lowestMarriage_th, kids_th, h8, esn, h21, h35, eb, ebn]; done) | (simp_all [o_appear, b2i, zsA_g, zsN_g, zsN_2, zsA_1, zsA_c, zsA_l, zsL_g, zsL_1, zsL_c, zsL_a, zsN_N, courtOn_th, faithAt_th, lawOf_th, ruleOn_th, isGrown_th, canWit_th, lasting_th, isMinor_th, isWonAt_th, canJudge_th, canTest_th, heard_th, bothLive_th, lowestMarriage_th, kids_th, h8, esn, h21, h35, eb, ebn]; done), hR⟩
  · replace h8 := b2i_0.mp h8
    refine zconst (v := 1) C dX8_appear_11 (by decide) ?_
    refine zgoto (tgt := 43) C dX8_appear_12 (by decide) ?_
    refine zcallV C (m_holds 1 (by decide) M hR) hy_X8_holds hv_X8_holds hl_X8_157 hR.1 rfl rfl rfl rfl (by decide) (by decide) (by omega) (by omega) rfl (by exact Nat.le_of_ble_eq_true rfl) dX8_appear_43 (fun v43 M hp43 => ?_)
    obtain ⟨S1, ⟨rfl, hs⟩, hR⟩ := hp43
    rw [hs] at hR
    clear hs
    refine zif_ne_f (tgt := 51) C dX8_appear_46 (by decide) (by decide) ?_
    refine zconst (v := 0) C dX8_appear_49 (by decide) ?_
    exact zend_z C hE dX8_appear_50 (by omega) (by omega) (by first | exact Or.inl rfl | exact Or.inr rfl | exact b2i_b _) ⟨_, by first | (simp [o_appear, b2i, zsA_g, zsN_g, zsN_2, zsA_1, zsA_c, zsA_l, zsL_g, zsL_1, zsL_c, zsL_a, zsN_N, courtOn_th, faithAt_th, lawOf_th, ruleOn_th, isGrown_th, canWit_th, lasting_th, isMinor_th, isWonAt_th, canJudge_th, canTest_th, heard_th, bothLive_th, lowestMarriage_th, kids_th, h8]; done) | (simp_all [o_appear, b2i, zsA_g, zsN_g, zsN_2, zsA_1, zsA_c, zsA_l, zsL_g, zsL_1, zsL_c, zsL_a, zsN_N, courtOn_th, faithAt_th, lawOf_th, ruleOn_th, isGrown_th, canWit_th, lasting_th, isMinor_th, isWonAt_th, canJudge_th, canTest_th, heard_th, bothLive_th, lowestMarriage_th, kids_th, h8]; done), hR⟩
set_option maxRecDepth 100000 in
set_option maxHeartbeats 1000000 in
theorem m_testify {g : zGh} {M0 : zM} {mo : Nat} {ad : Nat → Nat} {S : zS} (s p : Int32) (fo : Bool) (hi : iB S) : zMc g M0 mo ad yX8_testify cX8_testify 5 (some .int) 3 64 mkI [.int s, .int p, .int (b2i fo)] S (fun v S1 => (S1, v) = o_testify S s p fo) := by
  intro M hR
  refine zof [some (.ref mo), some (.int s), some (.int p), some (.int (b2i fo)), none] (by decide +kernel) rfl rfl (Nat.le_of_ble_eq_true rfl) ?_
  intro X C hE hnm
  have C : zC g X RX8 cX8_testify 5 3 64 0 0 := C
  obtain ⟨hb1, hb2, hb4, hb9, hb13, hb25, hb33⟩ := id hi
  refine zaload_n C dX8_testify_0 rfl ?_
  refine ziload_n C dX8_testify_1 rfl ?_
  refine zcallV C (m_isSuit s (by omega) M hR) hy_X8_isSuit hv_X8_isSuit hl_X8_259 hR.1 rfl rfl rfl rfl (by decide) (by decide) (by omega) (by omega) rfl (by exact Nat.le_of_ble_eq_true rfl) dX8_testify_2 (fun v2 M hp2 => ?_)
  obtain ⟨S1, ⟨rfl, hs⟩, hR⟩ := hp2
  rw [hs] at hR
  clear hs
  refine zif_eq (tgt := 20) C dX8_testify_5 (by decide) (fun h5 => ?_) (fun h5 => ?_)
  · replace h5 := b2i_0.mp h5
    refine zconst (v := 0) C dX8_testify_20 (by decide) ?_
    refine zistore (L1 := [_, _, _, _, _]) C dX8_testify_21 rfl (Nat.le_of_ble_eq_true rfl) ?_
    refine zaload_n C dX8_testify_23 rfl ?_
    refine ziload C dX8_testify_24 rfl ?_
    refine zif_ne_f (tgt := 33) C dX8_testify_26 (by decide) (by decide) ?_
    refine zconst (v := 1) C dX8_testify_29 (by decide) ?_
    refine zgoto (tgt := 47) C dX8_testify_30 (by decide) ?_
    refine zcallV C (m_holds 1 (by decide) M hR) hy_X8_holds hv_X8_holds hl_X8_157 hR.1 rfl rfl rfl rfl (by decide) (by decide) (by omega) (by omega) rfl (by exact Nat.le_of_ble_eq_true rfl) dX8_testify_47 (fun v47 M hp47 => ?_)
    obtain ⟨S1, ⟨rfl, hs⟩, hR⟩ := hp47
    rw [hs] at hR
    clear hs
    refine zif_ne_f (tgt := 55) C dX8_testify_50 (by decide) (by decide) ?_
    refine zconst (v := 0) C dX8_testify_53 (by decide) ?_
    exact zend_i C hE dX8_testify_54 (by omega) (by omega) ⟨_, by first | (simp [o_testify, zsA_g, zsN_g, zsN_2, zsA_1, zsA_c, zsA_l, zsL_g, zsL_1, zsL_c, zsL_a, zsN_N, courtOn_th, faithAt_th, lawOf_th, ruleOn_th, isGrown_th, canWit_th, lasting_th, isMinor_th, isWonAt_th, canJudge_th, canTest_th, heard_th, bothLive_th, lowestMarriage_th, kids_th, h5]; done) | (simp_all [o_testify, zsA_g, zsN_g, zsN_2, zsA_1, zsA_c, zsA_l, zsL_g, zsL_1, zsL_c, zsL_a, zsN_N, courtOn_th, faithAt_th, lawOf_th, ruleOn_th, isGrown_th, canWit_th, lasting_th, isMinor_th, isWonAt_th, canJudge_th, canTest_th, heard_th, bothLive_th, lowestMarriage_th, kids_th, h5]; done), hR⟩
  · replace h5 := b2i_n0.mp h5
    obtain ⟨sn, hsn, rfl⟩ := zix_of h5 (by omega)
    have esn := nI_clamp (show sn < 2 ^ 31 by omega)
    refine zaload_n C dX8_testify_8 rfl ?_
    refine ziload_n C dX8_testify_9 rfl ?_
    refine zcallV C (m_isPerson p (by omega) M hR) hy_X8_isPerson hv_X8_isPerson hl_X8_191 hR.1 rfl rfl rfl rfl (by decide) (by decide) (by omega) (by omega) rfl (by exact Nat.le_of_ble_eq_true rfl) dX8_testify_10 (fun v10 M hp10 => ?_)
    obtain ⟨S1, ⟨rfl, hs⟩, hR⟩ := hp10
    rw [hs] at hR
    clear hs
    refine zif_eq (tgt := 20) C dX8_testify_13 (by decide) (fun h13 => ?_) (fun h13 => ?_)
    · replace h13 := b2i_0.mp h13
      refine zconst (v := 0) C dX8_testify_20 (by decide) ?_
      refine zistore (L1 := [_, _, _, _, _]) C dX8_testify_21 rfl (Nat.le_of_ble_eq_true rfl) ?_
      refine zaload_n C dX8_testify_23 rfl ?_
      refine ziload C dX8_testify_24 rfl ?_
      refine zif_ne_f (tgt := 33) C dX8_testify_26 (by decide) (by decide) ?_
      refine zconst (v := 1) C dX8_testify_29 (by decide) ?_
      refine zgoto (tgt := 47) C dX8_testify_30 (by decide) ?_
      refine zcallV C (m_holds 1 (by decide) M hR) hy_X8_holds hv_X8_holds hl_X8_157 hR.1 rfl rfl rfl rfl (by decide) (by decide) (by omega) (by omega) rfl (by exact Nat.le_of_ble_eq_true rfl) dX8_testify_47 (fun v47 M hp47 => ?_)
      obtain ⟨S1, ⟨rfl, hs⟩, hR⟩ := hp47
      rw [hs] at hR
      clear hs
      refine zif_ne_f (tgt := 55) C dX8_testify_50 (by decide) (by decide) ?_
      refine zconst (v := 0) C dX8_testify_53 (by decide) ?_
      exact zend_i C hE dX8_testify_54 (by omega) (by omega) ⟨_, by first | (simp [o_testify, zsA_g, zsN_g, zsN_2, zsA_1, zsA_c, zsA_l, zsL_g, zsL_1, zsL_c, zsL_a, zsN_N, courtOn_th, faithAt_th, lawOf_th, ruleOn_th, isGrown_th, canWit_th, lasting_th, isMinor_th, isWonAt_th, canJudge_th, canTest_th, heard_th, bothLive_th, lowestMarriage_th, kids_th, h5, esn, h13]; done) | (simp_all [o_testify, zsA_g, zsN_g, zsN_2, zsA_1, zsA_c, zsA_l, zsL_g, zsL_1, zsL_c, zsL_a, zsN_N, courtOn_th, faithAt_th, lawOf_th, ruleOn_th, isGrown_th, canWit_th, lasting_th, isMinor_th, isWonAt_th, canJudge_th, canTest_th, heard_th, bothLive_th, lowestMarriage_th, kids_th, h5, esn, h13]; done), hR⟩
    · replace h13 := b2i_n0.mp h13
      obtain ⟨pn, hpn, rfl⟩ := zix_of h13 (by omega)
      have epn := nI_clamp (show pn < 2 ^ 31 by omega)
      refine zconst (v := 1) C dX8_testify_16 (by decide) ?_
      refine zgoto (tgt := 21) C dX8_testify_17 (by decide) ?_
      refine zistore (L1 := [_, _, _, _, _]) C dX8_testify_21 rfl (Nat.le_of_ble_eq_true rfl) ?_
      refine zaload_n C dX8_testify_23 rfl ?_
      refine ziload C dX8_testify_24 rfl ?_
      refine zif_ne_t (tgt := 33) C dX8_testify_26 (by decide) (by decide) ?_
      refine zaload_n C dX8_testify_33 rfl ?_
      refine ziload_n C dX8_testify_34 rfl ?_
      refine ziload_n C dX8_testify_35 rfl ?_
      refine zcallV C (m_canTestify sn pn (by omega) (by omega) M hR) hy_X8_canTestify hv_X8_canTestify hl_X8_265 hR.1 rfl rfl rfl rfl (by decide) (by decide) (by omega) (by omega) rfl (by exact Nat.le_of_ble_eq_true rfl) dX8_testify_36 (fun v36 M hp36 => ?_)
      obtain ⟨S1, ⟨rfl, hs⟩, hR⟩ := hp36
      rw [hs] at hR
      clear hs
      refine zif_eq (tgt := 46) C dX8_testify_39 (by decide) (fun h39 => ?_) (fun h39 => ?_)
      · replace h39 := b2i_0.mp h39
        refine zconst (v := 2) C dX8_testify_46 (by decide) ?_
        refine zcallV C (m_holds 2 (by decide) M hR) hy_X8_holds hv_X8_holds hl_X8_157 hR.1 rfl rfl rfl rfl (by decide) (by decide) (by omega) (by omega) rfl (by exact Nat.le_of_ble_eq_true rfl) dX8_testify_47 (fun v47 M hp47 => ?_)
        obtain ⟨S1, ⟨rfl, hs⟩, hR⟩ := hp47
        rw [hs] at hR
        clear hs
        refine zif_ne_f (tgt := 55) C dX8_testify_50 (by decide) (by decide) ?_
        refine zconst (v := 0) C dX8_testify_53 (by decide) ?_
        exact zend_i C hE dX8_testify_54 (by omega) (by omega) ⟨_, by first | (simp [o_testify, zsA_g, zsN_g, zsN_2, zsA_1, zsA_c, zsA_l, zsL_g, zsL_1, zsL_c, zsL_a, zsN_N, courtOn_th, faithAt_th, lawOf_th, ruleOn_th, isGrown_th, canWit_th, lasting_th, isMinor_th, isWonAt_th, canJudge_th, canTest_th, heard_th, bothLive_th, lowestMarriage_th, kids_th, h5, esn, h13, epn, h39]; done) | (simp_all [o_testify, zsA_g, zsN_g, zsN_2, zsA_1, zsA_c, zsA_l, zsL_g, zsL_1, zsL_c, zsL_a, zsN_N, courtOn_th, faithAt_th, lawOf_th, ruleOn_th, isGrown_th, canWit_th, lasting_th, isMinor_th, isWonAt_th, canJudge_th, canTest_th, heard_th, bothLive_th, lowestMarriage_th, kids_th, h5, esn, h13, epn, h39]; done), hR⟩
      · replace h39 := b2i_n0.mp h39
        refine zconst (v := 0) C dX8_testify_42 (by decide) ?_
        refine zgoto (tgt := 47) C dX8_testify_43 (by decide) ?_
        refine zcallV C (m_holds 0 (by decide) M hR) hy_X8_holds hv_X8_holds hl_X8_157 hR.1 rfl rfl rfl rfl (by decide) (by decide) (by omega) (by omega) rfl (by exact Nat.le_of_ble_eq_true rfl) dX8_testify_47 (fun v47 M hp47 => ?_)
        obtain ⟨S1, ⟨rfl, hs⟩, hR⟩ := hp47
        rw [hs] at hR
        clear hs
        refine zif_ne_t (tgt := 55) C dX8_testify_50 (by decide) (by decide) ?_
        refine zaload_n C dX8_testify_55 rfl ?_
        refine zmga C hR hf_X8_112 rfl dX8_testify_56 ?_
        refine zbipush (v := 40) C dX8_testify_59 (by decide) ?_
        refine ziload_n C dX8_testify_61 rfl ?_
        refine zimul C dX8_testify_62 ?_
        refine ziload_n C dX8_testify_63 rfl ?_
        refine ziadd C dX8_testify_64 ?_
        refine zjn 74 (fun x => x = if fo = true then 1 else 2) (fun J65_4 => ?_) (fun x65 hx65 => ?_)
        · refine ziload_n C dX8_testify_65 rfl ?_
          refine zif_eq (tgt := 73) C dX8_testify_66 (by decide) (fun h66 => ?_) (fun h66 => ?_)
          · replace h66 := b2i_0.mp h66
            refine zconst (v := 2) C dX8_testify_73 (by decide) ?_
            exact J65_4 _ (by simp [h66])
          · replace h66 := b2i_n0.mp h66
            refine zconst (v := 1) C dX8_testify_69 (by decide) ?_
            refine zgoto (tgt := 74) C dX8_testify_70 (by decide) ?_
            exact J65_4 _ (by simp [h66])
        · subst hx65
          refine zmis (i0 := 40 * sn + pn) C hR rfl rfl (zx_wt sn pn) (show _ < 800 from by omega) dX8_testify_74 (fun M hR => ?_)
          refine zaload_n C dX8_testify_75 rfl ?_
          refine ziload_n C dX8_testify_76 rfl ?_
          refine zcallV C (m_heard sn (by omega) M hR) hy_X8_heard hv_X8_heard hl_X8_268 hR.1 rfl rfl rfl rfl (by decide) (by decide) (by omega) (by omega) rfl (by exact Nat.le_of_ble_eq_true rfl) dX8_testify_77 (fun v77 M hp77 => ?_)
          obtain ⟨S1, ⟨hv, hs⟩, hR⟩ := hp77
          have hv : v77 = nI (heard (zsA S 41 (upd (S.2.2.1 41) (40 * sn + pn) (if fo = true then 1 else 2))) sn) := hv
          subst hv
          rw [hs] at hR
          clear hs
          exact zend_i C hE dX8_testify_80 (by omega) (by omega) ⟨_, by first | (simp [o_testify, zsA_g, zsN_g, zsN_2, zsA_1, zsA_c, zsA_l, zsL_g, zsL_1, zsL_c, zsL_a, zsN_N, courtOn_th, faithAt_th, lawOf_th, ruleOn_th, isGrown_th, canWit_th, lasting_th, isMinor_th, isWonAt_th, canJudge_th, canTest_th, heard_th, bothLive_th, lowestMarriage_th, kids_th, h5, esn, h13, epn, h39]; done) | (simp_all [o_testify, zsA_g, zsN_g, zsN_2, zsA_1, zsA_c, zsA_l, zsL_g, zsL_1, zsL_c, zsL_a, zsN_N, courtOn_th, faithAt_th, lawOf_th, ruleOn_th, isGrown_th, canWit_th, lasting_th, isMinor_th, isWonAt_th, canJudge_th, canTest_th, heard_th, bothLive_th, lowestMarriage_th, kids_th, h5, esn, h13, epn, h39]; done), hR⟩
set_option maxRecDepth 100000 in
set_option maxHeartbeats 1000000 in
theorem m_judge {g : zGh} {M0 : zM} {mo : Nat} {ad : Nat → Nat} {S : zS} (s : Int32) (hi : iB S) (hT : ∀ p, p < S.1 13 → iT S p) : zMc g M0 mo ad yX8_judge cX8_judge 4 (some .boolean) 2 54 mkI [.int s] S (fun v S1 => (S1, v) = o_judge S s) := by
  intro M hR
  refine zof [some (.ref mo), some (.int s), none, none] (by decide +kernel) rfl rfl (Nat.le_of_ble_eq_true rfl) ?_
  intro X C hE hnm
  have C : zC g X RX8 cX8_judge 4 2 54 0 0 := C
  obtain ⟨hb1, hb2, hb4, hb9, hb13, hb25, hb33⟩ := id hi
  refine zaload_n C dX8_judge_0 rfl ?_
  refine ziload_n C dX8_judge_1 rfl ?_
  refine zcallV C (m_isSuit s (by omega) M hR) hy_X8_isSuit hv_X8_isSuit hl_X8_259 hR.1 rfl rfl rfl rfl (by decide) (by decide) (by omega) (by omega) rfl (by exact Nat.le_of_ble_eq_true rfl) dX8_judge_2 (fun v2 M hp2 => ?_)
  obtain ⟨S1, ⟨rfl, hs⟩, hR⟩ := hp2
  rw [hs] at hR
  clear hs
  refine zistore_n (L1 := [_, _, _, _]) C dX8_judge_5 rfl (Nat.le_of_ble_eq_true rfl) ?_
  refine zaload_n C dX8_judge_6 rfl ?_
  refine ziload_n C dX8_judge_7 rfl ?_
  refine zif_ne (tgt := 15) C dX8_judge_8 (by decide) (fun h8 => ?_) (fun h8 => ?_)
  · replace h8 := b2i_n0.mp h8
    obtain ⟨sn, hsn, rfl⟩ := zix_of h8 (by omega)
    have esn := nI_clamp (show sn < 2 ^ 31 by omega)
    refine zaload_n C dX8_judge_15 rfl ?_
    refine zmga C hR hf_X8_106 rfl dX8_judge_16 ?_
    refine ziload_n C dX8_judge_19 rfl ?_
    refine zmia C hR rfl rfl rfl (show _ < 20 from by omega) dX8_judge_20 ?_
    refine zif_ne (tgt := 32) C dX8_judge_21 (by decide) (fun h21 => ?_) (fun h21 => ?_)
    · refine zconst (v := 2) C dX8_judge_32 (by decide) ?_
      refine zgoto (tgt := 37) C dX8_judge_33 (by decide) ?_
      refine zcallV C (m_holds 2 (by decide) M hR) hy_X8_holds hv_X8_holds hl_X8_157 hR.1 rfl rfl rfl rfl (by decide) (by decide) (by omega) (by omega) rfl (by exact Nat.le_of_ble_eq_true rfl) dX8_judge_37 (fun v37 M hp37 => ?_)
      obtain ⟨S1, ⟨rfl, hs⟩, hR⟩ := hp37
      rw [hs] at hR
      clear hs
      refine zif_ne_f (tgt := 45) C dX8_judge_40 (by decide) (by decide) ?_
      refine zconst (v := 0) C dX8_judge_43 (by decide) ?_
      exact zend_z C hE dX8_judge_44 (by omega) (by omega) (by first | exact Or.inl rfl | exact Or.inr rfl | exact b2i_b _) ⟨_, by first | (simp [o_judge, judS, zsA_g, zsN_g, zsN_2, zsA_1, zsA_c, zsA_l, zsL_g, zsL_1, zsL_c, zsL_a, zsN_N, courtOn_th, faithAt_th, lawOf_th, ruleOn_th, isGrown_th, canWit_th, lasting_th, isMinor_th, isWonAt_th, canJudge_th, canTest_th, heard_th, bothLive_th, lowestMarriage_th, kids_th, h8, esn, h21]; done) | (simp_all [o_judge, judS, zsA_g, zsN_g, zsN_2, zsA_1, zsA_c, zsA_l, zsL_g, zsL_1, zsL_c, zsL_a, zsN_N, courtOn_th, faithAt_th, lawOf_th, ruleOn_th, isGrown_th, canWit_th, lasting_th, isMinor_th, isWonAt_th, canJudge_th, canTest_th, heard_th, bothLive_th, lowestMarriage_th, kids_th, h8, esn, h21]; done), hR⟩
    · refine zaload_n C dX8_judge_24 rfl ?_
      refine ziload_n C dX8_judge_25 rfl ?_
      refine zcallV C (m_canJudge sn (by omega) M hR) hy_X8_canJudge hv_X8_canJudge hl_X8_262 hR.1 rfl rfl rfl rfl (by decide) (by decide) (by omega) (by omega) rfl (by exact Nat.le_of_ble_eq_true rfl) dX8_judge_26 (fun v26 M hp26 => ?_)
      obtain ⟨S1, ⟨rfl, hs⟩, hR⟩ := hp26
      rw [hs] at hR
      clear hs
      refine zif_ne (tgt := 36) C dX8_judge_29 (by decide) (fun h29 => ?_) (fun h29 => ?_)
      · replace h29 := b2i_n0.mp h29
        refine zconst (v := 0) C dX8_judge_36 (by decide) ?_
        refine zcallV C (m_holds 0 (by decide) M hR) hy_X8_holds hv_X8_holds hl_X8_157 hR.1 rfl rfl rfl rfl (by decide) (by decide) (by omega) (by omega) rfl (by exact Nat.le_of_ble_eq_true rfl) dX8_judge_37 (fun v37 M hp37 => ?_)
        obtain ⟨S1, ⟨rfl, hs⟩, hR⟩ := hp37
        rw [hs] at hR
        clear hs
        refine zif_ne_t (tgt := 45) C dX8_judge_40 (by decide) (by decide) ?_
        refine zaload_n C dX8_judge_45 rfl ?_
        refine ziload_n C dX8_judge_46 rfl ?_
        refine zaload_n C dX8_judge_47 rfl ?_
        refine zmga C hR hf_X8_97 rfl dX8_judge_48 ?_
        refine ziload_n C dX8_judge_51 rfl ?_
        refine zmia C hR rfl rfl rfl (show _ < 20 from by omega) dX8_judge_52 ?_
        refine zcallV C (m_isWonAt (S := th S 0) sn _ (by omega) hb13 hb4 hT M hR) hy_X8_isWonAt hv_X8_isWonAt hl_X8_271 hR.1 rfl rfl rfl rfl (by decide) (by decide) (by omega) (by omega) rfl (by exact Nat.le_of_ble_eq_true rfl) dX8_judge_53 (fun v53 M hp53 => ?_)
        obtain ⟨S1, ⟨hv, hs⟩, hR⟩ := hp53
        have hv : v53 = b2i (isWonAt S sn (S.2.2.1 36 sn)) := hv
        subst hv
        rw [hs] at hR
        clear hs
        refine zistore_n (L1 := [_, _, _, _]) C dX8_judge_56 rfl (Nat.le_of_ble_eq_true rfl) ?_
        refine zaload_n C dX8_judge_57 rfl ?_
        refine zmga C hR hf_X8_106 rfl dX8_judge_58 ?_
        refine ziload_n C dX8_judge_61 rfl ?_
        refine zjn 71 (fun x => x = if isWonAt S sn (S.2.2.1 36 sn) = true then 2 else 3) (fun J62_3 => ?_) (fun x62 hx62 => ?_)
        · refine ziload_n C dX8_judge_62 rfl ?_
          refine zif_eq (tgt := 70) C dX8_judge_63 (by decide) (fun h63 => ?_) (fun h63 => ?_)
          · replace h63 := b2i_0.mp h63
            refine zconst (v := 3) C dX8_judge_70 (by decide) ?_
            exact J62_3 _ (by simp [h63])
          · replace h63 := b2i_n0.mp h63
            refine zconst (v := 2) C dX8_judge_66 (by decide) ?_
            refine zgoto (tgt := 71) C dX8_judge_67 (by decide) ?_
            exact J62_3 _ (by simp [h63])
        · subst hx62
          refine zmis C hR rfl rfl rfl (show _ < 20 from by omega) dX8_judge_71 (fun M hR => ?_)
          refine zaload_n C dX8_judge_72 rfl ?_
          refine zmga C hR hf_X8_115 rfl dX8_judge_73 ?_
          refine ziload_n C dX8_judge_76 rfl ?_
          refine zjnL 92 (fun x => x = if isWonAt S sn (S.2.2.1 36 sn) = true then (S.2.2.1 37 sn).toInt64 else 0) (fun J77_4 => ?_) (fun x77 hx77 => ?_)
          · refine ziload_n C dX8_judge_77 rfl ?_
            refine zif_eq (tgt := 91) C dX8_judge_78 (by decide) (fun h78 => ?_) (fun h78 => ?_)
            · replace h78 := b2i_0.mp h78
              refine zlconst (v := 0) C dX8_judge_91 rfl ?_
              exact J77_4 _ (by simp [h78]; try rfl)
            · replace h78 := b2i_n0.mp h78
              refine zaload_n C dX8_judge_81 rfl ?_
              refine zmga C hR hf_X8_100 rfl dX8_judge_82 ?_
              refine ziload_n C dX8_judge_85 rfl ?_
              refine zmia C hR rfl rfl rfl (show _ < 20 from by omega) dX8_judge_86 ?_
              refine zi2l C dX8_judge_87 ?_
              refine zgoto (tgt := 92) C dX8_judge_88 (by decide) ?_
              exact J77_4 _ (by simp [h78]; try rfl)
          · subst hx77
            refine zmls C hR rfl rfl rfl (show _ < 20 from by omega) dX8_judge_92 (fun M hR => ?_)
            refine zaload_n C dX8_judge_93 rfl ?_
            refine zmga C hR hf_X8_121 rfl dX8_judge_94 ?_
            refine ziload_n C dX8_judge_97 rfl ?_
            refine zaload_n C dX8_judge_98 rfl ?_
            refine zmgi C hR hf_X8_154 rfl dX8_judge_99 ?_
            refine zmis C hR rfl rfl rfl (show _ < 20 from by omega) dX8_judge_102 (fun M hR => ?_)
            refine ziload_n C dX8_judge_103 rfl ?_
            exact zend_z C hE dX8_judge_104 (by omega) (by omega) (by first | exact Or.inl rfl | exact Or.inr rfl | exact b2i_b _) ⟨_, by first | (simp [o_judge, judS, zsA_g, zsN_g, zsN_2, zsA_1, zsA_c, zsA_l, zsL_g, zsL_1, zsL_c, zsL_a, zsN_N, courtOn_th, faithAt_th, lawOf_th, ruleOn_th, isGrown_th, canWit_th, lasting_th, isMinor_th, isWonAt_th, canJudge_th, canTest_th, heard_th, bothLive_th, lowestMarriage_th, kids_th, h8, esn, h21, h29]; done) | (simp_all [o_judge, judS, zsA_g, zsN_g, zsN_2, zsA_1, zsA_c, zsA_l, zsL_g, zsL_1, zsL_c, zsL_a, zsN_N, courtOn_th, faithAt_th, lawOf_th, ruleOn_th, isGrown_th, canWit_th, lasting_th, isMinor_th, isWonAt_th, canJudge_th, canTest_th, heard_th, bothLive_th, lowestMarriage_th, kids_th, h8, esn, h21, h29]; done), hR⟩
      · replace h29 := b2i_0.mp h29
        refine zconst (v := 2) C dX8_judge_32 (by decide) ?_
        refine zgoto (tgt := 37) C dX8_judge_33 (by decide) ?_
        refine zcallV C (m_holds 2 (by decide) M hR) hy_X8_holds hv_X8_holds hl_X8_157 hR.1 rfl rfl rfl rfl (by decide) (by decide) (by omega) (by omega) rfl (by exact Nat.le_of_ble_eq_true rfl) dX8_judge_37 (fun v37 M hp37 => ?_)
        obtain ⟨S1, ⟨rfl, hs⟩, hR⟩ := hp37
        rw [hs] at hR
        clear hs
        refine zif_ne_f (tgt := 45) C dX8_judge_40 (by decide) (by decide) ?_
        refine zconst (v := 0) C dX8_judge_43 (by decide) ?_
        exact zend_z C hE dX8_judge_44 (by omega) (by omega) (by first | exact Or.inl rfl | exact Or.inr rfl | exact b2i_b _) ⟨_, by first | (simp [o_judge, judS, zsA_g, zsN_g, zsN_2, zsA_1, zsA_c, zsA_l, zsL_g, zsL_1, zsL_c, zsL_a, zsN_N, courtOn_th, faithAt_th, lawOf_th, ruleOn_th, isGrown_th, canWit_th, lasting_th, isMinor_th, isWonAt_th, canJudge_th, canTest_th, heard_th, bothLive_th, lowestMarriage_th, kids_th, h8, esn, h21, h29]; done) | (simp_all [o_judge, judS, zsA_g, zsN_g, zsN_2, zsA_1, zsA_c, zsA_l, zsL_g, zsL_1, zsL_c, zsL_a, zsN_N, courtOn_th, faithAt_th, lawOf_th, ruleOn_th, isGrown_th, canWit_th, lasting_th, isMinor_th, isWonAt_th, canJudge_th, canTest_th, heard_th, bothLive_th, lowestMarriage_th, kids_th, h8, esn, h21, h29]; done), hR⟩
  · replace h8 := b2i_0.mp h8
    refine zconst (v := 1) C dX8_judge_11 (by decide) ?_
    refine zgoto (tgt := 37) C dX8_judge_12 (by decide) ?_
    refine zcallV C (m_holds 1 (by decide) M hR) hy_X8_holds hv_X8_holds hl_X8_157 hR.1 rfl rfl rfl rfl (by decide) (by decide) (by omega) (by omega) rfl (by exact Nat.le_of_ble_eq_true rfl) dX8_judge_37 (fun v37 M hp37 => ?_)
    obtain ⟨S1, ⟨rfl, hs⟩, hR⟩ := hp37
    rw [hs] at hR
    clear hs
    refine zif_ne_f (tgt := 45) C dX8_judge_40 (by decide) (by decide) ?_
    refine zconst (v := 0) C dX8_judge_43 (by decide) ?_
    exact zend_z C hE dX8_judge_44 (by omega) (by omega) (by first | exact Or.inl rfl | exact Or.inr rfl | exact b2i_b _) ⟨_, by first | (simp [o_judge, judS, zsA_g, zsN_g, zsN_2, zsA_1, zsA_c, zsA_l, zsL_g, zsL_1, zsL_c, zsL_a, zsN_N, courtOn_th, faithAt_th, lawOf_th, ruleOn_th, isGrown_th, canWit_th, lasting_th, isMinor_th, isWonAt_th, canJudge_th, canTest_th, heard_th, bothLive_th, lowestMarriage_th, kids_th, h8]; done) | (simp_all [o_judge, judS, zsA_g, zsN_g, zsN_2, zsA_1, zsA_c, zsA_l, zsL_g, zsL_1, zsL_c, zsL_a, zsN_N, courtOn_th, faithAt_th, lawOf_th, ruleOn_th, isGrown_th, canWit_th, lasting_th, isMinor_th, isWonAt_th, canJudge_th, canTest_th, heard_th, bothLive_th, lowestMarriage_th, kids_th, h8]; done), hR⟩
set_option maxRecDepth 100000 in
set_option maxHeartbeats 1000000 in
theorem m_canAppeal {g : zGh} {M0 : zM} {mo : Nat} {ad : Nat → Nat} {S : zS} (s : Nat) (hs : s < 20) : zMc g M0 mo ad yX8_canAppeal cX8_canAppeal 2 (some .boolean) 0 0 mkI [.int (nI s)] S (fun v S1 => v = b2i (canApp S s) ∧ S1 = S) := by
  intro M hR
  refine zof [some (.ref mo), some (.int (nI s))] (by decide +kernel) rfl rfl (Nat.le_of_ble_eq_true rfl) ?_
  intro X C hE hnm
  have C : zC g X RX8 cX8_canAppeal 2 0 0 0 0 := C
  refine zaload_n C dX8_canAppeal_0 rfl ?_
  refine zmga C hR hf_X8_106 rfl dX8_canAppeal_1 ?_
  refine ziload_n C dX8_canAppeal_4 rfl ?_
  refine zmia C hR rfl rfl rfl (show _ < 20 from by omega) dX8_canAppeal_5 ?_
  refine zconst (v := 2) C dX8_canAppeal_6 (by decide) ?_
  refine zicmp_lt (tgt := 49) C dX8_canAppeal_7 (by decide) (fun h7 => ?_) (fun h7 => ?_)
  · replace h7 := zlt_n h7
    refine zconst (v := 0) C dX8_canAppeal_49 (by decide) ?_
    exact zend_z C hE dX8_canAppeal_50 (by omega) (by omega) (by first | exact Or.inl rfl | exact Or.inr rfl | exact b2i_b _) ⟨_, ⟨by simp [canApp, b2i, h7], rfl⟩, hR⟩
  · replace h7 := znlt h7
    refine zaload_n C dX8_canAppeal_10 rfl ?_
    refine zmga C hR hf_X8_97 rfl dX8_canAppeal_11 ?_
    refine ziload_n C dX8_canAppeal_14 rfl ?_
    refine zmia C hR rfl rfl rfl (show _ < 20 from by omega) dX8_canAppeal_15 ?_
    refine zconst (v := -1) C dX8_canAppeal_16 (by decide) ?_
    refine zicmp_eq (tgt := 49) C dX8_canAppeal_17 (by decide) (fun h17 => ?_) (fun h17 => ?_)
    · refine zconst (v := 0) C dX8_canAppeal_49 (by decide) ?_
      exact zend_z C hE dX8_canAppeal_50 (by omega) (by omega) (by first | exact Or.inl rfl | exact Or.inr rfl | exact b2i_b _) ⟨_, ⟨by simp [canApp, b2i, h7, h17], rfl⟩, hR⟩
    · refine zaload_n C dX8_canAppeal_20 rfl ?_
      refine zmga C hR hf_X8_124 rfl dX8_canAppeal_21 ?_
      refine ziload_n C dX8_canAppeal_24 rfl ?_
      refine zmza C hR rfl rfl rfl (show _ < 20 from by omega) dX8_canAppeal_25 ?_
      refine zif_ne (tgt := 49) C dX8_canAppeal_26 (by decide) (fun h26 => ?_) (fun h26 => ?_)
      · refine zconst (v := 0) C dX8_canAppeal_49 (by decide) ?_
        exact zend_z C hE dX8_canAppeal_50 (by omega) (by omega) (by first | exact Or.inl rfl | exact Or.inr rfl | exact b2i_b _) ⟨_, ⟨by simp [canApp, b2i, h7, h17, h26], rfl⟩, hR⟩
      · refine zaload_n C dX8_canAppeal_29 rfl ?_
        refine zmgi C hR hf_X8_154 rfl dX8_canAppeal_30 ?_
        refine zaload_n C dX8_canAppeal_33 rfl ?_
        refine zmga C hR hf_X8_121 rfl dX8_canAppeal_34 ?_
        refine ziload_n C dX8_canAppeal_37 rfl ?_
        refine zmia C hR rfl rfl rfl (show _ < 20 from by omega) dX8_canAppeal_38 ?_
        refine zisub C dX8_canAppeal_39 ?_
        refine zbipush (v := 60) C dX8_canAppeal_40 (by decide) ?_
        refine zicmp_gt (tgt := 49) C dX8_canAppeal_42 (by decide) (fun h42 => ?_) (fun h42 => ?_)
        · replace h42 := zgt_n h42
          refine zconst (v := 0) C dX8_canAppeal_49 (by decide) ?_
          exact zend_z C hE dX8_canAppeal_50 (by omega) (by omega) (by first | exact Or.inl rfl | exact Or.inr rfl | exact b2i_b _) ⟨_, ⟨by simp [canApp, b2i, h7, h17, h26, h42], rfl⟩, hR⟩
        · replace h42 := zngt h42
          refine zconst (v := 1) C dX8_canAppeal_45 (by decide) ?_
          refine zgoto (tgt := 50) C dX8_canAppeal_46 (by decide) ?_
          exact zend_z C hE dX8_canAppeal_50 (by omega) (by omega) (by first | exact Or.inl rfl | exact Or.inr rfl | exact b2i_b _) ⟨_, ⟨by simp [canApp, b2i, h7, h17, h26, h42], rfl⟩, hR⟩
set_option maxRecDepth 100000 in
set_option maxHeartbeats 1000000 in
theorem m_goesBack {g : zGh} {M0 : zM} {mo : Nat} {ad : Nat → Nat} {S : zS} (s a b : Nat) (hs : s < 20) (ha : a < 40) (hb : b < 40) (ea : S.2.2.1 34 s = nI a) (eb : S.2.2.1 35 s = nI b) : zMc g M0 mo ad yX8_goesBack cX8_goesBack 6 none 1 21 mkV [.int (nI s)] S (fun v S1 => S1 = backS S s a b) := by
  intro M hR
  refine zof [some (.ref mo), some (.int (nI s)), none, none, none, none] (by decide +kernel) rfl rfl (Nat.le_of_ble_eq_true rfl) ?_
  intro X C hE hnm
  have C : zC g X RX8 cX8_goesBack 6 1 21 0 0 := C
  refine zaload_n C dX8_goesBack_0 rfl ?_
  refine zmga C hR hf_X8_50 rfl dX8_goesBack_1 ?_
  refine zaload_n C dX8_goesBack_4 rfl ?_
  refine zmga C hR hf_X8_91 rfl dX8_goesBack_5 ?_
  refine ziload_n C dX8_goesBack_8 rfl ?_
  refine zmia C hR rfl rfl rfl (show _ < 20 from by omega) dX8_goesBack_9 ?_
  refine zcg ?_ rfl (congrArg (fun z => (.int z :: _ : List Value)) ea)
  refine zmla C hR rfl rfl rfl (show _ < 40 from by omega) dX8_goesBack_10 ?_
  refine zlstore_n (L1 := [_, _, _, _, _, _]) C dX8_goesBack_11 rfl (Nat.le_of_ble_eq_true rfl) ?_
  refine zjnLM 45 (fun x => x = backI S s a) hR (fun J12_2 => ?_) (fun M x12 hR hx12 => ?_)
  · refine zaload_n C dX8_goesBack_12 rfl ?_
    refine ziload_n C dX8_goesBack_13 rfl ?_
    refine zcallV C (m_bothLive s a b hs ha hb ea eb M hR) hy_X8_bothLive hv_X8_bothLive hl_X8_274 hR.1 rfl rfl rfl rfl (by decide) (by decide) (by omega) (by omega) rfl (by exact Nat.le_of_ble_eq_true rfl) dX8_goesBack_14 (fun v14 M hp14 => ?_)
    obtain ⟨S1, ⟨rfl, hs⟩, hR⟩ := hp14
    rw [hs] at hR
    clear hs
    refine zif_ne (tgt := 24) C dX8_goesBack_17 (by decide) (fun h17 => ?_) (fun h17 => ?_)
    · replace h17 := b2i_n0.mp h17
      refine zlload_n C dX8_goesBack_24 rfl ?_
      refine zaload_n C dX8_goesBack_25 rfl ?_
      refine zmga C hR hf_X8_118 rfl dX8_goesBack_26 ?_
      refine ziload_n C dX8_goesBack_29 rfl ?_
      refine zmla C hR rfl rfl rfl (show _ < 20 from by omega) dX8_goesBack_30 ?_
      refine zlcmp C dX8_goesBack_31 ?_
      refine zif_ge (tgt := 39) C dX8_goesBack_32 (by decide) (fun h32 => ?_) (fun h32 => ?_)
      · replace h32 := (lg_cmp_ge _ _).mp h32
        replace h32 := zlt_jf h32
        refine zaload_n C dX8_goesBack_39 rfl ?_
        refine zmga C hR hf_X8_118 rfl dX8_goesBack_40 ?_
        refine ziload_n C dX8_goesBack_43 rfl ?_
        refine zmla C hR rfl rfl rfl (show _ < 20 from by omega) dX8_goesBack_44 ?_
        exact J12_2 _ _ hR (by simp [backI, h17, h32])
      · replace h32 := mt (lg_cmp_ge _ _).mpr h32
        replace h32 := zlt_jt h32
        refine zlload_n C dX8_goesBack_35 rfl ?_
        refine zgoto (tgt := 45) C dX8_goesBack_36 (by decide) ?_
        exact J12_2 _ _ hR (by simp [backI, h17, h32])
    · replace h17 := b2i_0.mp h17
      refine zlconst (v := 0) C dX8_goesBack_20 rfl ?_
      refine zgoto (tgt := 45) C dX8_goesBack_21 (by decide) ?_
      exact J12_2 _ _ hR (by simp [backI, h17])
  · subst hx12
    refine zlstore (L1 := [_, _, _, _, _, _]) C dX8_goesBack_45 rfl (Nat.le_of_ble_eq_true rfl) ?_
    refine zaload_n C dX8_goesBack_47 rfl ?_
    refine zmga C hR hf_X8_50 rfl dX8_goesBack_48 ?_
    refine zaload_n C dX8_goesBack_51 rfl ?_
    refine zmga C hR hf_X8_91 rfl dX8_goesBack_52 ?_
    refine ziload_n C dX8_goesBack_55 rfl ?_
    refine zmia C hR rfl rfl rfl (show _ < 20 from by omega) dX8_goesBack_56 ?_
    refine zcg ?_ rfl (congrArg (fun z => (.int z :: _ : List Value)) ea)
    refine zdup2_11 C dX8_goesBack_57 rfl rfl ?_
    refine zmla C hR rfl rfl rfl (show _ < 40 from by omega) dX8_goesBack_58 ?_
    refine zlload C dX8_goesBack_59 rfl ?_
    refine zlsub C dX8_goesBack_61 ?_
    refine zmls C hR rfl rfl rfl (show _ < 40 from by omega) dX8_goesBack_62 (fun M hR => ?_)
    refine zaload_n C dX8_goesBack_63 rfl ?_
    refine zmga C hR hf_X8_50 rfl dX8_goesBack_64 ?_
    refine zaload_n C dX8_goesBack_67 rfl ?_
    refine zmga C hR hf_X8_94 rfl dX8_goesBack_68 ?_
    refine ziload_n C dX8_goesBack_71 rfl ?_
    refine zmia C hR rfl rfl rfl (show _ < 20 from by omega) dX8_goesBack_72 ?_
    refine zcg ?_ rfl (congrArg (fun z => (.int z :: _ : List Value)) eb)
    refine zdup2_11 C dX8_goesBack_73 rfl rfl ?_
    refine zmla C hR rfl rfl rfl (show _ < 40 from by omega) dX8_goesBack_74 ?_
    refine zlload C dX8_goesBack_75 rfl ?_
    refine zladd C dX8_goesBack_77 ?_
    refine zmls C hR rfl rfl rfl (show _ < 40 from by omega) dX8_goesBack_78 (fun M hR => ?_)
    refine zaload_n C dX8_goesBack_79 rfl ?_
    refine zmga C hR hf_X8_118 rfl dX8_goesBack_80 ?_
    refine ziload_n C dX8_goesBack_83 rfl ?_
    refine zlconst (v := 0) C dX8_goesBack_84 rfl ?_
    refine zmls C hR rfl rfl rfl (show _ < 20 from by omega) dX8_goesBack_85 (fun M hR => ?_)
    refine zaload_n C dX8_goesBack_86 rfl ?_
    refine zmga C hR hf_X8_115 rfl dX8_goesBack_87 ?_
    refine ziload_n C dX8_goesBack_90 rfl ?_
    refine zlconst (v := 0) C dX8_goesBack_91 rfl ?_
    refine zmls C hR rfl rfl rfl (show _ < 20 from by omega) dX8_goesBack_92 (fun M hR => ?_)
    exact zend_v C hE dX8_goesBack_93 (by omega) (by omega) ⟨_, by simp [backS, move, zsL_g, zsL_a], hR⟩
set_option maxRecDepth 100000 in
set_option maxHeartbeats 1000000 in
theorem m_appeal {g : zGh} {M0 : zM} {mo : Nat} {ad : Nat → Nat} {S : zS} (s : Int32) (hi : iB S) (hT : ∀ p, p < S.1 13 → iT S p) (hS : ∀ s, s < S.1 33 → iSu S s) : zMc g M0 mo ad yX8_appeal cX8_appeal 4 (some .boolean) 2 54 mkI [.int s] S (fun v S1 => (S1, v) = o_appeal S s) := by
  intro M hR
  refine zof [some (.ref mo), some (.int s), none, none] (by decide +kernel) rfl rfl (Nat.le_of_ble_eq_true rfl) ?_
  intro X C hE hnm
  have C : zC g X RX8 cX8_appeal 4 2 54 0 0 := C
  obtain ⟨hb1, hb2, hb4, hb9, hb13, hb25, hb33⟩ := id hi
  refine zaload_n C dX8_appeal_0 rfl ?_
  refine ziload_n C dX8_appeal_1 rfl ?_
  refine zcallV C (m_isSuit s (by omega) M hR) hy_X8_isSuit hv_X8_isSuit hl_X8_259 hR.1 rfl rfl rfl rfl (by decide) (by decide) (by omega) (by omega) rfl (by exact Nat.le_of_ble_eq_true rfl) dX8_appeal_2 (fun v2 M hp2 => ?_)
  obtain ⟨S1, ⟨rfl, hs⟩, hR⟩ := hp2
  rw [hs] at hR
  clear hs
  refine zistore_n (L1 := [_, _, _, _]) C dX8_appeal_5 rfl (Nat.le_of_ble_eq_true rfl) ?_
  refine zaload_n C dX8_appeal_6 rfl ?_
  refine ziload_n C dX8_appeal_7 rfl ?_
  refine zif_ne (tgt := 15) C dX8_appeal_8 (by decide) (fun h8 => ?_) (fun h8 => ?_)
  · replace h8 := b2i_n0.mp h8
    obtain ⟨sn, hsn, rfl⟩ := zix_of h8 (by omega)
    have esn := nI_clamp (show sn < 2 ^ 31 by omega)
    obtain ⟨an, bn, han, hbn, ea, eb⟩ := hS sn hsn
    have ean := nI_clamp (show an < 2 ^ 31 by omega)
    have ebn := nI_clamp (show bn < 2 ^ 31 by omega)
    refine zaload_n C dX8_appeal_15 rfl ?_
    refine ziload_n C dX8_appeal_16 rfl ?_
    refine zcallV C (m_canAppeal sn (by omega) M hR) hy_X8_canAppeal hv_X8_canAppeal hl_X8_277 hR.1 rfl rfl rfl rfl (by decide) (by decide) (by omega) (by omega) rfl (by exact Nat.le_of_ble_eq_true rfl) dX8_appeal_17 (fun v17 M hp17 => ?_)
    obtain ⟨S1, ⟨rfl, hs⟩, hR⟩ := hp17
    rw [hs] at hR
    clear hs
    refine zif_eq (tgt := 27) C dX8_appeal_20 (by decide) (fun h20 => ?_) (fun h20 => ?_)
    · replace h20 := b2i_0.mp h20
      refine zconst (v := 2) C dX8_appeal_27 (by decide) ?_
      refine zcallV C (m_holds 2 (by decide) M hR) hy_X8_holds hv_X8_holds hl_X8_157 hR.1 rfl rfl rfl rfl (by decide) (by decide) (by omega) (by omega) rfl (by exact Nat.le_of_ble_eq_true rfl) dX8_appeal_28 (fun v28 M hp28 => ?_)
      obtain ⟨S1, ⟨rfl, hs⟩, hR⟩ := hp28
      rw [hs] at hR
      clear hs
      refine zif_ne_f (tgt := 36) C dX8_appeal_31 (by decide) (by decide) ?_
      refine zconst (v := 0) C dX8_appeal_34 (by decide) ?_
      exact zend_z C hE dX8_appeal_35 (by omega) (by omega) (by first | exact Or.inl rfl | exact Or.inr rfl | exact b2i_b _) ⟨_, by first | (simp [o_appeal, appS, backS_a, backS_1, zsA_g, zsN_g, zsN_2, zsA_1, zsA_c, zsA_l, zsL_g, zsL_1, zsL_c, zsL_a, zsN_N, courtOn_th, faithAt_th, lawOf_th, ruleOn_th, isGrown_th, canWit_th, lasting_th, isMinor_th, isWonAt_th, canJudge_th, canTest_th, heard_th, bothLive_th, lowestMarriage_th, kids_th, h8, esn, ea, eb, ean, ebn, h20]; done) | (simp_all [o_appeal, appS, backS_a, backS_1, zsA_g, zsN_g, zsN_2, zsA_1, zsA_c, zsA_l, zsL_g, zsL_1, zsL_c, zsL_a, zsN_N, courtOn_th, faithAt_th, lawOf_th, ruleOn_th, isGrown_th, canWit_th, lasting_th, isMinor_th, isWonAt_th, canJudge_th, canTest_th, heard_th, bothLive_th, lowestMarriage_th, kids_th, h8, esn, ea, eb, ean, ebn, h20]; done), hR⟩
    · replace h20 := b2i_n0.mp h20
      refine zconst (v := 0) C dX8_appeal_23 (by decide) ?_
      refine zgoto (tgt := 28) C dX8_appeal_24 (by decide) ?_
      refine zcallV C (m_holds 0 (by decide) M hR) hy_X8_holds hv_X8_holds hl_X8_157 hR.1 rfl rfl rfl rfl (by decide) (by decide) (by omega) (by omega) rfl (by exact Nat.le_of_ble_eq_true rfl) dX8_appeal_28 (fun v28 M hp28 => ?_)
      obtain ⟨S1, ⟨rfl, hs⟩, hR⟩ := hp28
      rw [hs] at hR
      clear hs
      refine zif_ne_t (tgt := 36) C dX8_appeal_31 (by decide) (by decide) ?_
      refine zaload_n C dX8_appeal_36 rfl ?_
      refine ziload_n C dX8_appeal_37 rfl ?_
      refine zconst (v := -1) C dX8_appeal_38 (by decide) ?_
      refine zcallV C (m_isWonAt (S := th S 0) sn (-1) (by omega) hb13 hb4 hT M hR) hy_X8_isWonAt hv_X8_isWonAt hl_X8_271 hR.1 rfl rfl rfl rfl (by decide) (by decide) (by omega) (by omega) rfl (by exact Nat.le_of_ble_eq_true rfl) dX8_appeal_39 (fun v39 M hp39 => ?_)
      obtain ⟨S1, ⟨hv, hs⟩, hR⟩ := hp39
      have hv : v39 = b2i (isWonAt S sn (-1)) := hv
      subst hv
      rw [hs] at hR
      clear hs
      refine zistore_n (L1 := [_, _, _, _]) C dX8_appeal_42 rfl (Nat.le_of_ble_eq_true rfl) ?_
      refine zaload_n C dX8_appeal_43 rfl ?_
      refine zmga C hR hf_X8_106 rfl dX8_appeal_44 ?_
      refine ziload_n C dX8_appeal_47 rfl ?_
      refine zmia C hR rfl rfl rfl (show _ < 20 from by omega) dX8_appeal_48 ?_
      refine zconst (v := 2) C dX8_appeal_49 (by decide) ?_
      refine zicmp_ne (tgt := 62) C dX8_appeal_50 (by decide) (fun h50 => ?_) (fun h50 => ?_)
      · replace h50 : ¬ S.2.2.1 39 sn = 2 := h50
        refine zaload_n C dX8_appeal_62 rfl ?_
        refine zmga C hR hf_X8_115 rfl dX8_appeal_63 ?_
        refine ziload_n C dX8_appeal_66 rfl ?_
        refine zaload_n C dX8_appeal_67 rfl ?_
        refine zmga C hR hf_X8_106 rfl dX8_appeal_68 ?_
        refine ziload_n C dX8_appeal_71 rfl ?_
        refine zmia C hR rfl rfl rfl (show _ < 20 from by omega) dX8_appeal_72 ?_
        refine zconst (v := 3) C dX8_appeal_73 (by decide) ?_
        refine zicmp_ne (tgt := 91) C dX8_appeal_74 (by decide) (fun h74 => ?_) (fun h74 => ?_)
        · replace h74 : ¬ S.2.2.1 39 sn = 3 := h74
          refine zaload_n C dX8_appeal_91 rfl ?_
          refine zmga C hR hf_X8_115 rfl dX8_appeal_92 ?_
          refine ziload_n C dX8_appeal_95 rfl ?_
          refine zmla C hR rfl rfl rfl (show _ < 20 from by omega) dX8_appeal_96 ?_
          refine zmls C hR rfl rfl rfl (show _ < 20 from by omega) dX8_appeal_97 (fun M hR => ?_)
          refine zaload_n C dX8_appeal_98 rfl ?_
          refine zmga C hR hf_X8_106 rfl dX8_appeal_99 ?_
          refine ziload_n C dX8_appeal_102 rfl ?_
          refine ziload_n C dX8_appeal_103 rfl ?_
          refine zif_eq (tgt := 111) C dX8_appeal_104 (by decide) (fun h104 => ?_) (fun h104 => ?_)
          · replace h104 := b2i_0.mp h104
            refine zconst (v := 3) C dX8_appeal_111 (by decide) ?_
            refine zmis C hR rfl rfl rfl (show _ < 20 from by omega) dX8_appeal_112 (fun M hR => ?_)
            refine zaload_n C dX8_appeal_113 rfl ?_
            refine zmga C hR hf_X8_124 rfl dX8_appeal_114 ?_
            refine ziload_n C dX8_appeal_117 rfl ?_
            refine zconst (v := 1) C dX8_appeal_118 (by decide) ?_
            refine zmzs C hR rfl rfl rfl (show _ < 20 from by omega) (by decide) dX8_appeal_119 (fun M hR => ?_)
            refine zaload_n C dX8_appeal_120 rfl ?_
            refine zmga C hR hf_X8_121 rfl dX8_appeal_121 ?_
            refine ziload_n C dX8_appeal_124 rfl ?_
            refine zaload_n C dX8_appeal_125 rfl ?_
            refine zmgi C hR hf_X8_154 rfl dX8_appeal_126 ?_
            refine zmis C hR rfl rfl rfl (show _ < 20 from by omega) dX8_appeal_129 (fun M hR => ?_)
            refine ziload_n C dX8_appeal_130 rfl ?_
            exact zend_z C hE dX8_appeal_131 (by omega) (by omega) (by first | exact Or.inl rfl | exact Or.inr rfl | exact b2i_b _) ⟨_, by first | (simp [o_appeal, appS, backS_a, backS_1, zsA_g, zsN_g, zsN_2, zsA_1, zsA_c, zsA_l, zsL_g, zsL_1, zsL_c, zsL_a, zsN_N, courtOn_th, faithAt_th, lawOf_th, ruleOn_th, isGrown_th, canWit_th, lasting_th, isMinor_th, isWonAt_th, canJudge_th, canTest_th, heard_th, bothLive_th, lowestMarriage_th, kids_th, h8, esn, ea, eb, ean, ebn, h20, h50, h74, h104]; done) | (simp_all [o_appeal, appS, backS_a, backS_1, zsA_g, zsN_g, zsN_2, zsA_1, zsA_c, zsA_l, zsL_g, zsL_1, zsL_c, zsL_a, zsN_N, courtOn_th, faithAt_th, lawOf_th, ruleOn_th, isGrown_th, canWit_th, lasting_th, isMinor_th, isWonAt_th, canJudge_th, canTest_th, heard_th, bothLive_th, lowestMarriage_th, kids_th, h8, esn, ea, eb, ean, ebn, h20, h50, h74, h104]; done), hR⟩
          · replace h104 := b2i_n0.mp h104
            refine zconst (v := 2) C dX8_appeal_107 (by decide) ?_
            refine zgoto (tgt := 112) C dX8_appeal_108 (by decide) ?_
            refine zmis C hR rfl rfl rfl (show _ < 20 from by omega) dX8_appeal_112 (fun M hR => ?_)
            refine zaload_n C dX8_appeal_113 rfl ?_
            refine zmga C hR hf_X8_124 rfl dX8_appeal_114 ?_
            refine ziload_n C dX8_appeal_117 rfl ?_
            refine zconst (v := 1) C dX8_appeal_118 (by decide) ?_
            refine zmzs C hR rfl rfl rfl (show _ < 20 from by omega) (by decide) dX8_appeal_119 (fun M hR => ?_)
            refine zaload_n C dX8_appeal_120 rfl ?_
            refine zmga C hR hf_X8_121 rfl dX8_appeal_121 ?_
            refine ziload_n C dX8_appeal_124 rfl ?_
            refine zaload_n C dX8_appeal_125 rfl ?_
            refine zmgi C hR hf_X8_154 rfl dX8_appeal_126 ?_
            refine zmis C hR rfl rfl rfl (show _ < 20 from by omega) dX8_appeal_129 (fun M hR => ?_)
            refine ziload_n C dX8_appeal_130 rfl ?_
            exact zend_z C hE dX8_appeal_131 (by omega) (by omega) (by first | exact Or.inl rfl | exact Or.inr rfl | exact b2i_b _) ⟨_, by first | (simp [o_appeal, appS, backS_a, backS_1, zsA_g, zsN_g, zsN_2, zsA_1, zsA_c, zsA_l, zsL_g, zsL_1, zsL_c, zsL_a, zsN_N, courtOn_th, faithAt_th, lawOf_th, ruleOn_th, isGrown_th, canWit_th, lasting_th, isMinor_th, isWonAt_th, canJudge_th, canTest_th, heard_th, bothLive_th, lowestMarriage_th, kids_th, h8, esn, ea, eb, ean, ebn, h20, h50, h74, h104]; done) | (simp_all [o_appeal, appS, backS_a, backS_1, zsA_g, zsN_g, zsN_2, zsA_1, zsA_c, zsA_l, zsL_g, zsL_1, zsL_c, zsL_a, zsN_N, courtOn_th, faithAt_th, lawOf_th, ruleOn_th, isGrown_th, canWit_th, lasting_th, isMinor_th, isWonAt_th, canJudge_th, canTest_th, heard_th, bothLive_th, lowestMarriage_th, kids_th, h8, esn, ea, eb, ean, ebn, h20, h50, h74, h104]; done), hR⟩
        · replace h74 : S.2.2.1 39 sn = 3 := h74
          refine ziload_n C dX8_appeal_77 rfl ?_
          refine zif_eq (tgt := 91) C dX8_appeal_78 (by decide) (fun h78 => ?_) (fun h78 => ?_)
          · replace h78 := b2i_0.mp h78
            refine zaload_n C dX8_appeal_91 rfl ?_
            refine zmga C hR hf_X8_115 rfl dX8_appeal_92 ?_
            refine ziload_n C dX8_appeal_95 rfl ?_
            refine zmla C hR rfl rfl rfl (show _ < 20 from by omega) dX8_appeal_96 ?_
            refine zmls C hR rfl rfl rfl (show _ < 20 from by omega) dX8_appeal_97 (fun M hR => ?_)
            refine zaload_n C dX8_appeal_98 rfl ?_
            refine zmga C hR hf_X8_106 rfl dX8_appeal_99 ?_
            refine ziload_n C dX8_appeal_102 rfl ?_
            refine ziload_n C dX8_appeal_103 rfl ?_
            refine zif_eq (tgt := 111) C dX8_appeal_104 (by decide) (fun h104 => ?_) (fun h104 => ?_)
            · replace h104 := b2i_0.mp h104
              refine zconst (v := 3) C dX8_appeal_111 (by decide) ?_
              refine zmis C hR rfl rfl rfl (show _ < 20 from by omega) dX8_appeal_112 (fun M hR => ?_)
              refine zaload_n C dX8_appeal_113 rfl ?_
              refine zmga C hR hf_X8_124 rfl dX8_appeal_114 ?_
              refine ziload_n C dX8_appeal_117 rfl ?_
              refine zconst (v := 1) C dX8_appeal_118 (by decide) ?_
              refine zmzs C hR rfl rfl rfl (show _ < 20 from by omega) (by decide) dX8_appeal_119 (fun M hR => ?_)
              refine zaload_n C dX8_appeal_120 rfl ?_
              refine zmga C hR hf_X8_121 rfl dX8_appeal_121 ?_
              refine ziload_n C dX8_appeal_124 rfl ?_
              refine zaload_n C dX8_appeal_125 rfl ?_
              refine zmgi C hR hf_X8_154 rfl dX8_appeal_126 ?_
              refine zmis C hR rfl rfl rfl (show _ < 20 from by omega) dX8_appeal_129 (fun M hR => ?_)
              refine ziload_n C dX8_appeal_130 rfl ?_
              exact zend_z C hE dX8_appeal_131 (by omega) (by omega) (by first | exact Or.inl rfl | exact Or.inr rfl | exact b2i_b _) ⟨_, by first | (simp [o_appeal, appS, backS_a, backS_1, zsA_g, zsN_g, zsN_2, zsA_1, zsA_c, zsA_l, zsL_g, zsL_1, zsL_c, zsL_a, zsN_N, courtOn_th, faithAt_th, lawOf_th, ruleOn_th, isGrown_th, canWit_th, lasting_th, isMinor_th, isWonAt_th, canJudge_th, canTest_th, heard_th, bothLive_th, lowestMarriage_th, kids_th, h8, esn, ea, eb, ean, ebn, h20, h50, h74, h78, h104]; done) | (simp_all [o_appeal, appS, backS_a, backS_1, zsA_g, zsN_g, zsN_2, zsA_1, zsA_c, zsA_l, zsL_g, zsL_1, zsL_c, zsL_a, zsN_N, courtOn_th, faithAt_th, lawOf_th, ruleOn_th, isGrown_th, canWit_th, lasting_th, isMinor_th, isWonAt_th, canJudge_th, canTest_th, heard_th, bothLive_th, lowestMarriage_th, kids_th, h8, esn, ea, eb, ean, ebn, h20, h50, h74, h78, h104]; done), hR⟩
            · replace h104 := b2i_n0.mp h104
              refine zconst (v := 2) C dX8_appeal_107 (by decide) ?_
              refine zgoto (tgt := 112) C dX8_appeal_108 (by decide) ?_
              refine zmis C hR rfl rfl rfl (show _ < 20 from by omega) dX8_appeal_112 (fun M hR => ?_)
              refine zaload_n C dX8_appeal_113 rfl ?_
              refine zmga C hR hf_X8_124 rfl dX8_appeal_114 ?_
              refine ziload_n C dX8_appeal_117 rfl ?_
              refine zconst (v := 1) C dX8_appeal_118 (by decide) ?_
              refine zmzs C hR rfl rfl rfl (show _ < 20 from by omega) (by decide) dX8_appeal_119 (fun M hR => ?_)
              refine zaload_n C dX8_appeal_120 rfl ?_
              refine zmga C hR hf_X8_121 rfl dX8_appeal_121 ?_
              refine ziload_n C dX8_appeal_124 rfl ?_
              refine zaload_n C dX8_appeal_125 rfl ?_
              refine zmgi C hR hf_X8_154 rfl dX8_appeal_126 ?_
              refine zmis C hR rfl rfl rfl (show _ < 20 from by omega) dX8_appeal_129 (fun M hR => ?_)
              refine ziload_n C dX8_appeal_130 rfl ?_
              exact zend_z C hE dX8_appeal_131 (by omega) (by omega) (by first | exact Or.inl rfl | exact Or.inr rfl | exact b2i_b _) ⟨_, by first | (simp [o_appeal, appS, backS_a, backS_1, zsA_g, zsN_g, zsN_2, zsA_1, zsA_c, zsA_l, zsL_g, zsL_1, zsL_c, zsL_a, zsN_N, courtOn_th, faithAt_th, lawOf_th, ruleOn_th, isGrown_th, canWit_th, lasting_th, isMinor_th, isWonAt_th, canJudge_th, canTest_th, heard_th, bothLive_th, lowestMarriage_th, kids_th, h8, esn, ea, eb, ean, ebn, h20, h50, h74, h78, h104]; done) | (simp_all [o_appeal, appS, backS_a, backS_1, zsA_g, zsN_g, zsN_2, zsA_1, zsA_c, zsA_l, zsL_g, zsL_1, zsL_c, zsL_a, zsN_N, courtOn_th, faithAt_th, lawOf_th, ruleOn_th, isGrown_th, canWit_th, lasting_th, isMinor_th, isWonAt_th, canJudge_th, canTest_th, heard_th, bothLive_th, lowestMarriage_th, kids_th, h8, esn, ea, eb, ean, ebn, h20, h50, h74, h78, h104]; done), hR⟩
          · replace h78 := b2i_n0.mp h78
            refine zaload_n C dX8_appeal_81 rfl ?_
            refine zmga C hR hf_X8_100 rfl dX8_appeal_82 ?_
            refine ziload_n C dX8_appeal_85 rfl ?_
            refine zmia C hR rfl rfl rfl (show _ < 20 from by omega) dX8_appeal_86 ?_
            refine zi2l C dX8_appeal_87 ?_
            refine zgoto (tgt := 97) C dX8_appeal_88 (by decide) ?_
            refine zmls C hR rfl rfl rfl (show _ < 20 from by omega) dX8_appeal_97 (fun M hR => ?_)
            refine zaload_n C dX8_appeal_98 rfl ?_
            refine zmga C hR hf_X8_106 rfl dX8_appeal_99 ?_
            refine ziload_n C dX8_appeal_102 rfl ?_
            refine ziload_n C dX8_appeal_103 rfl ?_
            refine zif_eq (tgt := 111) C dX8_appeal_104 (by decide) (fun h104 => ?_) (fun h104 => ?_)
            · replace h104 := b2i_0.mp h104
              refine zconst (v := 3) C dX8_appeal_111 (by decide) ?_
              refine zmis C hR rfl rfl rfl (show _ < 20 from by omega) dX8_appeal_112 (fun M hR => ?_)
              refine zaload_n C dX8_appeal_113 rfl ?_
              refine zmga C hR hf_X8_124 rfl dX8_appeal_114 ?_
              refine ziload_n C dX8_appeal_117 rfl ?_
              refine zconst (v := 1) C dX8_appeal_118 (by decide) ?_
              refine zmzs C hR rfl rfl rfl (show _ < 20 from by omega) (by decide) dX8_appeal_119 (fun M hR => ?_)
              refine zaload_n C dX8_appeal_120 rfl ?_
              refine zmga C hR hf_X8_121 rfl dX8_appeal_121 ?_
              refine ziload_n C dX8_appeal_124 rfl ?_
              refine zaload_n C dX8_appeal_125 rfl ?_
              refine zmgi C hR hf_X8_154 rfl dX8_appeal_126 ?_
              refine zmis C hR rfl rfl rfl (show _ < 20 from by omega) dX8_appeal_129 (fun M hR => ?_)
              refine ziload_n C dX8_appeal_130 rfl ?_
              exact zend_z C hE dX8_appeal_131 (by omega) (by omega) (by first | exact Or.inl rfl | exact Or.inr rfl | exact b2i_b _) ⟨_, by first | (simp [o_appeal, appS, backS_a, backS_1, zsA_g, zsN_g, zsN_2, zsA_1, zsA_c, zsA_l, zsL_g, zsL_1, zsL_c, zsL_a, zsN_N, courtOn_th, faithAt_th, lawOf_th, ruleOn_th, isGrown_th, canWit_th, lasting_th, isMinor_th, isWonAt_th, canJudge_th, canTest_th, heard_th, bothLive_th, lowestMarriage_th, kids_th, h8, esn, ea, eb, ean, ebn, h20, h50, h74, h78, h104]; done) | (simp_all [o_appeal, appS, backS_a, backS_1, zsA_g, zsN_g, zsN_2, zsA_1, zsA_c, zsA_l, zsL_g, zsL_1, zsL_c, zsL_a, zsN_N, courtOn_th, faithAt_th, lawOf_th, ruleOn_th, isGrown_th, canWit_th, lasting_th, isMinor_th, isWonAt_th, canJudge_th, canTest_th, heard_th, bothLive_th, lowestMarriage_th, kids_th, h8, esn, ea, eb, ean, ebn, h20, h50, h74, h78, h104]; done), hR⟩
            · replace h104 := b2i_n0.mp h104
              refine zconst (v := 2) C dX8_appeal_107 (by decide) ?_
              refine zgoto (tgt := 112) C dX8_appeal_108 (by decide) ?_
              refine zmis C hR rfl rfl rfl (show _ < 20 from by omega) dX8_appeal_112 (fun M hR => ?_)
              refine zaload_n C dX8_appeal_113 rfl ?_
              refine zmga C hR hf_X8_124 rfl dX8_appeal_114 ?_
              refine ziload_n C dX8_appeal_117 rfl ?_
              refine zconst (v := 1) C dX8_appeal_118 (by decide) ?_
              refine zmzs C hR rfl rfl rfl (show _ < 20 from by omega) (by decide) dX8_appeal_119 (fun M hR => ?_)
              refine zaload_n C dX8_appeal_120 rfl ?_
              refine zmga C hR hf_X8_121 rfl dX8_appeal_121 ?_
              refine ziload_n C dX8_appeal_124 rfl ?_
              refine zaload_n C dX8_appeal_125 rfl ?_
              refine zmgi C hR hf_X8_154 rfl dX8_appeal_126 ?_
              refine zmis C hR rfl rfl rfl (show _ < 20 from by omega) dX8_appeal_129 (fun M hR => ?_)
              refine ziload_n C dX8_appeal_130 rfl ?_
              exact zend_z C hE dX8_appeal_131 (by omega) (by omega) (by first | exact Or.inl rfl | exact Or.inr rfl | exact b2i_b _) ⟨_, by first | (simp [o_appeal, appS, backS_a, backS_1, zsA_g, zsN_g, zsN_2, zsA_1, zsA_c, zsA_l, zsL_g, zsL_1, zsL_c, zsL_a, zsN_N, courtOn_th, faithAt_th, lawOf_th, ruleOn_th, isGrown_th, canWit_th, lasting_th, isMinor_th, isWonAt_th, canJudge_th, canTest_th, heard_th, bothLive_th, lowestMarriage_th, kids_th, h8, esn, ea, eb, ean, ebn, h20, h50, h74, h78, h104]; done) | (simp_all [o_appeal, appS, backS_a, backS_1, zsA_g, zsN_g, zsN_2, zsA_1, zsA_c, zsA_l, zsL_g, zsL_1, zsL_c, zsL_a, zsN_N, courtOn_th, faithAt_th, lawOf_th, ruleOn_th, isGrown_th, canWit_th, lasting_th, isMinor_th, isWonAt_th, canJudge_th, canTest_th, heard_th, bothLive_th, lowestMarriage_th, kids_th, h8, esn, ea, eb, ean, ebn, h20, h50, h74, h78, h104]; done), hR⟩
      · replace h50 : S.2.2.1 39 sn = 2 := h50
        refine ziload_n C dX8_appeal_53 rfl ?_
        refine zif_ne (tgt := 62) C dX8_appeal_54 (by decide) (fun h54 => ?_) (fun h54 => ?_)
        · replace h54 := b2i_n0.mp h54
          refine zaload_n C dX8_appeal_62 rfl ?_
          refine zmga C hR hf_X8_115 rfl dX8_appeal_63 ?_
          refine ziload_n C dX8_appeal_66 rfl ?_
          refine zaload_n C dX8_appeal_67 rfl ?_
          refine zmga C hR hf_X8_106 rfl dX8_appeal_68 ?_
          refine ziload_n C dX8_appeal_71 rfl ?_
          refine zmia C hR rfl rfl rfl (show _ < 20 from by omega) dX8_appeal_72 ?_
          refine zconst (v := 3) C dX8_appeal_73 (by decide) ?_
          refine zicmp_ne (tgt := 91) C dX8_appeal_74 (by decide) (fun h74 => ?_) (fun h74 => ?_)
          · replace h74 : ¬ S.2.2.1 39 sn = 3 := h74
            refine zaload_n C dX8_appeal_91 rfl ?_
            refine zmga C hR hf_X8_115 rfl dX8_appeal_92 ?_
            refine ziload_n C dX8_appeal_95 rfl ?_
            refine zmla C hR rfl rfl rfl (show _ < 20 from by omega) dX8_appeal_96 ?_
            refine zmls C hR rfl rfl rfl (show _ < 20 from by omega) dX8_appeal_97 (fun M hR => ?_)
            refine zaload_n C dX8_appeal_98 rfl ?_
            refine zmga C hR hf_X8_106 rfl dX8_appeal_99 ?_
            refine ziload_n C dX8_appeal_102 rfl ?_
            refine ziload_n C dX8_appeal_103 rfl ?_
            refine zif_eq (tgt := 111) C dX8_appeal_104 (by decide) (fun h104 => ?_) (fun h104 => ?_)
            · replace h104 := b2i_0.mp h104
              refine zconst (v := 3) C dX8_appeal_111 (by decide) ?_
              refine zmis C hR rfl rfl rfl (show _ < 20 from by omega) dX8_appeal_112 (fun M hR => ?_)
              refine zaload_n C dX8_appeal_113 rfl ?_
              refine zmga C hR hf_X8_124 rfl dX8_appeal_114 ?_
              refine ziload_n C dX8_appeal_117 rfl ?_
              refine zconst (v := 1) C dX8_appeal_118 (by decide) ?_
              refine zmzs C hR rfl rfl rfl (show _ < 20 from by omega) (by decide) dX8_appeal_119 (fun M hR => ?_)
              refine zaload_n C dX8_appeal_120 rfl ?_
              refine zmga C hR hf_X8_121 rfl dX8_appeal_121 ?_
              refine ziload_n C dX8_appeal_124 rfl ?_
              refine zaload_n C dX8_appeal_125 rfl ?_
              refine zmgi C hR hf_X8_154 rfl dX8_appeal_126 ?_
              refine zmis C hR rfl rfl rfl (show _ < 20 from by omega) dX8_appeal_129 (fun M hR => ?_)
              refine ziload_n C dX8_appeal_130 rfl ?_
              exact zend_z C hE dX8_appeal_131 (by omega) (by omega) (by first | exact Or.inl rfl | exact Or.inr rfl | exact b2i_b _) ⟨_, by first | (simp [o_appeal, appS, backS_a, backS_1, zsA_g, zsN_g, zsN_2, zsA_1, zsA_c, zsA_l, zsL_g, zsL_1, zsL_c, zsL_a, zsN_N, courtOn_th, faithAt_th, lawOf_th, ruleOn_th, isGrown_th, canWit_th, lasting_th, isMinor_th, isWonAt_th, canJudge_th, canTest_th, heard_th, bothLive_th, lowestMarriage_th, kids_th, h8, esn, ea, eb, ean, ebn, h20, h50, h54, h74, h104]; done) | (simp_all [o_appeal, appS, backS_a, backS_1, zsA_g, zsN_g, zsN_2, zsA_1, zsA_c, zsA_l, zsL_g, zsL_1, zsL_c, zsL_a, zsN_N, courtOn_th, faithAt_th, lawOf_th, ruleOn_th, isGrown_th, canWit_th, lasting_th, isMinor_th, isWonAt_th, canJudge_th, canTest_th, heard_th, bothLive_th, lowestMarriage_th, kids_th, h8, esn, ea, eb, ean, ebn, h20, h50, h54, h74, h104]; done), hR⟩
            · replace h104 := b2i_n0.mp h104
              refine zconst (v := 2) C dX8_appeal_107 (by decide) ?_
              refine zgoto (tgt := 112) C dX8_appeal_108 (by decide) ?_
              refine zmis C hR rfl rfl rfl (show _ < 20 from by omega) dX8_appeal_112 (fun M hR => ?_)
              refine zaload_n C dX8_appeal_113 rfl ?_
              refine zmga C hR hf_X8_124 rfl dX8_appeal_114 ?_
              refine ziload_n C dX8_appeal_117 rfl ?_
              refine zconst (v := 1) C dX8_appeal_118 (by decide) ?_
              refine zmzs C hR rfl rfl rfl (show _ < 20 from by omega) (by decide) dX8_appeal_119 (fun M hR => ?_)
              refine zaload_n C dX8_appeal_120 rfl ?_
              refine zmga C hR hf_X8_121 rfl dX8_appeal_121 ?_
              refine ziload_n C dX8_appeal_124 rfl ?_
              refine zaload_n C dX8_appeal_125 rfl ?_
              refine zmgi C hR hf_X8_154 rfl dX8_appeal_126 ?_
              refine zmis C hR rfl rfl rfl (show _ < 20 from by omega) dX8_appeal_129 (fun M hR => ?_)
              refine ziload_n C dX8_appeal_130 rfl ?_
              exact zend_z C hE dX8_appeal_131 (by omega) (by omega) (by first | exact Or.inl rfl | exact Or.inr rfl | exact b2i_b _) ⟨_, by first | (simp [o_appeal, appS, backS_a, backS_1, zsA_g, zsN_g, zsN_2, zsA_1, zsA_c, zsA_l, zsL_g, zsL_1, zsL_c, zsL_a, zsN_N, courtOn_th, faithAt_th, lawOf_th, ruleOn_th, isGrown_th, canWit_th, lasting_th, isMinor_th, isWonAt_th, canJudge_th, canTest_th, heard_th, bothLive_th, lowestMarriage_th, kids_th, h8, esn, ea, eb, ean, ebn, h20, h50, h54, h74, h104]; done) | (simp_all [o_appeal, appS, backS_a, backS_1, zsA_g, zsN_g, zsN_2, zsA_1, zsA_c, zsA_l, zsL_g, zsL_1, zsL_c, zsL_a, zsN_N, courtOn_th, faithAt_th, lawOf_th, ruleOn_th, isGrown_th, canWit_th, lasting_th, isMinor_th, isWonAt_th, canJudge_th, canTest_th, heard_th, bothLive_th, lowestMarriage_th, kids_th, h8, esn, ea, eb, ean, ebn, h20, h50, h54, h74, h104]; done), hR⟩
          · replace h74 : S.2.2.1 39 sn = 3 := h74
            refine ziload_n C dX8_appeal_77 rfl ?_
            refine zif_eq (tgt := 91) C dX8_appeal_78 (by decide) (fun h78 => ?_) (fun h78 => ?_)
            · replace h78 := b2i_0.mp h78
              refine zaload_n C dX8_appeal_91 rfl ?_
              refine zmga C hR hf_X8_115 rfl dX8_appeal_92 ?_
              refine ziload_n C dX8_appeal_95 rfl ?_
              refine zmla C hR rfl rfl rfl (show _ < 20 from by omega) dX8_appeal_96 ?_
              refine zmls C hR rfl rfl rfl (show _ < 20 from by omega) dX8_appeal_97 (fun M hR => ?_)
              refine zaload_n C dX8_appeal_98 rfl ?_
              refine zmga C hR hf_X8_106 rfl dX8_appeal_99 ?_
              refine ziload_n C dX8_appeal_102 rfl ?_
              refine ziload_n C dX8_appeal_103 rfl ?_
              refine zif_eq (tgt := 111) C dX8_appeal_104 (by decide) (fun h104 => ?_) (fun h104 => ?_)
              · replace h104 := b2i_0.mp h104
                refine zconst (v := 3) C dX8_appeal_111 (by decide) ?_
                refine zmis C hR rfl rfl rfl (show _ < 20 from by omega) dX8_appeal_112 (fun M hR => ?_)
                refine zaload_n C dX8_appeal_113 rfl ?_
                refine zmga C hR hf_X8_124 rfl dX8_appeal_114 ?_
                refine ziload_n C dX8_appeal_117 rfl ?_
                refine zconst (v := 1) C dX8_appeal_118 (by decide) ?_
                refine zmzs C hR rfl rfl rfl (show _ < 20 from by omega) (by decide) dX8_appeal_119 (fun M hR => ?_)
                refine zaload_n C dX8_appeal_120 rfl ?_
                refine zmga C hR hf_X8_121 rfl dX8_appeal_121 ?_
                refine ziload_n C dX8_appeal_124 rfl ?_
                refine zaload_n C dX8_appeal_125 rfl ?_
                refine zmgi C hR hf_X8_154 rfl dX8_appeal_126 ?_
                refine zmis C hR rfl rfl rfl (show _ < 20 from by omega) dX8_appeal_129 (fun M hR => ?_)
                refine ziload_n C dX8_appeal_130 rfl ?_
                exact zend_z C hE dX8_appeal_131 (by omega) (by omega) (by first | exact Or.inl rfl | exact Or.inr rfl | exact b2i_b _) ⟨_, by first | (simp [o_appeal, appS, backS_a, backS_1, zsA_g, zsN_g, zsN_2, zsA_1, zsA_c, zsA_l, zsL_g, zsL_1, zsL_c, zsL_a, zsN_N, courtOn_th, faithAt_th, lawOf_th, ruleOn_th, isGrown_th, canWit_th, lasting_th, isMinor_th, isWonAt_th, canJudge_th, canTest_th, heard_th, bothLive_th, lowestMarriage_th, kids_th, h8, esn, ea, eb, ean, ebn, h20, h50, h54, h74, h78, h104]; done) | (simp_all [o_appeal, appS, backS_a, backS_1, zsA_g, zsN_g, zsN_2, zsA_1, zsA_c, zsA_l, zsL_g, zsL_1, zsL_c, zsL_a, zsN_N, courtOn_th, faithAt_th, lawOf_th, ruleOn_th, isGrown_th, canWit_th, lasting_th, isMinor_th, isWonAt_th, canJudge_th, canTest_th, heard_th, bothLive_th, lowestMarriage_th, kids_th, h8, esn, ea, eb, ean, ebn, h20, h50, h54, h74, h78, h104]; done), hR⟩
              · replace h104 := b2i_n0.mp h104
                refine zconst (v := 2) C dX8_appeal_107 (by decide) ?_
                refine zgoto (tgt := 112) C dX8_appeal_108 (by decide) ?_
                refine zmis C hR rfl rfl rfl (show _ < 20 from by omega) dX8_appeal_112 (fun M hR => ?_)
                refine zaload_n C dX8_appeal_113 rfl ?_
                refine zmga C hR hf_X8_124 rfl dX8_appeal_114 ?_
                refine ziload_n C dX8_appeal_117 rfl ?_
                refine zconst (v := 1) C dX8_appeal_118 (by decide) ?_
                refine zmzs C hR rfl rfl rfl (show _ < 20 from by omega) (by decide) dX8_appeal_119 (fun M hR => ?_)
                refine zaload_n C dX8_appeal_120 rfl ?_
                refine zmga C hR hf_X8_121 rfl dX8_appeal_121 ?_
                refine ziload_n C dX8_appeal_124 rfl ?_
                refine zaload_n C dX8_appeal_125 rfl ?_
                refine zmgi C hR hf_X8_154 rfl dX8_appeal_126 ?_
                refine zmis C hR rfl rfl rfl (show _ < 20 from by omega) dX8_appeal_129 (fun M hR => ?_)
                refine ziload_n C dX8_appeal_130 rfl ?_
                exact zend_z C hE dX8_appeal_131 (by omega) (by omega) (by first | exact Or.inl rfl | exact Or.inr rfl | exact b2i_b _) ⟨_, by first | (simp [o_appeal, appS, backS_a, backS_1, zsA_g, zsN_g, zsN_2, zsA_1, zsA_c, zsA_l, zsL_g, zsL_1, zsL_c, zsL_a, zsN_N, courtOn_th, faithAt_th, lawOf_th, ruleOn_th, isGrown_th, canWit_th, lasting_th, isMinor_th, isWonAt_th, canJudge_th, canTest_th, heard_th, bothLive_th, lowestMarriage_th, kids_th, h8, esn, ea, eb, ean, ebn, h20, h50, h54, h74, h78, h104]; done) | (simp_all [o_appeal, appS, backS_a, backS_1, zsA_g, zsN_g, zsN_2, zsA_1, zsA_c, zsA_l, zsL_g, zsL_1, zsL_c, zsL_a, zsN_N, courtOn_th, faithAt_th, lawOf_th, ruleOn_th, isGrown_th, canWit_th, lasting_th, isMinor_th, isWonAt_th, canJudge_th, canTest_th, heard_th, bothLive_th, lowestMarriage_th, kids_th, h8, esn, ea, eb, ean, ebn, h20, h50, h54, h74, h78, h104]; done), hR⟩
            · replace h78 := b2i_n0.mp h78
              refine zaload_n C dX8_appeal_81 rfl ?_
              refine zmga C hR hf_X8_100 rfl dX8_appeal_82 ?_
              refine ziload_n C dX8_appeal_85 rfl ?_
              refine zmia C hR rfl rfl rfl (show _ < 20 from by omega) dX8_appeal_86 ?_
              refine zi2l C dX8_appeal_87 ?_
              refine zgoto (tgt := 97) C dX8_appeal_88 (by decide) ?_
              refine zmls C hR rfl rfl rfl (show _ < 20 from by omega) dX8_appeal_97 (fun M hR => ?_)
              refine zaload_n C dX8_appeal_98 rfl ?_
              refine zmga C hR hf_X8_106 rfl dX8_appeal_99 ?_
              refine ziload_n C dX8_appeal_102 rfl ?_
              refine ziload_n C dX8_appeal_103 rfl ?_
              refine zif_eq (tgt := 111) C dX8_appeal_104 (by decide) (fun h104 => ?_) (fun h104 => ?_)
              · replace h104 := b2i_0.mp h104
                refine zconst (v := 3) C dX8_appeal_111 (by decide) ?_
                refine zmis C hR rfl rfl rfl (show _ < 20 from by omega) dX8_appeal_112 (fun M hR => ?_)
                refine zaload_n C dX8_appeal_113 rfl ?_
                refine zmga C hR hf_X8_124 rfl dX8_appeal_114 ?_
                refine ziload_n C dX8_appeal_117 rfl ?_
                refine zconst (v := 1) C dX8_appeal_118 (by decide) ?_
                refine zmzs C hR rfl rfl rfl (show _ < 20 from by omega) (by decide) dX8_appeal_119 (fun M hR => ?_)
                refine zaload_n C dX8_appeal_120 rfl ?_
                refine zmga C hR hf_X8_121 rfl dX8_appeal_121 ?_
                refine ziload_n C dX8_appeal_124 rfl ?_
                refine zaload_n C dX8_appeal_125 rfl ?_
                refine zmgi C hR hf_X8_154 rfl dX8_appeal_126 ?_
                refine zmis C hR rfl rfl rfl (show _ < 20 from by omega) dX8_appeal_129 (fun M hR => ?_)
                refine ziload_n C dX8_appeal_130 rfl ?_
                exact zend_z C hE dX8_appeal_131 (by omega) (by omega) (by first | exact Or.inl rfl | exact Or.inr rfl | exact b2i_b _) ⟨_, by first | (simp [o_appeal, appS, backS_a, backS_1, zsA_g, zsN_g, zsN_2, zsA_1, zsA_c, zsA_l, zsL_g, zsL_1, zsL_c, zsL_a, zsN_N, courtOn_th, faithAt_th, lawOf_th, ruleOn_th, isGrown_th, canWit_th, lasting_th, isMinor_th, isWonAt_th, canJudge_th, canTest_th, heard_th, bothLive_th, lowestMarriage_th, kids_th, h8, esn, ea, eb, ean, ebn, h20, h50, h54, h74, h78, h104]; done) | (simp_all [o_appeal, appS, backS_a, backS_1, zsA_g, zsN_g, zsN_2, zsA_1, zsA_c, zsA_l, zsL_g, zsL_1, zsL_c, zsL_a, zsN_N, courtOn_th, faithAt_th, lawOf_th, ruleOn_th, isGrown_th, canWit_th, lasting_th, isMinor_th, isWonAt_th, canJudge_th, canTest_th, heard_th, bothLive_th, lowestMarriage_th, kids_th, h8, esn, ea, eb, ean, ebn, h20, h50, h54, h74, h78, h104]; done), hR⟩
              · replace h104 := b2i_n0.mp h104
                refine zconst (v := 2) C dX8_appeal_107 (by decide) ?_
                refine zgoto (tgt := 112) C dX8_appeal_108 (by decide) ?_
                refine zmis C hR rfl rfl rfl (show _ < 20 from by omega) dX8_appeal_112 (fun M hR => ?_)
                refine zaload_n C dX8_appeal_113 rfl ?_
                refine zmga C hR hf_X8_124 rfl dX8_appeal_114 ?_
                refine ziload_n C dX8_appeal_117 rfl ?_
                refine zconst (v := 1) C dX8_appeal_118 (by decide) ?_
                refine zmzs C hR rfl rfl rfl (show _ < 20 from by omega) (by decide) dX8_appeal_119 (fun M hR => ?_)
                refine zaload_n C dX8_appeal_120 rfl ?_
                refine zmga C hR hf_X8_121 rfl dX8_appeal_121 ?_
                refine ziload_n C dX8_appeal_124 rfl ?_
                refine zaload_n C dX8_appeal_125 rfl ?_
                refine zmgi C hR hf_X8_154 rfl dX8_appeal_126 ?_
                refine zmis C hR rfl rfl rfl (show _ < 20 from by omega) dX8_appeal_129 (fun M hR => ?_)
                refine ziload_n C dX8_appeal_130 rfl ?_
                exact zend_z C hE dX8_appeal_131 (by omega) (by omega) (by first | exact Or.inl rfl | exact Or.inr rfl | exact b2i_b _) ⟨_, by first | (simp [o_appeal, appS, backS_a, backS_1, zsA_g, zsN_g, zsN_2, zsA_1, zsA_c, zsA_l, zsL_g, zsL_1, zsL_c, zsL_a, zsN_N, courtOn_th, faithAt_th, lawOf_th, ruleOn_th, isGrown_th, canWit_th, lasting_th, isMinor_th, isWonAt_th, canJudge_th, canTest_th, heard_th, bothLive_th, lowestMarriage_th, kids_th, h8, esn, ea, eb, ean, ebn, h20, h50, h54, h74, h78, h104]; done) | (simp_all [o_appeal, appS, backS_a, backS_1, zsA_g, zsN_g, zsN_2, zsA_1, zsA_c, zsA_l, zsL_g, zsL_1, zsL_c, zsL_a, zsN_N, courtOn_th, faithAt_th, lawOf_th, ruleOn_th, isGrown_th, canWit_th, lasting_th, isMinor_th, isWonAt_th, canJudge_th, canTest_th, heard_th, bothLive_th, lowestMarriage_th, kids_th, h8, esn, ea, eb, ean, ebn, h20, h50, h54, h74, h78, h104]; done), hR⟩
        · replace h54 := b2i_0.mp h54
          refine zaload_n C dX8_appeal_57 rfl ?_
          refine ziload_n C dX8_appeal_58 rfl ?_
          refine zcallV C (m_goesBack (S := th S 0) sn an bn (by omega) (by omega) (by omega) ea eb M hR) hy_X8_goesBack hv_X8_goesBack hl_X8_280 hR.1 rfl rfl rfl rfl (by decide) (by decide) (by omega) (by omega) rfl (by exact Nat.le_of_ble_eq_true rfl) dX8_appeal_59 (fun v59 M hp59 => ?_)
          obtain ⟨S1, hs, hR⟩ := hp59
          rw [hs] at hR
          clear hs
          refine zaload_n C dX8_appeal_62 rfl ?_
          refine zmga C hR hf_X8_115 rfl dX8_appeal_63 ?_
          refine ziload_n C dX8_appeal_66 rfl ?_
          refine zaload_n C dX8_appeal_67 rfl ?_
          refine zmga C hR hf_X8_106 rfl dX8_appeal_68 ?_
          refine ziload_n C dX8_appeal_71 rfl ?_
          refine zmia C hR rfl rfl rfl (show _ < 20 from by omega) dX8_appeal_72 ?_
          refine zconst (v := 3) C dX8_appeal_73 (by decide) ?_
          refine zicmp_ne (tgt := 91) C dX8_appeal_74 (by decide) (fun h74 => ?_) (fun h74 => ?_)
          · replace h74 : ¬ S.2.2.1 39 sn = 3 := h74
            refine zaload_n C dX8_appeal_91 rfl ?_
            refine zmga C hR hf_X8_115 rfl dX8_appeal_92 ?_
            refine ziload_n C dX8_appeal_95 rfl ?_
            refine zmla C hR rfl rfl rfl (show _ < 20 from by omega) dX8_appeal_96 ?_
            refine zmls C hR rfl rfl rfl (show _ < 20 from by omega) dX8_appeal_97 (fun M hR => ?_)
            refine zaload_n C dX8_appeal_98 rfl ?_
            refine zmga C hR hf_X8_106 rfl dX8_appeal_99 ?_
            refine ziload_n C dX8_appeal_102 rfl ?_
            refine ziload_n C dX8_appeal_103 rfl ?_
            refine zif_eq (tgt := 111) C dX8_appeal_104 (by decide) (fun h104 => ?_) (fun h104 => ?_)
            · replace h104 := b2i_0.mp h104
              refine zconst (v := 3) C dX8_appeal_111 (by decide) ?_
              refine zmis C hR rfl rfl rfl (show _ < 20 from by omega) dX8_appeal_112 (fun M hR => ?_)
              refine zaload_n C dX8_appeal_113 rfl ?_
              refine zmga C hR hf_X8_124 rfl dX8_appeal_114 ?_
              refine ziload_n C dX8_appeal_117 rfl ?_
              refine zconst (v := 1) C dX8_appeal_118 (by decide) ?_
              refine zmzs C hR rfl rfl rfl (show _ < 20 from by omega) (by decide) dX8_appeal_119 (fun M hR => ?_)
              refine zaload_n C dX8_appeal_120 rfl ?_
              refine zmga C hR hf_X8_121 rfl dX8_appeal_121 ?_
              refine ziload_n C dX8_appeal_124 rfl ?_
              refine zaload_n C dX8_appeal_125 rfl ?_
              refine zmgi C hR hf_X8_154 rfl dX8_appeal_126 ?_
              refine zmis C hR rfl rfl rfl (show _ < 20 from by omega) dX8_appeal_129 (fun M hR => ?_)
              refine ziload_n C dX8_appeal_130 rfl ?_
              exact zend_z C hE dX8_appeal_131 (by omega) (by omega) (by first | exact Or.inl rfl | exact Or.inr rfl | exact b2i_b _) ⟨_, by first | (simp [o_appeal, appS, backS_a, backS_1, zsA_g, zsN_g, zsN_2, zsA_1, zsA_c, zsA_l, zsL_g, zsL_1, zsL_c, zsL_a, zsN_N, courtOn_th, faithAt_th, lawOf_th, ruleOn_th, isGrown_th, canWit_th, lasting_th, isMinor_th, isWonAt_th, canJudge_th, canTest_th, heard_th, bothLive_th, lowestMarriage_th, kids_th, h8, esn, ea, eb, ean, ebn, h20, h50, h54, h74, h104]; done) | (simp_all [o_appeal, appS, backS_a, backS_1, zsA_g, zsN_g, zsN_2, zsA_1, zsA_c, zsA_l, zsL_g, zsL_1, zsL_c, zsL_a, zsN_N, courtOn_th, faithAt_th, lawOf_th, ruleOn_th, isGrown_th, canWit_th, lasting_th, isMinor_th, isWonAt_th, canJudge_th, canTest_th, heard_th, bothLive_th, lowestMarriage_th, kids_th, h8, esn, ea, eb, ean, ebn, h20, h50, h54, h74, h104]; done), hR⟩
            · replace h104 := b2i_n0.mp h104
              refine zconst (v := 2) C dX8_appeal_107 (by decide) ?_
              refine zgoto (tgt := 112) C dX8_appeal_108 (by decide) ?_
              refine zmis C hR rfl rfl rfl (show _ < 20 from by omega) dX8_appeal_112 (fun M hR => ?_)
              refine zaload_n C dX8_appeal_113 rfl ?_
              refine zmga C hR hf_X8_124 rfl dX8_appeal_114 ?_
              refine ziload_n C dX8_appeal_117 rfl ?_
              refine zconst (v := 1) C dX8_appeal_118 (by decide) ?_
              refine zmzs C hR rfl rfl rfl (show _ < 20 from by omega) (by decide) dX8_appeal_119 (fun M hR => ?_)
              refine zaload_n C dX8_appeal_120 rfl ?_
              refine zmga C hR hf_X8_121 rfl dX8_appeal_121 ?_
              refine ziload_n C dX8_appeal_124 rfl ?_
              refine zaload_n C dX8_appeal_125 rfl ?_
              refine zmgi C hR hf_X8_154 rfl dX8_appeal_126 ?_
              refine zmis C hR rfl rfl rfl (show _ < 20 from by omega) dX8_appeal_129 (fun M hR => ?_)
              refine ziload_n C dX8_appeal_130 rfl ?_
              exact zend_z C hE dX8_appeal_131 (by omega) (by omega) (by first | exact Or.inl rfl | exact Or.inr rfl | exact b2i_b _) ⟨_, by first | (simp [o_appeal, appS, backS_a, backS_1, zsA_g, zsN_g, zsN_2, zsA_1, zsA_c, zsA_l, zsL_g, zsL_1, zsL_c, zsL_a, zsN_N, courtOn_th, faithAt_th, lawOf_th, ruleOn_th, isGrown_th, canWit_th, lasting_th, isMinor_th, isWonAt_th, canJudge_th, canTest_th, heard_th, bothLive_th, lowestMarriage_th, kids_th, h8, esn, ea, eb, ean, ebn, h20, h50, h54, h74, h104]; done) | (simp_all [o_appeal, appS, backS_a, backS_1, zsA_g, zsN_g, zsN_2, zsA_1, zsA_c, zsA_l, zsL_g, zsL_1, zsL_c, zsL_a, zsN_N, courtOn_th, faithAt_th, lawOf_th, ruleOn_th, isGrown_th, canWit_th, lasting_th, isMinor_th, isWonAt_th, canJudge_th, canTest_th, heard_th, bothLive_th, lowestMarriage_th, kids_th, h8, esn, ea, eb, ean, ebn, h20, h50, h54, h74, h104]; done), hR⟩
          · replace h74 : S.2.2.1 39 sn = 3 := h74
            refine ziload_n C dX8_appeal_77 rfl ?_
            refine zif_eq (tgt := 91) C dX8_appeal_78 (by decide) (fun h78 => ?_) (fun h78 => ?_)
            · replace h78 := b2i_0.mp h78
              refine zaload_n C dX8_appeal_91 rfl ?_
              refine zmga C hR hf_X8_115 rfl dX8_appeal_92 ?_
              refine ziload_n C dX8_appeal_95 rfl ?_
              refine zmla C hR rfl rfl rfl (show _ < 20 from by omega) dX8_appeal_96 ?_
              refine zmls C hR rfl rfl rfl (show _ < 20 from by omega) dX8_appeal_97 (fun M hR => ?_)
              refine zaload_n C dX8_appeal_98 rfl ?_
              refine zmga C hR hf_X8_106 rfl dX8_appeal_99 ?_
              refine ziload_n C dX8_appeal_102 rfl ?_
              refine ziload_n C dX8_appeal_103 rfl ?_
              refine zif_eq (tgt := 111) C dX8_appeal_104 (by decide) (fun h104 => ?_) (fun h104 => ?_)
              · replace h104 := b2i_0.mp h104
                refine zconst (v := 3) C dX8_appeal_111 (by decide) ?_
                refine zmis C hR rfl rfl rfl (show _ < 20 from by omega) dX8_appeal_112 (fun M hR => ?_)
                refine zaload_n C dX8_appeal_113 rfl ?_
                refine zmga C hR hf_X8_124 rfl dX8_appeal_114 ?_
                refine ziload_n C dX8_appeal_117 rfl ?_
                refine zconst (v := 1) C dX8_appeal_118 (by decide) ?_
                refine zmzs C hR rfl rfl rfl (show _ < 20 from by omega) (by decide) dX8_appeal_119 (fun M hR => ?_)
                refine zaload_n C dX8_appeal_120 rfl ?_
                refine zmga C hR hf_X8_121 rfl dX8_appeal_121 ?_
                refine ziload_n C dX8_appeal_124 rfl ?_
                refine zaload_n C dX8_appeal_125 rfl ?_
                refine zmgi C hR hf_X8_154 rfl dX8_appeal_126 ?_
                refine zmis C hR rfl rfl rfl (show _ < 20 from by omega) dX8_appeal_129 (fun M hR => ?_)
                refine ziload_n C dX8_appeal_130 rfl ?_
                exact zend_z C hE dX8_appeal_131 (by omega) (by omega) (by first | exact Or.inl rfl | exact Or.inr rfl | exact b2i_b _) ⟨_, by first | (simp [o_appeal, appS, backS_a, backS_1, zsA_g, zsN_g, zsN_2, zsA_1, zsA_c, zsA_l, zsL_g, zsL_1, zsL_c, zsL_a, zsN_N, courtOn_th, faithAt_th, lawOf_th, ruleOn_th, isGrown_th, canWit_th, lasting_th, isMinor_th, isWonAt_th, canJudge_th, canTest_th, heard_th, bothLive_th, lowestMarriage_th, kids_th, h8, esn, ea, eb, ean, ebn, h20, h50, h54, h74, h78, h104]; done) | (simp_all [o_appeal, appS, backS_a, backS_1, zsA_g, zsN_g, zsN_2, zsA_1, zsA_c, zsA_l, zsL_g, zsL_1, zsL_c, zsL_a, zsN_N, courtOn_th, faithAt_th, lawOf_th, ruleOn_th, isGrown_th, canWit_th, lasting_th, isMinor_th, isWonAt_th, canJudge_th, canTest_th, heard_th, bothLive_th, lowestMarriage_th, kids_th, h8, esn, ea, eb, ean, ebn, h20, h50, h54, h74, h78, h104]; done), hR⟩
              · replace h104 := b2i_n0.mp h104
                refine zconst (v := 2) C dX8_appeal_107 (by decide) ?_
                refine zgoto (tgt := 112) C dX8_appeal_108 (by decide) ?_
                refine zmis C hR rfl rfl rfl (show _ < 20 from by omega) dX8_appeal_112 (fun M hR => ?_)
                refine zaload_n C dX8_appeal_113 rfl ?_
                refine zmga C hR hf_X8_124 rfl dX8_appeal_114 ?_
                refine ziload_n C dX8_appeal_117 rfl ?_
                refine zconst (v := 1) C dX8_appeal_118 (by decide) ?_
                refine zmzs C hR rfl rfl rfl (show _ < 20 from by omega) (by decide) dX8_appeal_119 (fun M hR => ?_)
                refine zaload_n C dX8_appeal_120 rfl ?_
                refine zmga C hR hf_X8_121 rfl dX8_appeal_121 ?_
                refine ziload_n C dX8_appeal_124 rfl ?_
                refine zaload_n C dX8_appeal_125 rfl ?_
                refine zmgi C hR hf_X8_154 rfl dX8_appeal_126 ?_
                refine zmis C hR rfl rfl rfl (show _ < 20 from by omega) dX8_appeal_129 (fun M hR => ?_)
                refine ziload_n C dX8_appeal_130 rfl ?_
                exact zend_z C hE dX8_appeal_131 (by omega) (by omega) (by first | exact Or.inl rfl | exact Or.inr rfl | exact b2i_b _) ⟨_, by first | (simp [o_appeal, appS, backS_a, backS_1, zsA_g, zsN_g, zsN_2, zsA_1, zsA_c, zsA_l, zsL_g, zsL_1, zsL_c, zsL_a, zsN_N, courtOn_th, faithAt_th, lawOf_th, ruleOn_th, isGrown_th, canWit_th, lasting_th, isMinor_th, isWonAt_th, canJudge_th, canTest_th, heard_th, bothLive_th, lowestMarriage_th, kids_th, h8, esn, ea, eb, ean, ebn, h20, h50, h54, h74, h78, h104]; done) | (simp_all [o_appeal, appS, backS_a, backS_1, zsA_g, zsN_g, zsN_2, zsA_1, zsA_c, zsA_l, zsL_g, zsL_1, zsL_c, zsL_a, zsN_N, courtOn_th, faithAt_th, lawOf_th, ruleOn_th, isGrown_th, canWit_th, lasting_th, isMinor_th, isWonAt_th, canJudge_th, canTest_th, heard_th, bothLive_th, lowestMarriage_th, kids_th, h8, esn, ea, eb, ean, ebn, h20, h50, h54, h74, h78, h104]; done), hR⟩
            · replace h78 := b2i_n0.mp h78
              refine zaload_n C dX8_appeal_81 rfl ?_
              refine zmga C hR hf_X8_100 rfl dX8_appeal_82 ?_
              refine ziload_n C dX8_appeal_85 rfl ?_
              refine zmia C hR rfl rfl rfl (show _ < 20 from by omega) dX8_appeal_86 ?_
              refine zi2l C dX8_appeal_87 ?_
              refine zgoto (tgt := 97) C dX8_appeal_88 (by decide) ?_
              refine zmls C hR rfl rfl rfl (show _ < 20 from by omega) dX8_appeal_97 (fun M hR => ?_)
              refine zaload_n C dX8_appeal_98 rfl ?_
              refine zmga C hR hf_X8_106 rfl dX8_appeal_99 ?_
              refine ziload_n C dX8_appeal_102 rfl ?_
              refine ziload_n C dX8_appeal_103 rfl ?_
              refine zif_eq (tgt := 111) C dX8_appeal_104 (by decide) (fun h104 => ?_) (fun h104 => ?_)
              · replace h104 := b2i_0.mp h104
                refine zconst (v := 3) C dX8_appeal_111 (by decide) ?_
                refine zmis C hR rfl rfl rfl (show _ < 20 from by omega) dX8_appeal_112 (fun M hR => ?_)
                refine zaload_n C dX8_appeal_113 rfl ?_
                refine zmga C hR hf_X8_124 rfl dX8_appeal_114 ?_
                refine ziload_n C dX8_appeal_117 rfl ?_
                refine zconst (v := 1) C dX8_appeal_118 (by decide) ?_
                refine zmzs C hR rfl rfl rfl (show _ < 20 from by omega) (by decide) dX8_appeal_119 (fun M hR => ?_)
                refine zaload_n C dX8_appeal_120 rfl ?_
                refine zmga C hR hf_X8_121 rfl dX8_appeal_121 ?_
                refine ziload_n C dX8_appeal_124 rfl ?_
                refine zaload_n C dX8_appeal_125 rfl ?_
                refine zmgi C hR hf_X8_154 rfl dX8_appeal_126 ?_
                refine zmis C hR rfl rfl rfl (show _ < 20 from by omega) dX8_appeal_129 (fun M hR => ?_)
                refine ziload_n C dX8_appeal_130 rfl ?_
                exact zend_z C hE dX8_appeal_131 (by omega) (by omega) (by first | exact Or.inl rfl | exact Or.inr rfl | exact b2i_b _) ⟨_, by first | (simp [o_appeal, appS, backS_a, backS_1, zsA_g, zsN_g, zsN_2, zsA_1, zsA_c, zsA_l, zsL_g, zsL_1, zsL_c, zsL_a, zsN_N, courtOn_th, faithAt_th, lawOf_th, ruleOn_th, isGrown_th, canWit_th, lasting_th, isMinor_th, isWonAt_th, canJudge_th, canTest_th, heard_th, bothLive_th, lowestMarriage_th, kids_th, h8, esn, ea, eb, ean, ebn, h20, h50, h54, h74, h78, h104]; done) | (simp_all [o_appeal, appS, backS_a, backS_1, zsA_g, zsN_g, zsN_2, zsA_1, zsA_c, zsA_l, zsL_g, zsL_1, zsL_c, zsL_a, zsN_N, courtOn_th, faithAt_th, lawOf_th, ruleOn_th, isGrown_th, canWit_th, lasting_th, isMinor_th, isWonAt_th, canJudge_th, canTest_th, heard_th, bothLive_th, lowestMarriage_th, kids_th, h8, esn, ea, eb, ean, ebn, h20, h50, h54, h74, h78, h104]; done), hR⟩
              · replace h104 := b2i_n0.mp h104
                refine zconst (v := 2) C dX8_appeal_107 (by decide) ?_
                refine zgoto (tgt := 112) C dX8_appeal_108 (by decide) ?_
                refine zmis C hR rfl rfl rfl (show _ < 20 from by omega) dX8_appeal_112 (fun M hR => ?_)
                refine zaload_n C dX8_appeal_113 rfl ?_
                refine zmga C hR hf_X8_124 rfl dX8_appeal_114 ?_
                refine ziload_n C dX8_appeal_117 rfl ?_
                refine zconst (v := 1) C dX8_appeal_118 (by decide) ?_
                refine zmzs C hR rfl rfl rfl (show _ < 20 from by omega) (by decide) dX8_appeal_119 (fun M hR => ?_)
                refine zaload_n C dX8_appeal_120 rfl ?_
                refine zmga C hR hf_X8_121 rfl dX8_appeal_121 ?_
                refine ziload_n C dX8_appeal_124 rfl ?_
                refine zaload_n C dX8_appeal_125 rfl ?_
                refine zmgi C hR hf_X8_154 rfl dX8_appeal_126 ?_
                refine zmis C hR rfl rfl rfl (show _ < 20 from by omega) dX8_appeal_129 (fun M hR => ?_)
                refine ziload_n C dX8_appeal_130 rfl ?_
                exact zend_z C hE dX8_appeal_131 (by omega) (by omega) (by first | exact Or.inl rfl | exact Or.inr rfl | exact b2i_b _) ⟨_, by first | (simp [o_appeal, appS, backS_a, backS_1, zsA_g, zsN_g, zsN_2, zsA_1, zsA_c, zsA_l, zsL_g, zsL_1, zsL_c, zsL_a, zsN_N, courtOn_th, faithAt_th, lawOf_th, ruleOn_th, isGrown_th, canWit_th, lasting_th, isMinor_th, isWonAt_th, canJudge_th, canTest_th, heard_th, bothLive_th, lowestMarriage_th, kids_th, h8, esn, ea, eb, ean, ebn, h20, h50, h54, h74, h78, h104]; done) | (simp_all [o_appeal, appS, backS_a, backS_1, zsA_g, zsN_g, zsN_2, zsA_1, zsA_c, zsA_l, zsL_g, zsL_1, zsL_c, zsL_a, zsN_N, courtOn_th, faithAt_th, lawOf_th, ruleOn_th, isGrown_th, canWit_th, lasting_th, isMinor_th, isWonAt_th, canJudge_th, canTest_th, heard_th, bothLive_th, lowestMarriage_th, kids_th, h8, esn, ea, eb, ean, ebn, h20, h50, h54, h74, h78, h104]; done), hR⟩
  · replace h8 := b2i_0.mp h8
    refine zconst (v := 1) C dX8_appeal_11 (by decide) ?_
    refine zgoto (tgt := 28) C dX8_appeal_12 (by decide) ?_
    refine zcallV C (m_holds 1 (by decide) M hR) hy_X8_holds hv_X8_holds hl_X8_157 hR.1 rfl rfl rfl rfl (by decide) (by decide) (by omega) (by omega) rfl (by exact Nat.le_of_ble_eq_true rfl) dX8_appeal_28 (fun v28 M hp28 => ?_)
    obtain ⟨S1, ⟨rfl, hs⟩, hR⟩ := hp28
    rw [hs] at hR
    clear hs
    refine zif_ne_f (tgt := 36) C dX8_appeal_31 (by decide) (by decide) ?_
    refine zconst (v := 0) C dX8_appeal_34 (by decide) ?_
    exact zend_z C hE dX8_appeal_35 (by omega) (by omega) (by first | exact Or.inl rfl | exact Or.inr rfl | exact b2i_b _) ⟨_, by first | (simp [o_appeal, appS, backS_a, backS_1, zsA_g, zsN_g, zsN_2, zsA_1, zsA_c, zsA_l, zsL_g, zsL_1, zsL_c, zsL_a, zsN_N, courtOn_th, faithAt_th, lawOf_th, ruleOn_th, isGrown_th, canWit_th, lasting_th, isMinor_th, isWonAt_th, canJudge_th, canTest_th, heard_th, bothLive_th, lowestMarriage_th, kids_th, h8]; done) | (simp_all [o_appeal, appS, backS_a, backS_1, zsA_g, zsN_g, zsN_2, zsA_1, zsA_c, zsA_l, zsL_g, zsL_1, zsL_c, zsL_a, zsN_N, courtOn_th, faithAt_th, lawOf_th, ruleOn_th, isGrown_th, canWit_th, lasting_th, isMinor_th, isWonAt_th, canJudge_th, canTest_th, heard_th, bothLive_th, lowestMarriage_th, kids_th, h8]; done), hR⟩
set_option maxRecDepth 100000 in
set_option maxHeartbeats 1000000 in
theorem m_execute {g : zGh} {M0 : zM} {mo : Nat} {ad : Nat → Nat} {S : zS} (s : Int32) (hi : iB S) (hS : ∀ s, s < S.1 33 → iSu S s) : zMc g M0 mo ad yX8_execute cX8_execute 7 (some .long) 2 43 mkL [.int s] S (fun v S1 => (S1, v) = o_execute S s) := by
  intro M hR
  refine zof [some (.ref mo), some (.int s), none, none, none, none, none] (by decide +kernel) rfl rfl (Nat.le_of_ble_eq_true rfl) ?_
  intro X C hE hnm
  have C : zC g X RX8 cX8_execute 7 2 43 0 0 := C
  obtain ⟨hb1, hb2, hb4, hb9, hb13, hb25, hb33⟩ := id hi
  refine zaload_n C dX8_execute_0 rfl ?_
  refine ziload_n C dX8_execute_1 rfl ?_
  refine zcallV C (m_isSuit s (by omega) M hR) hy_X8_isSuit hv_X8_isSuit hl_X8_259 hR.1 rfl rfl rfl rfl (by decide) (by decide) (by omega) (by omega) rfl (by exact Nat.le_of_ble_eq_true rfl) dX8_execute_2 (fun v2 M hp2 => ?_)
  obtain ⟨S1, ⟨rfl, hs⟩, hR⟩ := hp2
  rw [hs] at hR
  clear hs
  refine zistore_n (L1 := [_, _, _, _, _, _, _]) C dX8_execute_5 rfl (Nat.le_of_ble_eq_true rfl) ?_
  refine zaload_n C dX8_execute_6 rfl ?_
  refine ziload_n C dX8_execute_7 rfl ?_
  refine zif_ne (tgt := 15) C dX8_execute_8 (by decide) (fun h8 => ?_) (fun h8 => ?_)
  · replace h8 := b2i_n0.mp h8
    obtain ⟨sn, hsn, rfl⟩ := zix_of h8 (by omega)
    have esn := nI_clamp (show sn < 2 ^ 31 by omega)
    obtain ⟨an, bn, han, hbn, ea, eb⟩ := hS sn hsn
    have ean := nI_clamp (show an < 2 ^ 31 by omega)
    have ebn := nI_clamp (show bn < 2 ^ 31 by omega)
    refine zaload_n C dX8_execute_15 rfl ?_
    refine zmga C hR hf_X8_106 rfl dX8_execute_16 ?_
    refine ziload_n C dX8_execute_19 rfl ?_
    refine zmia C hR rfl rfl rfl (show _ < 20 from by omega) dX8_execute_20 ?_
    refine zconst (v := 2) C dX8_execute_21 (by decide) ?_
    refine zicmp_ne (tgt := 44) C dX8_execute_22 (by decide) (fun h22 => ?_) (fun h22 => ?_)
    · refine zconst (v := 2) C dX8_execute_44 (by decide) ?_
      refine zgoto (tgt := 49) C dX8_execute_45 (by decide) ?_
      refine zcallV C (m_holds 2 (by decide) M hR) hy_X8_holds hv_X8_holds hl_X8_157 hR.1 rfl rfl rfl rfl (by decide) (by decide) (by omega) (by omega) rfl (by exact Nat.le_of_ble_eq_true rfl) dX8_execute_49 (fun v49 M hp49 => ?_)
      obtain ⟨S1, ⟨rfl, hs⟩, hR⟩ := hp49
      rw [hs] at hR
      clear hs
      refine zif_ne_f (tgt := 57) C dX8_execute_52 (by decide) (by decide) ?_
      refine zlconst (v := 0) C dX8_execute_55 rfl ?_
      exact zend_l C hE dX8_execute_56 (by omega) (by omega) ⟨_, by first | (simp [o_execute, exeS, exeI, move, zsL_t, zsA_g, zsN_g, zsN_2, zsA_1, zsA_c, zsA_l, zsL_g, zsL_1, zsL_c, zsL_a, zsN_N, courtOn_th, faithAt_th, lawOf_th, ruleOn_th, isGrown_th, canWit_th, lasting_th, isMinor_th, isWonAt_th, canJudge_th, canTest_th, heard_th, bothLive_th, lowestMarriage_th, kids_th, h8, esn, ea, eb, ean, ebn, h22]; done) | (simp_all [o_execute, exeS, exeI, move, zsL_t, zsA_g, zsN_g, zsN_2, zsA_1, zsA_c, zsA_l, zsL_g, zsL_1, zsL_c, zsL_a, zsN_N, courtOn_th, faithAt_th, lawOf_th, ruleOn_th, isGrown_th, canWit_th, lasting_th, isMinor_th, isWonAt_th, canJudge_th, canTest_th, heard_th, bothLive_th, lowestMarriage_th, kids_th, h8, esn, ea, eb, ean, ebn, h22]; done), hR⟩
    · refine zaload_n C dX8_execute_25 rfl ?_
      refine zmga C hR hf_X8_115 rfl dX8_execute_26 ?_
      refine ziload_n C dX8_execute_29 rfl ?_
      refine zmla C hR rfl rfl rfl (show _ < 20 from by omega) dX8_execute_30 ?_
      refine zlconst (v := 0) C dX8_execute_31 rfl ?_
      refine zlcmp C dX8_execute_32 ?_
      refine zif_eq (tgt := 44) C dX8_execute_33 (by decide) (fun h33 => ?_) (fun h33 => ?_)
      · replace h33 := (lg_cmp_eq _ _).mp h33
        refine zconst (v := 2) C dX8_execute_44 (by decide) ?_
        refine zgoto (tgt := 49) C dX8_execute_45 (by decide) ?_
        refine zcallV C (m_holds 2 (by decide) M hR) hy_X8_holds hv_X8_holds hl_X8_157 hR.1 rfl rfl rfl rfl (by decide) (by decide) (by omega) (by omega) rfl (by exact Nat.le_of_ble_eq_true rfl) dX8_execute_49 (fun v49 M hp49 => ?_)
        obtain ⟨S1, ⟨rfl, hs⟩, hR⟩ := hp49
        rw [hs] at hR
        clear hs
        refine zif_ne_f (tgt := 57) C dX8_execute_52 (by decide) (by decide) ?_
        refine zlconst (v := 0) C dX8_execute_55 rfl ?_
        exact zend_l C hE dX8_execute_56 (by omega) (by omega) ⟨_, by first | (simp [o_execute, exeS, exeI, move, zsL_t, zsA_g, zsN_g, zsN_2, zsA_1, zsA_c, zsA_l, zsL_g, zsL_1, zsL_c, zsL_a, zsN_N, courtOn_th, faithAt_th, lawOf_th, ruleOn_th, isGrown_th, canWit_th, lasting_th, isMinor_th, isWonAt_th, canJudge_th, canTest_th, heard_th, bothLive_th, lowestMarriage_th, kids_th, h8, esn, ea, eb, ean, ebn, h22, h33]; done) | (simp_all [o_execute, exeS, exeI, move, zsL_t, zsA_g, zsN_g, zsN_2, zsA_1, zsA_c, zsA_l, zsL_g, zsL_1, zsL_c, zsL_a, zsN_N, courtOn_th, faithAt_th, lawOf_th, ruleOn_th, isGrown_th, canWit_th, lasting_th, isMinor_th, isWonAt_th, canJudge_th, canTest_th, heard_th, bothLive_th, lowestMarriage_th, kids_th, h8, esn, ea, eb, ean, ebn, h22, h33]; done), hR⟩
      · replace h33 := mt (lg_cmp_eq _ _).mpr h33
        refine zaload_n C dX8_execute_36 rfl ?_
        refine ziload_n C dX8_execute_37 rfl ?_
        refine zcallV C (m_bothLive sn an bn (by omega) (by omega) (by omega) ea eb M hR) hy_X8_bothLive hv_X8_bothLive hl_X8_274 hR.1 rfl rfl rfl rfl (by decide) (by decide) (by omega) (by omega) rfl (by exact Nat.le_of_ble_eq_true rfl) dX8_execute_38 (fun v38 M hp38 => ?_)
        obtain ⟨S1, ⟨rfl, hs⟩, hR⟩ := hp38
        rw [hs] at hR
        clear hs
        refine zif_ne (tgt := 48) C dX8_execute_41 (by decide) (fun h41 => ?_) (fun h41 => ?_)
        · replace h41 := b2i_n0.mp h41
          refine zconst (v := 0) C dX8_execute_48 (by decide) ?_
          refine zcallV C (m_holds 0 (by decide) M hR) hy_X8_holds hv_X8_holds hl_X8_157 hR.1 rfl rfl rfl rfl (by decide) (by decide) (by omega) (by omega) rfl (by exact Nat.le_of_ble_eq_true rfl) dX8_execute_49 (fun v49 M hp49 => ?_)
          obtain ⟨S1, ⟨rfl, hs⟩, hR⟩ := hp49
          rw [hs] at hR
          clear hs
          refine zif_ne_t (tgt := 57) C dX8_execute_52 (by decide) (by decide) ?_
          refine zaload_n C dX8_execute_57 rfl ?_
          refine zmga C hR hf_X8_50 rfl dX8_execute_58 ?_
          refine zaload_n C dX8_execute_61 rfl ?_
          refine zmga C hR hf_X8_94 rfl dX8_execute_62 ?_
          refine ziload_n C dX8_execute_65 rfl ?_
          refine zmia C hR rfl rfl rfl (show _ < 20 from by omega) dX8_execute_66 ?_
          refine zcg ?_ rfl (congrArg (fun z => (.int z :: _ : List Value)) eb)
          refine zmla C hR rfl rfl rfl (show _ < 40 from by omega) dX8_execute_67 ?_
          refine zlstore_n (L1 := [_, _, _, _, _, _, _]) C dX8_execute_68 rfl (Nat.le_of_ble_eq_true rfl) ?_
          refine zjnL 90 (fun x => x = exeI S sn bn) (fun J69_3 => ?_) (fun x69 hx69 => ?_)
          · refine zlload_n C dX8_execute_69 rfl ?_
            refine zaload_n C dX8_execute_70 rfl ?_
            refine zmga C hR hf_X8_115 rfl dX8_execute_71 ?_
            refine ziload_n C dX8_execute_74 rfl ?_
            refine zmla C hR rfl rfl rfl (show _ < 20 from by omega) dX8_execute_75 ?_
            refine zlcmp C dX8_execute_76 ?_
            refine zif_ge (tgt := 84) C dX8_execute_77 (by decide) (fun h77 => ?_) (fun h77 => ?_)
            · replace h77 := (lg_cmp_ge _ _).mp h77
              replace h77 : ¬ S.2.2.2 19 bn < S.2.2.2 42 sn := zlt_jf h77
              refine zaload_n C dX8_execute_84 rfl ?_
              refine zmga C hR hf_X8_115 rfl dX8_execute_85 ?_
              refine ziload_n C dX8_execute_88 rfl ?_
              refine zmla C hR rfl rfl rfl (show _ < 20 from by omega) dX8_execute_89 ?_
              exact J69_3 _ (by simp [exeI, zsL_t, h77])
            · replace h77 := mt (lg_cmp_ge _ _).mpr h77
              replace h77 : S.2.2.2 19 bn < S.2.2.2 42 sn := zlt_jt h77
              refine zlload_n C dX8_execute_80 rfl ?_
              refine zgoto (tgt := 90) C dX8_execute_81 (by decide) ?_
              exact J69_3 _ (by simp [exeI, zsL_t, h77])
          · subst hx69
            refine zlstore (L1 := [_, _, _, _, _, _, _]) C dX8_execute_90 rfl (Nat.le_of_ble_eq_true rfl) ?_
            refine zaload_n C dX8_execute_92 rfl ?_
            refine zmga C hR hf_X8_50 rfl dX8_execute_93 ?_
            refine zaload_n C dX8_execute_96 rfl ?_
            refine zmga C hR hf_X8_94 rfl dX8_execute_97 ?_
            refine ziload_n C dX8_execute_100 rfl ?_
            refine zmia C hR rfl rfl rfl (show _ < 20 from by omega) dX8_execute_101 ?_
            refine zcg ?_ rfl (congrArg (fun z => (.int z :: _ : List Value)) eb)
            refine zdup2_11 C dX8_execute_102 rfl rfl ?_
            refine zmla C hR rfl rfl rfl (show _ < 40 from by omega) dX8_execute_103 ?_
            refine zlload C dX8_execute_104 rfl ?_
            refine zlsub C dX8_execute_106 ?_
            refine zmls C hR rfl rfl rfl (show _ < 40 from by omega) dX8_execute_107 (fun M hR => ?_)
            refine zaload_n C dX8_execute_108 rfl ?_
            refine zmga C hR hf_X8_50 rfl dX8_execute_109 ?_
            refine zaload_n C dX8_execute_112 rfl ?_
            refine zmga C hR hf_X8_91 rfl dX8_execute_113 ?_
            refine ziload_n C dX8_execute_116 rfl ?_
            refine zmia C hR rfl rfl rfl (show _ < 20 from by omega) dX8_execute_117 ?_
            refine zcg ?_ rfl (congrArg (fun z => (.int z :: _ : List Value)) ea)
            refine zdup2_11 C dX8_execute_118 rfl rfl ?_
            refine zmla C hR rfl rfl rfl (show _ < 40 from by omega) dX8_execute_119 ?_
            refine zlload C dX8_execute_120 rfl ?_
            refine zladd C dX8_execute_122 ?_
            refine zmls C hR rfl rfl rfl (show _ < 40 from by omega) dX8_execute_123 (fun M hR => ?_)
            refine zaload_n C dX8_execute_124 rfl ?_
            refine zmga C hR hf_X8_115 rfl dX8_execute_125 ?_
            refine ziload_n C dX8_execute_128 rfl ?_
            refine zdup2_11 C dX8_execute_129 rfl rfl ?_
            refine zmla C hR rfl rfl rfl (show _ < 20 from by omega) dX8_execute_130 ?_
            refine zlload C dX8_execute_131 rfl ?_
            refine zlsub C dX8_execute_133 ?_
            refine zmls C hR rfl rfl rfl (show _ < 20 from by omega) dX8_execute_134 (fun M hR => ?_)
            refine zaload_n C dX8_execute_135 rfl ?_
            refine zmga C hR hf_X8_118 rfl dX8_execute_136 ?_
            refine ziload_n C dX8_execute_139 rfl ?_
            refine zdup2_11 C dX8_execute_140 rfl rfl ?_
            refine zmla C hR rfl rfl rfl (show _ < 20 from by omega) dX8_execute_141 ?_
            refine zlload C dX8_execute_142 rfl ?_
            refine zladd C dX8_execute_144 ?_
            refine zmls C hR rfl rfl rfl (show _ < 20 from by omega) dX8_execute_145 (fun M hR => ?_)
            refine zlload C dX8_execute_146 rfl ?_
            exact zend_l C hE dX8_execute_148 (by omega) (by omega) ⟨_, by first | (simp [o_execute, exeS, exeI, move, zsL_t, zsA_g, zsN_g, zsN_2, zsA_1, zsA_c, zsA_l, zsL_g, zsL_1, zsL_c, zsL_a, zsN_N, courtOn_th, faithAt_th, lawOf_th, ruleOn_th, isGrown_th, canWit_th, lasting_th, isMinor_th, isWonAt_th, canJudge_th, canTest_th, heard_th, bothLive_th, lowestMarriage_th, kids_th, h8, esn, ea, eb, ean, ebn, h22, h33, h41]; done) | (simp_all [o_execute, exeS, exeI, move, zsL_t, zsA_g, zsN_g, zsN_2, zsA_1, zsA_c, zsA_l, zsL_g, zsL_1, zsL_c, zsL_a, zsN_N, courtOn_th, faithAt_th, lawOf_th, ruleOn_th, isGrown_th, canWit_th, lasting_th, isMinor_th, isWonAt_th, canJudge_th, canTest_th, heard_th, bothLive_th, lowestMarriage_th, kids_th, h8, esn, ea, eb, ean, ebn, h22, h33, h41]; done), hR⟩
        · replace h41 := b2i_0.mp h41
          refine zconst (v := 2) C dX8_execute_44 (by decide) ?_
          refine zgoto (tgt := 49) C dX8_execute_45 (by decide) ?_
          refine zcallV C (m_holds 2 (by decide) M hR) hy_X8_holds hv_X8_holds hl_X8_157 hR.1 rfl rfl rfl rfl (by decide) (by decide) (by omega) (by omega) rfl (by exact Nat.le_of_ble_eq_true rfl) dX8_execute_49 (fun v49 M hp49 => ?_)
          obtain ⟨S1, ⟨rfl, hs⟩, hR⟩ := hp49
          rw [hs] at hR
          clear hs
          refine zif_ne_f (tgt := 57) C dX8_execute_52 (by decide) (by decide) ?_
          refine zlconst (v := 0) C dX8_execute_55 rfl ?_
          exact zend_l C hE dX8_execute_56 (by omega) (by omega) ⟨_, by first | (simp [o_execute, exeS, exeI, move, zsL_t, zsA_g, zsN_g, zsN_2, zsA_1, zsA_c, zsA_l, zsL_g, zsL_1, zsL_c, zsL_a, zsN_N, courtOn_th, faithAt_th, lawOf_th, ruleOn_th, isGrown_th, canWit_th, lasting_th, isMinor_th, isWonAt_th, canJudge_th, canTest_th, heard_th, bothLive_th, lowestMarriage_th, kids_th, h8, esn, ea, eb, ean, ebn, h22, h33, h41]; done) | (simp_all [o_execute, exeS, exeI, move, zsL_t, zsA_g, zsN_g, zsN_2, zsA_1, zsA_c, zsA_l, zsL_g, zsL_1, zsL_c, zsL_a, zsN_N, courtOn_th, faithAt_th, lawOf_th, ruleOn_th, isGrown_th, canWit_th, lasting_th, isMinor_th, isWonAt_th, canJudge_th, canTest_th, heard_th, bothLive_th, lowestMarriage_th, kids_th, h8, esn, ea, eb, ean, ebn, h22, h33, h41]; done), hR⟩
  · replace h8 := b2i_0.mp h8
    refine zconst (v := 1) C dX8_execute_11 (by decide) ?_
    refine zgoto (tgt := 49) C dX8_execute_12 (by decide) ?_
    refine zcallV C (m_holds 1 (by decide) M hR) hy_X8_holds hv_X8_holds hl_X8_157 hR.1 rfl rfl rfl rfl (by decide) (by decide) (by omega) (by omega) rfl (by exact Nat.le_of_ble_eq_true rfl) dX8_execute_49 (fun v49 M hp49 => ?_)
    obtain ⟨S1, ⟨rfl, hs⟩, hR⟩ := hp49
    rw [hs] at hR
    clear hs
    refine zif_ne_f (tgt := 57) C dX8_execute_52 (by decide) (by decide) ?_
    refine zlconst (v := 0) C dX8_execute_55 rfl ?_
    exact zend_l C hE dX8_execute_56 (by omega) (by omega) ⟨_, by first | (simp [o_execute, exeS, exeI, move, zsL_t, zsA_g, zsN_g, zsN_2, zsA_1, zsA_c, zsA_l, zsL_g, zsL_1, zsL_c, zsL_a, zsN_N, courtOn_th, faithAt_th, lawOf_th, ruleOn_th, isGrown_th, canWit_th, lasting_th, isMinor_th, isWonAt_th, canJudge_th, canTest_th, heard_th, bothLive_th, lowestMarriage_th, kids_th, h8]; done) | (simp_all [o_execute, exeS, exeI, move, zsL_t, zsA_g, zsN_g, zsN_2, zsA_1, zsA_c, zsA_l, zsL_g, zsL_1, zsL_c, zsL_a, zsN_N, courtOn_th, faithAt_th, lawOf_th, ruleOn_th, isGrown_th, canWit_th, lasting_th, isMinor_th, isWonAt_th, canJudge_th, canTest_th, heard_th, bothLive_th, lowestMarriage_th, kids_th, h8]; done), hR⟩
set_option maxRecDepth 100000 in
set_option maxHeartbeats 1000000 in
theorem m_wins {g : zGh} {M0 : zM} {mo : Nat} {ad : Nat → Nat} {S : zS} (s c : Int32) (hi : iB S) (hT : ∀ p, p < S.1 13 → iT S p) : zMc g M0 mo ad yX8_wins cX8_wins 3 (some .boolean) 3 64 mkI [.int s, .int c] S (fun v S1 => (S1, v) = o_wins S s c) := by
  intro M hR
  refine zof [some (.ref mo), some (.int s), some (.int c)] (by decide +kernel) rfl rfl (Nat.le_of_ble_eq_true rfl) ?_
  intro X C hE hnm
  have C : zC g X RX8 cX8_wins 3 3 64 0 0 := C
  obtain ⟨hb1, hb2, hb4, hb9, hb13, hb25, hb33⟩ := id hi
  refine zaload_n C dX8_wins_0 rfl ?_
  refine zaload_n C dX8_wins_1 rfl ?_
  refine ziload_n C dX8_wins_2 rfl ?_
  refine zcallV C (m_isSuit s (by omega) M hR) hy_X8_isSuit hv_X8_isSuit hl_X8_259 hR.1 rfl rfl rfl rfl (by decide) (by decide) (by omega) (by omega) rfl (by exact Nat.le_of_ble_eq_true rfl) dX8_wins_3 (fun v3 M hp3 => ?_)
  obtain ⟨S1, ⟨rfl, hs⟩, hR⟩ := hp3
  rw [hs] at hR
  clear hs
  refine zif_eq (tgt := 21) C dX8_wins_6 (by decide) (fun h6 => ?_) (fun h6 => ?_)
  · replace h6 := b2i_0.mp h6
    refine zconst (v := 1) C dX8_wins_21 (by decide) ?_
    refine zcallV C (m_holds 1 (by decide) M hR) hy_X8_holds hv_X8_holds hl_X8_157 hR.1 rfl rfl rfl rfl (by decide) (by decide) (by omega) (by omega) rfl (by exact Nat.le_of_ble_eq_true rfl) dX8_wins_22 (fun v22 M hp22 => ?_)
    obtain ⟨S1, ⟨rfl, hs⟩, hR⟩ := hp22
    rw [hs] at hR
    clear hs
    refine zif_eq_t (tgt := 41) C dX8_wins_25 (by decide) (by decide) ?_
    refine zconst (v := 0) C dX8_wins_41 (by decide) ?_
    exact zend_z C hE dX8_wins_42 (by omega) (by omega) (by first | exact Or.inl rfl | exact Or.inr rfl | exact b2i_b _) ⟨_, by first | (simp [o_wins, okc, b2i, zsA_g, zsN_g, zsN_2, zsA_1, zsA_c, zsA_l, zsL_g, zsL_1, zsL_c, zsL_a, zsN_N, courtOn_th, faithAt_th, lawOf_th, ruleOn_th, isGrown_th, canWit_th, lasting_th, isMinor_th, isWonAt_th, canJudge_th, canTest_th, heard_th, bothLive_th, lowestMarriage_th, kids_th, h6]; done) | (simp_all [o_wins, okc, b2i, zsA_g, zsN_g, zsN_2, zsA_1, zsA_c, zsA_l, zsL_g, zsL_1, zsL_c, zsL_a, zsN_N, courtOn_th, faithAt_th, lawOf_th, ruleOn_th, isGrown_th, canWit_th, lasting_th, isMinor_th, isWonAt_th, canJudge_th, canTest_th, heard_th, bothLive_th, lowestMarriage_th, kids_th, h6]; done), hR⟩
  · replace h6 := b2i_n0.mp h6
    obtain ⟨sn, hsn, rfl⟩ := zix_of h6 (by omega)
    have esn := nI_clamp (show sn < 2 ^ 31 by omega)
    refine zaload_n C dX8_wins_9 rfl ?_
    refine ziload_n C dX8_wins_10 rfl ?_
    refine zcallV C (m_isCourt c (by omega) M hR) hy_X8_isCourt hv_X8_isCourt hl_X8_174 hR.1 rfl rfl rfl rfl (by decide) (by decide) (by omega) (by omega) rfl (by exact Nat.le_of_ble_eq_true rfl) dX8_wins_11 (fun v11 M hp11 => ?_)
    obtain ⟨S1, ⟨rfl, hs⟩, hR⟩ := hp11
    rw [hs] at hR
    clear hs
    refine zif_eq (tgt := 21) C dX8_wins_14 (by decide) (fun h14 => ?_) (fun h14 => ?_)
    · replace h14 := b2i_0.mp h14
      refine zconst (v := 1) C dX8_wins_21 (by decide) ?_
      refine zcallV C (m_holds 1 (by decide) M hR) hy_X8_holds hv_X8_holds hl_X8_157 hR.1 rfl rfl rfl rfl (by decide) (by decide) (by omega) (by omega) rfl (by exact Nat.le_of_ble_eq_true rfl) dX8_wins_22 (fun v22 M hp22 => ?_)
      obtain ⟨S1, ⟨rfl, hs⟩, hR⟩ := hp22
      rw [hs] at hR
      clear hs
      refine zif_eq_t (tgt := 41) C dX8_wins_25 (by decide) (by decide) ?_
      refine zconst (v := 0) C dX8_wins_41 (by decide) ?_
      exact zend_z C hE dX8_wins_42 (by omega) (by omega) (by first | exact Or.inl rfl | exact Or.inr rfl | exact b2i_b _) ⟨_, by first | (simp [o_wins, okc, b2i, zsA_g, zsN_g, zsN_2, zsA_1, zsA_c, zsA_l, zsL_g, zsL_1, zsL_c, zsL_a, zsN_N, courtOn_th, faithAt_th, lawOf_th, ruleOn_th, isGrown_th, canWit_th, lasting_th, isMinor_th, isWonAt_th, canJudge_th, canTest_th, heard_th, bothLive_th, lowestMarriage_th, kids_th, h6, esn, h14]; done) | (simp_all [o_wins, okc, b2i, zsA_g, zsN_g, zsN_2, zsA_1, zsA_c, zsA_l, zsL_g, zsL_1, zsL_c, zsL_a, zsN_N, courtOn_th, faithAt_th, lawOf_th, ruleOn_th, isGrown_th, canWit_th, lasting_th, isMinor_th, isWonAt_th, canJudge_th, canTest_th, heard_th, bothLive_th, lowestMarriage_th, kids_th, h6, esn, h14]; done), hR⟩
    · replace h14 := b2i_n0.mp h14
      refine zconst (v := 0) C dX8_wins_17 (by decide) ?_
      refine zgoto (tgt := 22) C dX8_wins_18 (by decide) ?_
      refine zcallV C (m_holds 0 (by decide) M hR) hy_X8_holds hv_X8_holds hl_X8_157 hR.1 rfl rfl rfl rfl (by decide) (by decide) (by omega) (by omega) rfl (by exact Nat.le_of_ble_eq_true rfl) dX8_wins_22 (fun v22 M hp22 => ?_)
      obtain ⟨S1, ⟨rfl, hs⟩, hR⟩ := hp22
      rw [hs] at hR
      clear hs
      refine zif_eq_f (tgt := 41) C dX8_wins_25 (by decide) (by decide) ?_
      refine zaload_n C dX8_wins_28 rfl ?_
      refine ziload_n C dX8_wins_29 rfl ?_
      refine ziload_n C dX8_wins_30 rfl ?_
      refine zcallV C (m_isWonAt (S := th S 0) sn c (by omega) hb13 hb4 hT M hR) hy_X8_isWonAt hv_X8_isWonAt hl_X8_271 hR.1 rfl rfl rfl rfl (by decide) (by decide) (by omega) (by omega) rfl (by exact Nat.le_of_ble_eq_true rfl) dX8_wins_31 (fun v31 M hp31 => ?_)
      obtain ⟨S1, ⟨hv, hs⟩, hR⟩ := hp31
      have hv : v31 = b2i (isWonAt S sn c) := hv
      subst hv
      rw [hs] at hR
      clear hs
      refine zif_eq (tgt := 41) C dX8_wins_34 (by decide) (fun h34 => ?_) (fun h34 => ?_)
      · replace h34 := b2i_0.mp h34
        refine zconst (v := 0) C dX8_wins_41 (by decide) ?_
        exact zend_z C hE dX8_wins_42 (by omega) (by omega) (by first | exact Or.inl rfl | exact Or.inr rfl | exact b2i_b _) ⟨_, by first | (simp [o_wins, okc, b2i, zsA_g, zsN_g, zsN_2, zsA_1, zsA_c, zsA_l, zsL_g, zsL_1, zsL_c, zsL_a, zsN_N, courtOn_th, faithAt_th, lawOf_th, ruleOn_th, isGrown_th, canWit_th, lasting_th, isMinor_th, isWonAt_th, canJudge_th, canTest_th, heard_th, bothLive_th, lowestMarriage_th, kids_th, h6, esn, h14, h34]; done) | (simp_all [o_wins, okc, b2i, zsA_g, zsN_g, zsN_2, zsA_1, zsA_c, zsA_l, zsL_g, zsL_1, zsL_c, zsL_a, zsN_N, courtOn_th, faithAt_th, lawOf_th, ruleOn_th, isGrown_th, canWit_th, lasting_th, isMinor_th, isWonAt_th, canJudge_th, canTest_th, heard_th, bothLive_th, lowestMarriage_th, kids_th, h6, esn, h14, h34]; done), hR⟩
      · replace h34 := b2i_n0.mp h34
        refine zconst (v := 1) C dX8_wins_37 (by decide) ?_
        refine zgoto (tgt := 42) C dX8_wins_38 (by decide) ?_
        exact zend_z C hE dX8_wins_42 (by omega) (by omega) (by first | exact Or.inl rfl | exact Or.inr rfl | exact b2i_b _) ⟨_, by first | (simp [o_wins, okc, b2i, zsA_g, zsN_g, zsN_2, zsA_1, zsA_c, zsA_l, zsL_g, zsL_1, zsL_c, zsL_a, zsN_N, courtOn_th, faithAt_th, lawOf_th, ruleOn_th, isGrown_th, canWit_th, lasting_th, isMinor_th, isWonAt_th, canJudge_th, canTest_th, heard_th, bothLive_th, lowestMarriage_th, kids_th, h6, esn, h14, h34]; done) | (simp_all [o_wins, okc, b2i, zsA_g, zsN_g, zsN_2, zsA_1, zsA_c, zsA_l, zsL_g, zsL_1, zsL_c, zsL_a, zsN_N, courtOn_th, faithAt_th, lawOf_th, ruleOn_th, isGrown_th, canWit_th, lasting_th, isMinor_th, isWonAt_th, canJudge_th, canTest_th, heard_th, bothLive_th, lowestMarriage_th, kids_th, h6, esn, h14, h34]; done), hR⟩
set_option maxRecDepth 100000 in
set_option maxHeartbeats 1000000 in
theorem m_ofPerson {g : zGh} {M0 : zM} {mo : Nat} {ad : Nat → Nat} {S : zS} (p w : Int32) (hi : iB S) : zMc g M0 mo ad yX8_ofPerson cX8_ofPerson 3 (some .long) 2 45 mkL [.int p, .int w] S (fun v S1 => (S1, v) = o_ofPerson S p w) := by
  intro M hR
  refine zof [some (.ref mo), some (.int p), some (.int w)] (by decide +kernel) rfl rfl (Nat.le_of_ble_eq_true rfl) ?_
  intro X C hE hnm
  have C : zC g X RX8 cX8_ofPerson 3 2 45 0 0 := C
  obtain ⟨hb1, hb2, hb4, hb9, hb13, hb25, hb33⟩ := id hi
  refine zaload_n C dX8_ofPerson_0 rfl ?_
  refine zaload_n C dX8_ofPerson_1 rfl ?_
  refine ziload_n C dX8_ofPerson_2 rfl ?_
  refine zcallV C (m_isPerson p (by omega) M hR) hy_X8_isPerson hv_X8_isPerson hl_X8_191 hR.1 rfl rfl rfl rfl (by decide) (by decide) (by omega) (by omega) rfl (by exact Nat.le_of_ble_eq_true rfl) dX8_ofPerson_3 (fun v3 M hp3 => ?_)
  obtain ⟨S1, ⟨rfl, hs⟩, hR⟩ := hp3
  rw [hs] at hR
  clear hs
  refine zif_ne (tgt := 13) C dX8_ofPerson_6 (by decide) (fun h6 => ?_) (fun h6 => ?_)
  · replace h6 := b2i_n0.mp h6
    obtain ⟨pn, hpn, rfl⟩ := zix_of h6 (by omega)
    have epn := nI_clamp (show pn < 2 ^ 31 by omega)
    refine ziload_n C dX8_ofPerson_13 rfl ?_
    refine zconst (v := 0) C dX8_ofPerson_14 (by decide) ?_
    refine zconst (v := 5) C dX8_ofPerson_15 (by decide) ?_
    refine zcallS C (m_in w 0 5) hy_X8_in hst_X8_in hl_X8_137 rfl rfl (by decide) (by decide) (by omega) (by omega) rfl (by exact Nat.le_of_ble_eq_true rfl) dX8_ofPerson_16 (fun v16 M hp16 => ?_)
    obtain ⟨rfl, rfl⟩ := hp16
    refine zif_eq (tgt := 26) C dX8_ofPerson_19 (by decide) (fun h19 => ?_) (fun h19 => ?_)
    · replace h19 := b2i_0.mp h19
      refine zconst (v := 2) C dX8_ofPerson_26 (by decide) ?_
      refine zcallV C (m_holds 2 (by decide) M hR) hy_X8_holds hv_X8_holds hl_X8_157 hR.1 rfl rfl rfl rfl (by decide) (by decide) (by omega) (by omega) rfl (by exact Nat.le_of_ble_eq_true rfl) dX8_ofPerson_27 (fun v27 M hp27 => ?_)
      obtain ⟨S1, ⟨rfl, hs⟩, hR⟩ := hp27
      rw [hs] at hR
      clear hs
      refine zif_ne_f (tgt := 35) C dX8_ofPerson_30 (by decide) (by decide) ?_
      refine zlconst (v := 0) C dX8_ofPerson_33 rfl ?_
      exact zend_l C hE dX8_ofPerson_34 (by omega) (by omega) ⟨_, by first | (simp [o_ofPerson, rng, zsA_g, zsN_g, zsN_2, zsA_1, zsA_c, zsA_l, zsL_g, zsL_1, zsL_c, zsL_a, zsN_N, courtOn_th, faithAt_th, lawOf_th, ruleOn_th, isGrown_th, canWit_th, lasting_th, isMinor_th, isWonAt_th, canJudge_th, canTest_th, heard_th, bothLive_th, lowestMarriage_th, kids_th, h6, epn, h19]; done) | (simp_all [o_ofPerson, rng, zsA_g, zsN_g, zsN_2, zsA_1, zsA_c, zsA_l, zsL_g, zsL_1, zsL_c, zsL_a, zsN_N, courtOn_th, faithAt_th, lawOf_th, ruleOn_th, isGrown_th, canWit_th, lasting_th, isMinor_th, isWonAt_th, canJudge_th, canTest_th, heard_th, bothLive_th, lowestMarriage_th, kids_th, h6, epn, h19]; done), hR⟩
    · replace h19 := b2i_n0.mp h19
      refine zconst (v := 0) C dX8_ofPerson_22 (by decide) ?_
      refine zgoto (tgt := 27) C dX8_ofPerson_23 (by decide) ?_
      refine zcallV C (m_holds 0 (by decide) M hR) hy_X8_holds hv_X8_holds hl_X8_157 hR.1 rfl rfl rfl rfl (by decide) (by decide) (by omega) (by omega) rfl (by exact Nat.le_of_ble_eq_true rfl) dX8_ofPerson_27 (fun v27 M hp27 => ?_)
      obtain ⟨S1, ⟨rfl, hs⟩, hR⟩ := hp27
      rw [hs] at hR
      clear hs
      refine zif_ne_t (tgt := 35) C dX8_ofPerson_30 (by decide) (by decide) ?_
      refine ziload_n C dX8_ofPerson_35 rfl ?_
      refine zif_ne (tgt := 46) C dX8_ofPerson_36 (by decide) (fun h36 => ?_) (fun h36 => ?_)
      · refine ziload_n C dX8_ofPerson_46 rfl ?_
        refine zconst (v := 1) C dX8_ofPerson_47 (by decide) ?_
        refine zicmp_ne (tgt := 68) C dX8_ofPerson_48 (by decide) (fun h48 => ?_) (fun h48 => ?_)
        · refine ziload_n C dX8_ofPerson_68 rfl ?_
          refine zconst (v := 2) C dX8_ofPerson_69 (by decide) ?_
          refine zicmp_ne (tgt := 82) C dX8_ofPerson_70 (by decide) (fun h70 => ?_) (fun h70 => ?_)
          · refine ziload_n C dX8_ofPerson_82 rfl ?_
            refine zconst (v := 3) C dX8_ofPerson_83 (by decide) ?_
            refine zicmp_ne (tgt := 97) C dX8_ofPerson_84 (by decide) (fun h84 => ?_) (fun h84 => ?_)
            · refine ziload_n C dX8_ofPerson_97 rfl ?_
              refine zconst (v := 4) C dX8_ofPerson_98 (by decide) ?_
              refine zicmp_ne (tgt := 111) C dX8_ofPerson_99 (by decide) (fun h99 => ?_) (fun h99 => ?_)
              · refine zaload_n C dX8_ofPerson_111 rfl ?_
                refine ziload_n C dX8_ofPerson_112 rfl ?_
                refine zcallV C (m_children (S := th S 0) (nI pn) hb13 M hR) hy_X8_children hv_X8_children hl_X8_286 hR.1 rfl rfl rfl rfl (by decide) (by decide) (by omega) (by omega) rfl (by exact Nat.le_of_ble_eq_true rfl) dX8_ofPerson_113 (fun v113 M hp113 => ?_)
                obtain ⟨S1, ⟨rfl, hs⟩, hR⟩ := hp113
                rw [hs] at hR
                clear hs
                refine zi2l C dX8_ofPerson_116 ?_
                exact zend_l C hE dX8_ofPerson_117 (by omega) (by omega) ⟨_, by first | (simp [o_ofPerson, rng, zsA_g, zsN_g, zsN_2, zsA_1, zsA_c, zsA_l, zsL_g, zsL_1, zsL_c, zsL_a, zsN_N, courtOn_th, faithAt_th, lawOf_th, ruleOn_th, isGrown_th, canWit_th, lasting_th, isMinor_th, isWonAt_th, canJudge_th, canTest_th, heard_th, bothLive_th, lowestMarriage_th, kids_th, h6, epn, h19, h36, h48, h70, h84, h99]; done) | (simp_all [o_ofPerson, rng, zsA_g, zsN_g, zsN_2, zsA_1, zsA_c, zsA_l, zsL_g, zsL_1, zsL_c, zsL_a, zsN_N, courtOn_th, faithAt_th, lawOf_th, ruleOn_th, isGrown_th, canWit_th, lasting_th, isMinor_th, isWonAt_th, canJudge_th, canTest_th, heard_th, bothLive_th, lowestMarriage_th, kids_th, h6, epn, h19, h36, h48, h70, h84, h99]; done), hR⟩
              · refine zaload_n C dX8_ofPerson_102 rfl ?_
                refine ziload_n C dX8_ofPerson_103 rfl ?_
                refine zcallV C (m_lowestMarriage (S := th S 0) (nI pn) hb25 M hR) hy_X8_lowestMarriage hv_X8_lowestMarriage hl_X8_283 hR.1 rfl rfl rfl rfl (by decide) (by decide) (by omega) (by omega) rfl (by exact Nat.le_of_ble_eq_true rfl) dX8_ofPerson_104 (fun v104 M hp104 => ?_)
                obtain ⟨S1, ⟨rfl, hs⟩, hR⟩ := hp104
                rw [hs] at hR
                clear hs
                refine zi2l C dX8_ofPerson_107 ?_
                refine zgoto (tgt := 117) C dX8_ofPerson_108 (by decide) ?_
                exact zend_l C hE dX8_ofPerson_117 (by omega) (by omega) ⟨_, by first | (simp [o_ofPerson, rng, zsA_g, zsN_g, zsN_2, zsA_1, zsA_c, zsA_l, zsL_g, zsL_1, zsL_c, zsL_a, zsN_N, courtOn_th, faithAt_th, lawOf_th, ruleOn_th, isGrown_th, canWit_th, lasting_th, isMinor_th, isWonAt_th, canJudge_th, canTest_th, heard_th, bothLive_th, lowestMarriage_th, kids_th, h6, epn, h19, h36, h48, h70, h84, h99]; done) | (simp_all [o_ofPerson, rng, zsA_g, zsN_g, zsN_2, zsA_1, zsA_c, zsA_l, zsL_g, zsL_1, zsL_c, zsL_a, zsN_N, courtOn_th, faithAt_th, lawOf_th, ruleOn_th, isGrown_th, canWit_th, lasting_th, isMinor_th, isWonAt_th, canJudge_th, canTest_th, heard_th, bothLive_th, lowestMarriage_th, kids_th, h6, epn, h19, h36, h48, h70, h84, h99]; done), hR⟩
            · refine zaload_n C dX8_ofPerson_87 rfl ?_
              refine zmga C hR hf_X8_64 rfl dX8_ofPerson_88 ?_
              refine ziload_n C dX8_ofPerson_91 rfl ?_
              refine zmia C hR rfl rfl rfl (show _ < 40 from by omega) dX8_ofPerson_92 ?_
              refine zi2l C dX8_ofPerson_93 ?_
              refine zgoto (tgt := 117) C dX8_ofPerson_94 (by decide) ?_
              exact zend_l C hE dX8_ofPerson_117 (by omega) (by omega) ⟨_, by first | (simp [o_ofPerson, rng, zsA_g, zsN_g, zsN_2, zsA_1, zsA_c, zsA_l, zsL_g, zsL_1, zsL_c, zsL_a, zsN_N, courtOn_th, faithAt_th, lawOf_th, ruleOn_th, isGrown_th, canWit_th, lasting_th, isMinor_th, isWonAt_th, canJudge_th, canTest_th, heard_th, bothLive_th, lowestMarriage_th, kids_th, h6, epn, h19, h36, h48, h70, h84]; done) | (simp_all [o_ofPerson, rng, zsA_g, zsN_g, zsN_2, zsA_1, zsA_c, zsA_l, zsL_g, zsL_1, zsL_c, zsL_a, zsN_N, courtOn_th, faithAt_th, lawOf_th, ruleOn_th, isGrown_th, canWit_th, lasting_th, isMinor_th, isWonAt_th, canJudge_th, canTest_th, heard_th, bothLive_th, lowestMarriage_th, kids_th, h6, epn, h19, h36, h48, h70, h84]; done), hR⟩
          · refine zaload_n C dX8_ofPerson_73 rfl ?_
            refine ziload_n C dX8_ofPerson_74 rfl ?_
            refine zcallV C (m_lasting (S := th S 0) (nI pn) hb25 M hR) hy_X8_lasting hv_X8_lasting hl_X8_218 hR.1 rfl rfl rfl rfl (by decide) (by decide) (by omega) (by omega) rfl (by exact Nat.le_of_ble_eq_true rfl) dX8_ofPerson_75 (fun v75 M hp75 => ?_)
            obtain ⟨S1, ⟨rfl, hs⟩, hR⟩ := hp75
            rw [hs] at hR
            clear hs
            refine zi2l C dX8_ofPerson_78 ?_
            refine zgoto (tgt := 117) C dX8_ofPerson_79 (by decide) ?_
            exact zend_l C hE dX8_ofPerson_117 (by omega) (by omega) ⟨_, by first | (simp [o_ofPerson, rng, zsA_g, zsN_g, zsN_2, zsA_1, zsA_c, zsA_l, zsL_g, zsL_1, zsL_c, zsL_a, zsN_N, courtOn_th, faithAt_th, lawOf_th, ruleOn_th, isGrown_th, canWit_th, lasting_th, isMinor_th, isWonAt_th, canJudge_th, canTest_th, heard_th, bothLive_th, lowestMarriage_th, kids_th, h6, epn, h19, h36, h48, h70]; done) | (simp_all [o_ofPerson, rng, zsA_g, zsN_g, zsN_2, zsA_1, zsA_c, zsA_l, zsL_g, zsL_1, zsL_c, zsL_a, zsN_N, courtOn_th, faithAt_th, lawOf_th, ruleOn_th, isGrown_th, canWit_th, lasting_th, isMinor_th, isWonAt_th, canJudge_th, canTest_th, heard_th, bothLive_th, lowestMarriage_th, kids_th, h6, epn, h19, h36, h48, h70]; done), hR⟩
        · refine zaload_n C dX8_ofPerson_51 rfl ?_
          refine zmga C hR hf_X8_47 rfl dX8_ofPerson_52 ?_
          refine ziload_n C dX8_ofPerson_55 rfl ?_
          refine zmza C hR rfl rfl rfl (show _ < 40 from by omega) dX8_ofPerson_56 ?_
          refine zif_eq (tgt := 64) C dX8_ofPerson_57 (by decide) (fun h57 => ?_) (fun h57 => ?_)
          · replace h57 : S.2.2.1 18 pn = 0 := h57
            refine zlconst (v := 1) C dX8_ofPerson_64 rfl ?_
            refine zgoto (tgt := 117) C dX8_ofPerson_65 (by decide) ?_
            exact zend_l C hE dX8_ofPerson_117 (by omega) (by omega) ⟨_, by first | (simp [o_ofPerson, rng, zsA_g, zsN_g, zsN_2, zsA_1, zsA_c, zsA_l, zsL_g, zsL_1, zsL_c, zsL_a, zsN_N, courtOn_th, faithAt_th, lawOf_th, ruleOn_th, isGrown_th, canWit_th, lasting_th, isMinor_th, isWonAt_th, canJudge_th, canTest_th, heard_th, bothLive_th, lowestMarriage_th, kids_th, h6, epn, h19, h36, h48, h57]; done) | (simp_all [o_ofPerson, rng, zsA_g, zsN_g, zsN_2, zsA_1, zsA_c, zsA_l, zsL_g, zsL_1, zsL_c, zsL_a, zsN_N, courtOn_th, faithAt_th, lawOf_th, ruleOn_th, isGrown_th, canWit_th, lasting_th, isMinor_th, isWonAt_th, canJudge_th, canTest_th, heard_th, bothLive_th, lowestMarriage_th, kids_th, h6, epn, h19, h36, h48, h57]; done), hR⟩
          · replace h57 : ¬ S.2.2.1 18 pn = 0 := h57
            refine zlconst (v := 0) C dX8_ofPerson_60 rfl ?_
            refine zgoto (tgt := 117) C dX8_ofPerson_61 (by decide) ?_
            exact zend_l C hE dX8_ofPerson_117 (by omega) (by omega) ⟨_, by first | (simp [o_ofPerson, rng, zsA_g, zsN_g, zsN_2, zsA_1, zsA_c, zsA_l, zsL_g, zsL_1, zsL_c, zsL_a, zsN_N, courtOn_th, faithAt_th, lawOf_th, ruleOn_th, isGrown_th, canWit_th, lasting_th, isMinor_th, isWonAt_th, canJudge_th, canTest_th, heard_th, bothLive_th, lowestMarriage_th, kids_th, h6, epn, h19, h36, h48, h57]; done) | (simp_all [o_ofPerson, rng, zsA_g, zsN_g, zsN_2, zsA_1, zsA_c, zsA_l, zsL_g, zsL_1, zsL_c, zsL_a, zsN_N, courtOn_th, faithAt_th, lawOf_th, ruleOn_th, isGrown_th, canWit_th, lasting_th, isMinor_th, isWonAt_th, canJudge_th, canTest_th, heard_th, bothLive_th, lowestMarriage_th, kids_th, h6, epn, h19, h36, h48, h57]; done), hR⟩
      · refine zaload_n C dX8_ofPerson_39 rfl ?_
        refine zmga C hR hf_X8_50 rfl dX8_ofPerson_40 ?_
        refine ziload_n C dX8_ofPerson_43 rfl ?_
        refine zmla C hR rfl rfl rfl (show _ < 40 from by omega) dX8_ofPerson_44 ?_
        exact zend_l C hE dX8_ofPerson_45 (by omega) (by omega) ⟨_, by first | (simp [o_ofPerson, rng, zsA_g, zsN_g, zsN_2, zsA_1, zsA_c, zsA_l, zsL_g, zsL_1, zsL_c, zsL_a, zsN_N, courtOn_th, faithAt_th, lawOf_th, ruleOn_th, isGrown_th, canWit_th, lasting_th, isMinor_th, isWonAt_th, canJudge_th, canTest_th, heard_th, bothLive_th, lowestMarriage_th, kids_th, h6, epn, h19, h36]; done) | (simp_all [o_ofPerson, rng, zsA_g, zsN_g, zsN_2, zsA_1, zsA_c, zsA_l, zsL_g, zsL_1, zsL_c, zsL_a, zsN_N, courtOn_th, faithAt_th, lawOf_th, ruleOn_th, isGrown_th, canWit_th, lasting_th, isMinor_th, isWonAt_th, canJudge_th, canTest_th, heard_th, bothLive_th, lowestMarriage_th, kids_th, h6, epn, h19, h36]; done), hR⟩
  · replace h6 := b2i_0.mp h6
    refine zconst (v := 1) C dX8_ofPerson_9 (by decide) ?_
    refine zgoto (tgt := 27) C dX8_ofPerson_10 (by decide) ?_
    refine zcallV C (m_holds 1 (by decide) M hR) hy_X8_holds hv_X8_holds hl_X8_157 hR.1 rfl rfl rfl rfl (by decide) (by decide) (by omega) (by omega) rfl (by exact Nat.le_of_ble_eq_true rfl) dX8_ofPerson_27 (fun v27 M hp27 => ?_)
    obtain ⟨S1, ⟨rfl, hs⟩, hR⟩ := hp27
    rw [hs] at hR
    clear hs
    refine zif_ne_f (tgt := 35) C dX8_ofPerson_30 (by decide) (by decide) ?_
    refine zlconst (v := 0) C dX8_ofPerson_33 rfl ?_
    exact zend_l C hE dX8_ofPerson_34 (by omega) (by omega) ⟨_, by first | (simp [o_ofPerson, rng, zsA_g, zsN_g, zsN_2, zsA_1, zsA_c, zsA_l, zsL_g, zsL_1, zsL_c, zsL_a, zsN_N, courtOn_th, faithAt_th, lawOf_th, ruleOn_th, isGrown_th, canWit_th, lasting_th, isMinor_th, isWonAt_th, canJudge_th, canTest_th, heard_th, bothLive_th, lowestMarriage_th, kids_th, h6]; done) | (simp_all [o_ofPerson, rng, zsA_g, zsN_g, zsN_2, zsA_1, zsA_c, zsA_l, zsL_g, zsL_1, zsL_c, zsL_a, zsN_N, courtOn_th, faithAt_th, lawOf_th, ruleOn_th, isGrown_th, canWit_th, lasting_th, isMinor_th, isWonAt_th, canJudge_th, canTest_th, heard_th, bothLive_th, lowestMarriage_th, kids_th, h6]; done), hR⟩
set_option maxRecDepth 100000 in
set_option maxHeartbeats 1000000 in
theorem m_ofMarriage {g : zGh} {M0 : zM} {mo : Nat} {ad : Nat → Nat} {S : zS} (m w : Int32) (hi : iB S) : zMc g M0 mo ad yX8_ofMarriage cX8_ofMarriage 3 (some .int) 2 43 mkI [.int m, .int w] S (fun v S1 => (S1, v) = o_ofMarriage S m w) := by
  intro M hR
  refine zof [some (.ref mo), some (.int m), some (.int w)] (by decide +kernel) rfl rfl (Nat.le_of_ble_eq_true rfl) ?_
  intro X C hE hnm
  have C : zC g X RX8 cX8_ofMarriage 3 2 43 0 0 := C
  obtain ⟨hb1, hb2, hb4, hb9, hb13, hb25, hb33⟩ := id hi
  refine zaload_n C dX8_ofMarriage_0 rfl ?_
  refine zaload_n C dX8_ofMarriage_1 rfl ?_
  refine ziload_n C dX8_ofMarriage_2 rfl ?_
  refine zcallV C (m_isMarriage m (by omega) M hR) hy_X8_isMarriage hv_X8_isMarriage hl_X8_226 hR.1 rfl rfl rfl rfl (by decide) (by decide) (by omega) (by omega) rfl (by exact Nat.le_of_ble_eq_true rfl) dX8_ofMarriage_3 (fun v3 M hp3 => ?_)
  obtain ⟨S1, ⟨rfl, hs⟩, hR⟩ := hp3
  rw [hs] at hR
  clear hs
  refine zif_ne (tgt := 13) C dX8_ofMarriage_6 (by decide) (fun h6 => ?_) (fun h6 => ?_)
  · replace h6 := b2i_n0.mp h6
    obtain ⟨mn, hmn, rfl⟩ := zix_of h6 (by omega)
    have emn := nI_clamp (show mn < 2 ^ 31 by omega)
    refine ziload_n C dX8_ofMarriage_13 rfl ?_
    refine zconst (v := 0) C dX8_ofMarriage_14 (by decide) ?_
    refine zconst (v := 4) C dX8_ofMarriage_15 (by decide) ?_
    refine zcallS C (m_in w 0 4) hy_X8_in hst_X8_in hl_X8_137 rfl rfl (by decide) (by decide) (by omega) (by omega) rfl (by exact Nat.le_of_ble_eq_true rfl) dX8_ofMarriage_16 (fun v16 M hp16 => ?_)
    obtain ⟨rfl, rfl⟩ := hp16
    refine zif_eq (tgt := 26) C dX8_ofMarriage_19 (by decide) (fun h19 => ?_) (fun h19 => ?_)
    · replace h19 := b2i_0.mp h19
      refine zconst (v := 2) C dX8_ofMarriage_26 (by decide) ?_
      refine zcallV C (m_holds 2 (by decide) M hR) hy_X8_holds hv_X8_holds hl_X8_157 hR.1 rfl rfl rfl rfl (by decide) (by decide) (by omega) (by omega) rfl (by exact Nat.le_of_ble_eq_true rfl) dX8_ofMarriage_27 (fun v27 M hp27 => ?_)
      obtain ⟨S1, ⟨rfl, hs⟩, hR⟩ := hp27
      rw [hs] at hR
      clear hs
      refine zif_ne_f (tgt := 35) C dX8_ofMarriage_30 (by decide) (by decide) ?_
      refine zconst (v := 0) C dX8_ofMarriage_33 (by decide) ?_
      exact zend_i C hE dX8_ofMarriage_34 (by omega) (by omega) ⟨_, by first | (simp [o_ofMarriage, rng, zsA_g, zsN_g, zsN_2, zsA_1, zsA_c, zsA_l, zsL_g, zsL_1, zsL_c, zsL_a, zsN_N, courtOn_th, faithAt_th, lawOf_th, ruleOn_th, isGrown_th, canWit_th, lasting_th, isMinor_th, isWonAt_th, canJudge_th, canTest_th, heard_th, bothLive_th, lowestMarriage_th, kids_th, h6, emn, h19]; done) | (simp_all [o_ofMarriage, rng, zsA_g, zsN_g, zsN_2, zsA_1, zsA_c, zsA_l, zsL_g, zsL_1, zsL_c, zsL_a, zsN_N, courtOn_th, faithAt_th, lawOf_th, ruleOn_th, isGrown_th, canWit_th, lasting_th, isMinor_th, isWonAt_th, canJudge_th, canTest_th, heard_th, bothLive_th, lowestMarriage_th, kids_th, h6, emn, h19]; done), hR⟩
    · replace h19 := b2i_n0.mp h19
      refine zconst (v := 0) C dX8_ofMarriage_22 (by decide) ?_
      refine zgoto (tgt := 27) C dX8_ofMarriage_23 (by decide) ?_
      refine zcallV C (m_holds 0 (by decide) M hR) hy_X8_holds hv_X8_holds hl_X8_157 hR.1 rfl rfl rfl rfl (by decide) (by decide) (by omega) (by omega) rfl (by exact Nat.le_of_ble_eq_true rfl) dX8_ofMarriage_27 (fun v27 M hp27 => ?_)
      obtain ⟨S1, ⟨rfl, hs⟩, hR⟩ := hp27
      rw [hs] at hR
      clear hs
      refine zif_ne_t (tgt := 35) C dX8_ofMarriage_30 (by decide) (by decide) ?_
      refine ziload_n C dX8_ofMarriage_35 rfl ?_
      refine zconst (v := 2) C dX8_ofMarriage_36 (by decide) ?_
      refine zicmp_ge (tgt := 60) C dX8_ofMarriage_37 (by decide) (fun h37 => ?_) (fun h37 => ?_)
      · refine ziload_n C dX8_ofMarriage_60 rfl ?_
        refine zconst (v := 2) C dX8_ofMarriage_61 (by decide) ?_
        refine zicmp_ne (tgt := 74) C dX8_ofMarriage_62 (by decide) (fun h62 => ?_) (fun h62 => ?_)
        · refine ziload_n C dX8_ofMarriage_74 rfl ?_
          refine zconst (v := 3) C dX8_ofMarriage_75 (by decide) ?_
          refine zicmp_ne (tgt := 88) C dX8_ofMarriage_76 (by decide) (fun h76 => ?_) (fun h76 => ?_)
          · refine zaload_n C dX8_ofMarriage_88 rfl ?_
            refine zmga C hR hf_X8_82 rfl dX8_ofMarriage_89 ?_
            refine ziload_n C dX8_ofMarriage_92 rfl ?_
            refine zmia C hR rfl rfl rfl (show _ < 30 from by omega) dX8_ofMarriage_93 ?_
            exact zend_i C hE dX8_ofMarriage_94 (by omega) (by omega) ⟨_, by first | (simp [o_ofMarriage, rng, zsA_g, zsN_g, zsN_2, zsA_1, zsA_c, zsA_l, zsL_g, zsL_1, zsL_c, zsL_a, zsN_N, courtOn_th, faithAt_th, lawOf_th, ruleOn_th, isGrown_th, canWit_th, lasting_th, isMinor_th, isWonAt_th, canJudge_th, canTest_th, heard_th, bothLive_th, lowestMarriage_th, kids_th, h6, emn, h19, h37, h62, h76]; done) | (simp_all [o_ofMarriage, rng, zsA_g, zsN_g, zsN_2, zsA_1, zsA_c, zsA_l, zsL_g, zsL_1, zsL_c, zsL_a, zsN_N, courtOn_th, faithAt_th, lawOf_th, ruleOn_th, isGrown_th, canWit_th, lasting_th, isMinor_th, isWonAt_th, canJudge_th, canTest_th, heard_th, bothLive_th, lowestMarriage_th, kids_th, h6, emn, h19, h37, h62, h76]; done), hR⟩
          · refine zaload_n C dX8_ofMarriage_79 rfl ?_
            refine zmga C hR hf_X8_79 rfl dX8_ofMarriage_80 ?_
            refine ziload_n C dX8_ofMarriage_83 rfl ?_
            refine zmia C hR rfl rfl rfl (show _ < 30 from by omega) dX8_ofMarriage_84 ?_
            refine zgoto (tgt := 94) C dX8_ofMarriage_85 (by decide) ?_
            exact zend_i C hE dX8_ofMarriage_94 (by omega) (by omega) ⟨_, by first | (simp [o_ofMarriage, rng, zsA_g, zsN_g, zsN_2, zsA_1, zsA_c, zsA_l, zsL_g, zsL_1, zsL_c, zsL_a, zsN_N, courtOn_th, faithAt_th, lawOf_th, ruleOn_th, isGrown_th, canWit_th, lasting_th, isMinor_th, isWonAt_th, canJudge_th, canTest_th, heard_th, bothLive_th, lowestMarriage_th, kids_th, h6, emn, h19, h37, h62, h76]; done) | (simp_all [o_ofMarriage, rng, zsA_g, zsN_g, zsN_2, zsA_1, zsA_c, zsA_l, zsL_g, zsL_1, zsL_c, zsL_a, zsN_N, courtOn_th, faithAt_th, lawOf_th, ruleOn_th, isGrown_th, canWit_th, lasting_th, isMinor_th, isWonAt_th, canJudge_th, canTest_th, heard_th, bothLive_th, lowestMarriage_th, kids_th, h6, emn, h19, h37, h62, h76]; done), hR⟩
        · refine zaload_n C dX8_ofMarriage_65 rfl ?_
          refine zmga C hR hf_X8_73 rfl dX8_ofMarriage_66 ?_
          refine ziload_n C dX8_ofMarriage_69 rfl ?_
          refine zmia C hR rfl rfl rfl (show _ < 30 from by omega) dX8_ofMarriage_70 ?_
          refine zgoto (tgt := 94) C dX8_ofMarriage_71 (by decide) ?_
          exact zend_i C hE dX8_ofMarriage_94 (by omega) (by omega) ⟨_, by first | (simp [o_ofMarriage, rng, zsA_g, zsN_g, zsN_2, zsA_1, zsA_c, zsA_l, zsL_g, zsL_1, zsL_c, zsL_a, zsN_N, courtOn_th, faithAt_th, lawOf_th, ruleOn_th, isGrown_th, canWit_th, lasting_th, isMinor_th, isWonAt_th, canJudge_th, canTest_th, heard_th, bothLive_th, lowestMarriage_th, kids_th, h6, emn, h19, h37, h62]; done) | (simp_all [o_ofMarriage, rng, zsA_g, zsN_g, zsN_2, zsA_1, zsA_c, zsA_l, zsL_g, zsL_1, zsL_c, zsL_a, zsN_N, courtOn_th, faithAt_th, lawOf_th, ruleOn_th, isGrown_th, canWit_th, lasting_th, isMinor_th, isWonAt_th, canJudge_th, canTest_th, heard_th, bothLive_th, lowestMarriage_th, kids_th, h6, emn, h19, h37, h62]; done), hR⟩
      · refine ziload_n C dX8_ofMarriage_40 rfl ?_
        refine zif_ne (tgt := 53) C dX8_ofMarriage_41 (by decide) (fun h41 => ?_) (fun h41 => ?_)
        · refine zaload_n C dX8_ofMarriage_53 rfl ?_
          refine zmga C hR hf_X8_70 rfl dX8_ofMarriage_54 ?_
          refine ziload_n C dX8_ofMarriage_57 rfl ?_
          refine zmia C hR rfl rfl rfl (show _ < 30 from by omega) dX8_ofMarriage_58 ?_
          exact zend_i C hE dX8_ofMarriage_59 (by omega) (by omega) ⟨_, by first | (simp [o_ofMarriage, rng, zsA_g, zsN_g, zsN_2, zsA_1, zsA_c, zsA_l, zsL_g, zsL_1, zsL_c, zsL_a, zsN_N, courtOn_th, faithAt_th, lawOf_th, ruleOn_th, isGrown_th, canWit_th, lasting_th, isMinor_th, isWonAt_th, canJudge_th, canTest_th, heard_th, bothLive_th, lowestMarriage_th, kids_th, h6, emn, h19, h37, h41]; done) | (simp_all [o_ofMarriage, rng, zsA_g, zsN_g, zsN_2, zsA_1, zsA_c, zsA_l, zsL_g, zsL_1, zsL_c, zsL_a, zsN_N, courtOn_th, faithAt_th, lawOf_th, ruleOn_th, isGrown_th, canWit_th, lasting_th, isMinor_th, isWonAt_th, canJudge_th, canTest_th, heard_th, bothLive_th, lowestMarriage_th, kids_th, h6, emn, h19, h37, h41]; done), hR⟩
        · refine zaload_n C dX8_ofMarriage_44 rfl ?_
          refine zmga C hR hf_X8_76 rfl dX8_ofMarriage_45 ?_
          refine ziload_n C dX8_ofMarriage_48 rfl ?_
          refine zmia C hR rfl rfl rfl (show _ < 30 from by omega) dX8_ofMarriage_49 ?_
          refine zgoto (tgt := 59) C dX8_ofMarriage_50 (by decide) ?_
          exact zend_i C hE dX8_ofMarriage_59 (by omega) (by omega) ⟨_, by first | (simp [o_ofMarriage, rng, zsA_g, zsN_g, zsN_2, zsA_1, zsA_c, zsA_l, zsL_g, zsL_1, zsL_c, zsL_a, zsN_N, courtOn_th, faithAt_th, lawOf_th, ruleOn_th, isGrown_th, canWit_th, lasting_th, isMinor_th, isWonAt_th, canJudge_th, canTest_th, heard_th, bothLive_th, lowestMarriage_th, kids_th, h6, emn, h19, h37, h41]; done) | (simp_all [o_ofMarriage, rng, zsA_g, zsN_g, zsN_2, zsA_1, zsA_c, zsA_l, zsL_g, zsL_1, zsL_c, zsL_a, zsN_N, courtOn_th, faithAt_th, lawOf_th, ruleOn_th, isGrown_th, canWit_th, lasting_th, isMinor_th, isWonAt_th, canJudge_th, canTest_th, heard_th, bothLive_th, lowestMarriage_th, kids_th, h6, emn, h19, h37, h41]; done), hR⟩
  · replace h6 := b2i_0.mp h6
    refine zconst (v := 1) C dX8_ofMarriage_9 (by decide) ?_
    refine zgoto (tgt := 27) C dX8_ofMarriage_10 (by decide) ?_
    refine zcallV C (m_holds 1 (by decide) M hR) hy_X8_holds hv_X8_holds hl_X8_157 hR.1 rfl rfl rfl rfl (by decide) (by decide) (by omega) (by omega) rfl (by exact Nat.le_of_ble_eq_true rfl) dX8_ofMarriage_27 (fun v27 M hp27 => ?_)
    obtain ⟨S1, ⟨rfl, hs⟩, hR⟩ := hp27
    rw [hs] at hR
    clear hs
    refine zif_ne_f (tgt := 35) C dX8_ofMarriage_30 (by decide) (by decide) ?_
    refine zconst (v := 0) C dX8_ofMarriage_33 (by decide) ?_
    exact zend_i C hE dX8_ofMarriage_34 (by omega) (by omega) ⟨_, by first | (simp [o_ofMarriage, rng, zsA_g, zsN_g, zsN_2, zsA_1, zsA_c, zsA_l, zsL_g, zsL_1, zsL_c, zsL_a, zsN_N, courtOn_th, faithAt_th, lawOf_th, ruleOn_th, isGrown_th, canWit_th, lasting_th, isMinor_th, isWonAt_th, canJudge_th, canTest_th, heard_th, bothLive_th, lowestMarriage_th, kids_th, h6]; done) | (simp_all [o_ofMarriage, rng, zsA_g, zsN_g, zsN_2, zsA_1, zsA_c, zsA_l, zsL_g, zsL_1, zsL_c, zsL_a, zsN_N, courtOn_th, faithAt_th, lawOf_th, ruleOn_th, isGrown_th, canWit_th, lasting_th, isMinor_th, isWonAt_th, canJudge_th, canTest_th, heard_th, bothLive_th, lowestMarriage_th, kids_th, h6]; done), hR⟩
set_option maxRecDepth 100000 in
set_option maxHeartbeats 1000000 in
theorem m_ofSuit {g : zGh} {M0 : zM} {mo : Nat} {ad : Nat → Nat} {S : zS} (s w : Int32) (hi : iB S) : zMc g M0 mo ad yX8_ofSuit cX8_ofSuit 3 (some .int) 2 43 mkI [.int s, .int w] S (fun v S1 => (S1, v) = o_ofSuit S s w) := by
  intro M hR
  refine zof [some (.ref mo), some (.int s), some (.int w)] (by decide +kernel) rfl rfl (Nat.le_of_ble_eq_true rfl) ?_
  intro X C hE hnm
  have C : zC g X RX8 cX8_ofSuit 3 2 43 0 0 := C
  obtain ⟨hb1, hb2, hb4, hb9, hb13, hb25, hb33⟩ := id hi
  refine zaload_n C dX8_ofSuit_0 rfl ?_
  refine zaload_n C dX8_ofSuit_1 rfl ?_
  refine ziload_n C dX8_ofSuit_2 rfl ?_
  refine zcallV C (m_isSuit s (by omega) M hR) hy_X8_isSuit hv_X8_isSuit hl_X8_259 hR.1 rfl rfl rfl rfl (by decide) (by decide) (by omega) (by omega) rfl (by exact Nat.le_of_ble_eq_true rfl) dX8_ofSuit_3 (fun v3 M hp3 => ?_)
  obtain ⟨S1, ⟨rfl, hs⟩, hR⟩ := hp3
  rw [hs] at hR
  clear hs
  refine zif_ne (tgt := 13) C dX8_ofSuit_6 (by decide) (fun h6 => ?_) (fun h6 => ?_)
  · replace h6 := b2i_n0.mp h6
    obtain ⟨sn, hsn, rfl⟩ := zix_of h6 (by omega)
    have esn := nI_clamp (show sn < 2 ^ 31 by omega)
    refine ziload_n C dX8_ofSuit_13 rfl ?_
    refine zconst (v := 0) C dX8_ofSuit_14 (by decide) ?_
    refine zconst (v := 4) C dX8_ofSuit_15 (by decide) ?_
    refine zcallS C (m_in w 0 4) hy_X8_in hst_X8_in hl_X8_137 rfl rfl (by decide) (by decide) (by omega) (by omega) rfl (by exact Nat.le_of_ble_eq_true rfl) dX8_ofSuit_16 (fun v16 M hp16 => ?_)
    obtain ⟨rfl, rfl⟩ := hp16
    refine zif_eq (tgt := 26) C dX8_ofSuit_19 (by decide) (fun h19 => ?_) (fun h19 => ?_)
    · replace h19 := b2i_0.mp h19
      refine zconst (v := 2) C dX8_ofSuit_26 (by decide) ?_
      refine zcallV C (m_holds 2 (by decide) M hR) hy_X8_holds hv_X8_holds hl_X8_157 hR.1 rfl rfl rfl rfl (by decide) (by decide) (by omega) (by omega) rfl (by exact Nat.le_of_ble_eq_true rfl) dX8_ofSuit_27 (fun v27 M hp27 => ?_)
      obtain ⟨S1, ⟨rfl, hs⟩, hR⟩ := hp27
      rw [hs] at hR
      clear hs
      refine zif_ne_f (tgt := 35) C dX8_ofSuit_30 (by decide) (by decide) ?_
      refine zconst (v := 0) C dX8_ofSuit_33 (by decide) ?_
      exact zend_i C hE dX8_ofSuit_34 (by omega) (by omega) ⟨_, by first | (simp [o_ofSuit, rng, zsA_g, zsN_g, zsN_2, zsA_1, zsA_c, zsA_l, zsL_g, zsL_1, zsL_c, zsL_a, zsN_N, courtOn_th, faithAt_th, lawOf_th, ruleOn_th, isGrown_th, canWit_th, lasting_th, isMinor_th, isWonAt_th, canJudge_th, canTest_th, heard_th, bothLive_th, lowestMarriage_th, kids_th, h6, esn, h19]; done) | (simp_all [o_ofSuit, rng, zsA_g, zsN_g, zsN_2, zsA_1, zsA_c, zsA_l, zsL_g, zsL_1, zsL_c, zsL_a, zsN_N, courtOn_th, faithAt_th, lawOf_th, ruleOn_th, isGrown_th, canWit_th, lasting_th, isMinor_th, isWonAt_th, canJudge_th, canTest_th, heard_th, bothLive_th, lowestMarriage_th, kids_th, h6, esn, h19]; done), hR⟩
    · replace h19 := b2i_n0.mp h19
      refine zconst (v := 0) C dX8_ofSuit_22 (by decide) ?_
      refine zgoto (tgt := 27) C dX8_ofSuit_23 (by decide) ?_
      refine zcallV C (m_holds 0 (by decide) M hR) hy_X8_holds hv_X8_holds hl_X8_157 hR.1 rfl rfl rfl rfl (by decide) (by decide) (by omega) (by omega) rfl (by exact Nat.le_of_ble_eq_true rfl) dX8_ofSuit_27 (fun v27 M hp27 => ?_)
      obtain ⟨S1, ⟨rfl, hs⟩, hR⟩ := hp27
      rw [hs] at hR
      clear hs
      refine zif_ne_t (tgt := 35) C dX8_ofSuit_30 (by decide) (by decide) ?_
      refine ziload_n C dX8_ofSuit_35 rfl ?_
      refine zconst (v := 2) C dX8_ofSuit_36 (by decide) ?_
      refine zicmp_ge (tgt := 60) C dX8_ofSuit_37 (by decide) (fun h37 => ?_) (fun h37 => ?_)
      · refine ziload_n C dX8_ofSuit_60 rfl ?_
        refine zconst (v := 2) C dX8_ofSuit_61 (by decide) ?_
        refine zicmp_ne (tgt := 73) C dX8_ofSuit_62 (by decide) (fun h62 => ?_) (fun h62 => ?_)
        · refine ziload_n C dX8_ofSuit_73 rfl ?_
          refine zconst (v := 3) C dX8_ofSuit_74 (by decide) ?_
          refine zicmp_ne (tgt := 88) C dX8_ofSuit_75 (by decide) (fun h75 => ?_) (fun h75 => ?_)
          · refine zaload_n C dX8_ofSuit_88 rfl ?_
            refine zmga C hR hf_X8_121 rfl dX8_ofSuit_89 ?_
            refine ziload_n C dX8_ofSuit_92 rfl ?_
            refine zmia C hR rfl rfl rfl (show _ < 20 from by omega) dX8_ofSuit_93 ?_
            exact zend_i C hE dX8_ofSuit_94 (by omega) (by omega) ⟨_, by first | (simp [o_ofSuit, rng, zsA_g, zsN_g, zsN_2, zsA_1, zsA_c, zsA_l, zsL_g, zsL_1, zsL_c, zsL_a, zsN_N, courtOn_th, faithAt_th, lawOf_th, ruleOn_th, isGrown_th, canWit_th, lasting_th, isMinor_th, isWonAt_th, canJudge_th, canTest_th, heard_th, bothLive_th, lowestMarriage_th, kids_th, h6, esn, h19, h37, h62, h75]; done) | (simp_all [o_ofSuit, rng, zsA_g, zsN_g, zsN_2, zsA_1, zsA_c, zsA_l, zsL_g, zsL_1, zsL_c, zsL_a, zsN_N, courtOn_th, faithAt_th, lawOf_th, ruleOn_th, isGrown_th, canWit_th, lasting_th, isMinor_th, isWonAt_th, canJudge_th, canTest_th, heard_th, bothLive_th, lowestMarriage_th, kids_th, h6, esn, h19, h37, h62, h75]; done), hR⟩
          · refine zaload_n C dX8_ofSuit_78 rfl ?_
            refine zmga C hR hf_X8_115 rfl dX8_ofSuit_79 ?_
            refine ziload_n C dX8_ofSuit_82 rfl ?_
            refine zmla C hR rfl rfl rfl (show _ < 20 from by omega) dX8_ofSuit_83 ?_
            refine zl2i C dX8_ofSuit_84 ?_
            refine zgoto (tgt := 94) C dX8_ofSuit_85 (by decide) ?_
            exact zend_i C hE dX8_ofSuit_94 (by omega) (by omega) ⟨_, by first | (simp [o_ofSuit, rng, zsA_g, zsN_g, zsN_2, zsA_1, zsA_c, zsA_l, zsL_g, zsL_1, zsL_c, zsL_a, zsN_N, courtOn_th, faithAt_th, lawOf_th, ruleOn_th, isGrown_th, canWit_th, lasting_th, isMinor_th, isWonAt_th, canJudge_th, canTest_th, heard_th, bothLive_th, lowestMarriage_th, kids_th, h6, esn, h19, h37, h62, h75]; done) | (simp_all [o_ofSuit, rng, zsA_g, zsN_g, zsN_2, zsA_1, zsA_c, zsA_l, zsL_g, zsL_1, zsL_c, zsL_a, zsN_N, courtOn_th, faithAt_th, lawOf_th, ruleOn_th, isGrown_th, canWit_th, lasting_th, isMinor_th, isWonAt_th, canJudge_th, canTest_th, heard_th, bothLive_th, lowestMarriage_th, kids_th, h6, esn, h19, h37, h62, h75]; done), hR⟩
        · refine zaload_n C dX8_ofSuit_65 rfl ?_
          refine ziload_n C dX8_ofSuit_66 rfl ?_
          refine zcallV C (m_heard (S := th S 0) sn (by omega) M hR) hy_X8_heard hv_X8_heard hl_X8_268 hR.1 rfl rfl rfl rfl (by decide) (by decide) (by omega) (by omega) rfl (by exact Nat.le_of_ble_eq_true rfl) dX8_ofSuit_67 (fun v67 M hp67 => ?_)
          obtain ⟨S1, ⟨rfl, hs⟩, hR⟩ := hp67
          rw [hs] at hR
          clear hs
          refine zgoto (tgt := 94) C dX8_ofSuit_70 (by decide) ?_
          exact zend_i C hE dX8_ofSuit_94 (by omega) (by omega) ⟨_, by first | (simp [o_ofSuit, rng, zsA_g, zsN_g, zsN_2, zsA_1, zsA_c, zsA_l, zsL_g, zsL_1, zsL_c, zsL_a, zsN_N, courtOn_th, faithAt_th, lawOf_th, ruleOn_th, isGrown_th, canWit_th, lasting_th, isMinor_th, isWonAt_th, canJudge_th, canTest_th, heard_th, bothLive_th, lowestMarriage_th, kids_th, h6, esn, h19, h37, h62]; done) | (simp_all [o_ofSuit, rng, zsA_g, zsN_g, zsN_2, zsA_1, zsA_c, zsA_l, zsL_g, zsL_1, zsL_c, zsL_a, zsN_N, courtOn_th, faithAt_th, lawOf_th, ruleOn_th, isGrown_th, canWit_th, lasting_th, isMinor_th, isWonAt_th, canJudge_th, canTest_th, heard_th, bothLive_th, lowestMarriage_th, kids_th, h6, esn, h19, h37, h62]; done), hR⟩
      · refine ziload_n C dX8_ofSuit_40 rfl ?_
        refine zif_ne (tgt := 53) C dX8_ofSuit_41 (by decide) (fun h41 => ?_) (fun h41 => ?_)
        · refine zaload_n C dX8_ofSuit_53 rfl ?_
          refine zmga C hR hf_X8_97 rfl dX8_ofSuit_54 ?_
          refine ziload_n C dX8_ofSuit_57 rfl ?_
          refine zmia C hR rfl rfl rfl (show _ < 20 from by omega) dX8_ofSuit_58 ?_
          exact zend_i C hE dX8_ofSuit_59 (by omega) (by omega) ⟨_, by first | (simp [o_ofSuit, rng, zsA_g, zsN_g, zsN_2, zsA_1, zsA_c, zsA_l, zsL_g, zsL_1, zsL_c, zsL_a, zsN_N, courtOn_th, faithAt_th, lawOf_th, ruleOn_th, isGrown_th, canWit_th, lasting_th, isMinor_th, isWonAt_th, canJudge_th, canTest_th, heard_th, bothLive_th, lowestMarriage_th, kids_th, h6, esn, h19, h37, h41]; done) | (simp_all [o_ofSuit, rng, zsA_g, zsN_g, zsN_2, zsA_1, zsA_c, zsA_l, zsL_g, zsL_1, zsL_c, zsL_a, zsN_N, courtOn_th, faithAt_th, lawOf_th, ruleOn_th, isGrown_th, canWit_th, lasting_th, isMinor_th, isWonAt_th, canJudge_th, canTest_th, heard_th, bothLive_th, lowestMarriage_th, kids_th, h6, esn, h19, h37, h41]; done), hR⟩
        · refine zaload_n C dX8_ofSuit_44 rfl ?_
          refine zmga C hR hf_X8_106 rfl dX8_ofSuit_45 ?_
          refine ziload_n C dX8_ofSuit_48 rfl ?_
          refine zmia C hR rfl rfl rfl (show _ < 20 from by omega) dX8_ofSuit_49 ?_
          refine zgoto (tgt := 59) C dX8_ofSuit_50 (by decide) ?_
          exact zend_i C hE dX8_ofSuit_59 (by omega) (by omega) ⟨_, by first | (simp [o_ofSuit, rng, zsA_g, zsN_g, zsN_2, zsA_1, zsA_c, zsA_l, zsL_g, zsL_1, zsL_c, zsL_a, zsN_N, courtOn_th, faithAt_th, lawOf_th, ruleOn_th, isGrown_th, canWit_th, lasting_th, isMinor_th, isWonAt_th, canJudge_th, canTest_th, heard_th, bothLive_th, lowestMarriage_th, kids_th, h6, esn, h19, h37, h41]; done) | (simp_all [o_ofSuit, rng, zsA_g, zsN_g, zsN_2, zsA_1, zsA_c, zsA_l, zsL_g, zsL_1, zsL_c, zsL_a, zsN_N, courtOn_th, faithAt_th, lawOf_th, ruleOn_th, isGrown_th, canWit_th, lasting_th, isMinor_th, isWonAt_th, canJudge_th, canTest_th, heard_th, bothLive_th, lowestMarriage_th, kids_th, h6, esn, h19, h37, h41]; done), hR⟩
  · replace h6 := b2i_0.mp h6
    refine zconst (v := 1) C dX8_ofSuit_9 (by decide) ?_
    refine zgoto (tgt := 27) C dX8_ofSuit_10 (by decide) ?_
    refine zcallV C (m_holds 1 (by decide) M hR) hy_X8_holds hv_X8_holds hl_X8_157 hR.1 rfl rfl rfl rfl (by decide) (by decide) (by omega) (by omega) rfl (by exact Nat.le_of_ble_eq_true rfl) dX8_ofSuit_27 (fun v27 M hp27 => ?_)
    obtain ⟨S1, ⟨rfl, hs⟩, hR⟩ := hp27
    rw [hs] at hR
    clear hs
    refine zif_ne_f (tgt := 35) C dX8_ofSuit_30 (by decide) (by decide) ?_
    refine zconst (v := 0) C dX8_ofSuit_33 (by decide) ?_
    exact zend_i C hE dX8_ofSuit_34 (by omega) (by omega) ⟨_, by first | (simp [o_ofSuit, rng, zsA_g, zsN_g, zsN_2, zsA_1, zsA_c, zsA_l, zsL_g, zsL_1, zsL_c, zsL_a, zsN_N, courtOn_th, faithAt_th, lawOf_th, ruleOn_th, isGrown_th, canWit_th, lasting_th, isMinor_th, isWonAt_th, canJudge_th, canTest_th, heard_th, bothLive_th, lowestMarriage_th, kids_th, h6]; done) | (simp_all [o_ofSuit, rng, zsA_g, zsN_g, zsN_2, zsA_1, zsA_c, zsA_l, zsL_g, zsL_1, zsL_c, zsL_a, zsN_N, courtOn_th, faithAt_th, lawOf_th, ruleOn_th, isGrown_th, canWit_th, lasting_th, isMinor_th, isWonAt_th, canJudge_th, canTest_th, heard_th, bothLive_th, lowestMarriage_th, kids_th, h6]; done), hR⟩
set_option maxRecDepth 100000 in
set_option maxHeartbeats 1000000 in
theorem m_treasury {g : zGh} {M0 : zM} {mo : Nat} {ad : Nat → Nat} {S : zS}   : zMc g M0 mo ad yX8_treasury cX8_treasury 1 (some .long) 0 0 mkL [] S (fun v S1 => (S1, v) = o_treasury S) := by
  intro M hR
  refine zof [some (.ref mo)] (by decide +kernel) rfl rfl (Nat.le_of_ble_eq_true rfl) ?_
  intro X C hE hnm
  have C : zC g X RX8 cX8_treasury 1 0 0 0 0 := C
  refine zaload_n C dX8_treasury_0 rfl ?_
  refine zconst (v := 0) C dX8_treasury_1 (by decide) ?_
  refine zmpi (v := 0) C hR hf_X8_130 rfl rfl rfl rfl dX8_treasury_2 (fun M hR => ?_)
  refine zaload_n C dX8_treasury_5 rfl ?_
  refine zmgl C hR hf_X8_255 rfl dX8_treasury_6 ?_
  exact zend_l C hE dX8_treasury_9 (by omega) (by omega) ⟨_, by first | (simp [o_treasury, zsA_g, zsN_g, zsN_2, zsA_1, zsA_c, zsA_l, zsL_g, zsL_1, zsL_c, zsL_a, zsN_N]; done) | (simp_all [o_treasury, zsA_g, zsN_g, zsN_2, zsA_1, zsA_c, zsA_l, zsL_g, zsL_1, zsL_c, zsL_a, zsN_N]; done), hR⟩
set_option maxRecDepth 100000 in
set_option maxHeartbeats 1000000 in
theorem m_all {g : zGh} {M0 : zM} {mo : Nat} {ad : Nat → Nat} {S : zS}  (hi : iB S) : zMc g M0 mo ad yX8_all cX8_all 4 (some .long) 0 0 mkL [] S (fun v S1 => (S1, v) = o_all S) := by
  intro M hR
  refine zof [some (.ref mo), none, none, none] (by decide +kernel) rfl rfl (Nat.le_of_ble_eq_true rfl) ?_
  intro X C hE hnm
  have C : zC g X RX8 cX8_all 4 0 0 0 0 := C
  obtain ⟨hb1, hb2, hb4, hb9, hb13, hb25, hb33⟩ := id hi
  have loop : ∀ (r i : Nat), i + r = S.1 13 → ∀ M, zR g M0 mo ad (th S 0) M → zG g X M 0 0 12 [some (.ref mo), some (.long (allL (S.2.2.2 19) S.2.1 i)), none, some (.int (nI i))] [] := by
    intro r
    induction r with
    | zero =>
      intro i hi M hR
      refine ziload_n C dX8_all_12 rfl ?_
      refine zaload_n C dX8_all_13 rfl ?_
      refine zmgi C hR hf_X8_145 rfl dX8_all_14 ?_
      rw [show (th S 0).1 13 = S.1 13 from rfl]
      refine zicmp_ge (tgt := 35) C dX8_all_17 (by decide) (fun h17 => ?_) (fun h17 => by first | exact absurd (nI_le (by omega) (by omega)) h17 | exact absurd h17 (nI_le (by omega) (by omega)))
      refine zlload_n C dX8_all_35 rfl ?_
      exact zend_l C hE dX8_all_36 (by omega) (by omega) ⟨_, by rw [o_all, show S.1 13 = i by omega], hR⟩
    | succ r ih =>
      intro i hi M hR
      refine ziload_n C dX8_all_12 rfl ?_
      refine zaload_n C dX8_all_13 rfl ?_
      refine zmgi C hR hf_X8_145 rfl dX8_all_14 ?_
      rw [show (th S 0).1 13 = S.1 13 from rfl]
      refine zicmp_ge (tgt := 35) C dX8_all_17 (by decide) (fun h17 => by first | exact absurd h17 (nI_ge (by omega) (by omega)) | exact absurd (nI_ge (by omega) (by omega)) h17) (fun h17 => ?_)
      refine zlload_n C dX8_all_20 rfl ?_
      refine zaload_n C dX8_all_21 rfl ?_
      refine zmga C hR hf_X8_50 rfl dX8_all_22 ?_
      refine ziload_n C dX8_all_25 rfl ?_
      refine zmla C hR rfl rfl rfl (show _ < 40 from by omega) dX8_all_26 ?_
      refine zladd C dX8_all_27 ?_
      refine zlstore_n (L1 := [_, _, _, _]) C dX8_all_28 rfl (Nat.le_of_ble_eq_true rfl) ?_
      refine ziinc (L1 := [_, _, _, _]) (v := nI (i + 1)) C dX8_all_29 rfl (nI_1 i) rfl ?_
      refine zgoto (tgt := 12) C dX8_all_32 (by decide) ?_
      exact zcg (ih (i + 1) (by omega) M hR) (by simp [zk1, zk2, allL, zsL_t])
  refine zaload_n C dX8_all_0 rfl ?_
  refine zconst (v := 0) C dX8_all_1 (by decide) ?_
  refine zmpi (v := 0) C hR hf_X8_130 rfl rfl rfl rfl dX8_all_2 (fun M hR => ?_)
  refine zaload_n C dX8_all_5 rfl ?_
  refine zmgl C hR hf_X8_255 rfl dX8_all_6 ?_
  refine zlstore_n (L1 := [_, _, _, _]) C dX8_all_9 rfl (Nat.le_of_ble_eq_true rfl) ?_
  refine zconst (v := 0) C dX8_all_10 (by decide) ?_
  refine zistore_n (L1 := [_, _, _, _]) C dX8_all_11 rfl (Nat.le_of_ble_eq_true rfl) ?_
  exact zcg (loop (S.1 13) 0 (by omega) M hR) (by simp [zk1, zk2, allL, zsN_2, nI_0])
