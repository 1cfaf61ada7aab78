theorem z30 (a : Nat) : nI a + 30 = nI (a + 30) := nI_add a 30
theorem zlt_jf {x y : Int64} (h : y ≤ x) : ¬ x < y := by rw [Int64.lt_iff_toInt_lt]; rw [Int64.le_iff_toInt_le] at h; omega
theorem zlt_jt {x y : Int64} (h : ¬ y ≤ x) : x < y := by rw [Int64.lt_iff_toInt_lt]; rw [Int64.le_iff_toInt_le] at h; omega
set_option maxRecDepth 100000 in
set_option maxHeartbeats 1000000 in
theorem m_person {g : zGh} {M0 : zM} {mo : Nat} {ad : Nat → Nat} {S : zS} (man : Bool) (mo0 fa its : Int32) (hi : iB S) (hP : iPs S) (hz : S.1 13 < 40 → S.2.2.1 20 (S.1 13) = 0) : zMc g M0 mo ad yX8_person cX8_person 8 (some .int) 3 64 mkI [.int (b2i man), .int mo0, .int fa, .int its] S (fun v S1 => (S1, v) = o_person S (b2i man) mo0 fa its) := by
  intro M hR
  refine zof [some (.ref mo), some (.int (b2i man)), some (.int mo0), some (.int fa), some (.int its), none, none, none] (by decide +kernel) rfl rfl (Nat.le_of_ble_eq_true rfl) ?_
  intro X C hE hnm
  have C : zC g X RX8 cX8_person 8 3 64 0 0 := C
  obtain ⟨hb1, hb2, hb4, hb9, hb13, hb25, hb33⟩ := id hi
  refine ziload_n C dX8_person_0 rfl ?_
  refine zconst (v := -1) C dX8_person_1 (by decide) ?_
  refine zicmp_eq (tgt := 13) C dX8_person_2 (by decide) (fun h2 => ?_) (fun h2 => ?_)
  · refine ziload_n C dX8_person_13 rfl ?_
    refine zconst (v := -1) C dX8_person_14 (by decide) ?_
    refine zicmp_eq (tgt := 26) C dX8_person_15 (by decide) (fun h15 => ?_) (fun h15 => ?_)
    · refine zaload_n C dX8_person_26 rfl ?_
      refine ziload C dX8_person_27 rfl ?_
      refine zcallV C (m_isCourt its (by omega) M hR) hy_X8_isCourt hv_X8_isCourt hl_X8_174 hR.1 rfl rfl rfl rfl (by decide) (by decide) (by omega) (by omega) rfl (by exact Nat.le_of_ble_eq_true rfl) dX8_person_29 (fun v29 M hp29 => ?_)
      obtain ⟨S1, ⟨rfl, hs⟩, hR⟩ := hp29
      rw [hs] at hR
      clear hs
      refine zif_eq (tgt := 39) C dX8_person_32 (by decide) (fun h32 => ?_) (fun h32 => ?_)
      · replace h32 := b2i_0.mp h32
        refine zconst (v := 0) C dX8_person_39 (by decide) ?_
        refine zistore (L1 := [_, _, _, _, _, _, _, _]) C dX8_person_40 rfl (Nat.le_of_ble_eq_true rfl) ?_
        refine ziload_n C dX8_person_42 rfl ?_
        refine zconst (v := -1) C dX8_person_43 (by decide) ?_
        refine zicmp_ne (tgt := 56) C dX8_person_44 (by decide) (fun h44 => by first | exact absurd h44 h2 | exact absurd h2 h44) (fun h44 => ?_)
        refine ziload_n C dX8_person_47 rfl ?_
        refine zconst (v := -1) C dX8_person_48 (by decide) ?_
        refine zicmp_ne (tgt := 56) C dX8_person_49 (by decide) (fun h49 => by first | exact absurd h49 h15 | exact absurd h15 h49) (fun h49 => ?_)
        refine zconst (v := 1) C dX8_person_52 (by decide) ?_
        refine zgoto (tgt := 57) C dX8_person_53 (by decide) ?_
        refine zistore (L1 := [_, _, _, _, _, _, _, _]) C dX8_person_57 rfl (Nat.le_of_ble_eq_true rfl) ?_
        refine ziload C dX8_person_59 rfl ?_
        refine zif_eq_t (tgt := 112) C dX8_person_61 (by decide) (by decide) ?_
        refine zconst (v := 0) C dX8_person_112 (by decide) ?_
        refine zistore (L1 := [_, _, _, _, _, _, _, _]) C dX8_person_113 rfl (Nat.le_of_ble_eq_true rfl) ?_
        refine zaload_n C dX8_person_115 rfl ?_
        refine ziload C dX8_person_116 rfl ?_
        refine zif_ne_f (tgt := 125) C dX8_person_118 (by decide) (by decide) ?_
        refine zconst (v := 1) C dX8_person_121 (by decide) ?_
        refine zgoto (tgt := 148) C dX8_person_122 (by decide) ?_
        refine zcallV C (m_holds 1 (by decide) M hR) hy_X8_holds hv_X8_holds hl_X8_157 hR.1 rfl rfl rfl rfl (by decide) (by decide) (by omega) (by omega) rfl (by exact Nat.le_of_ble_eq_true rfl) dX8_person_148 (fun v148 M hp148 => ?_)
        obtain ⟨S1, ⟨rfl, hs⟩, hR⟩ := hp148
        rw [hs] at hR
        clear hs
        refine zif_ne_f (tgt := 156) C dX8_person_151 (by decide) (by decide) ?_
        refine zconst (v := 0) C dX8_person_154 (by decide) ?_
        exact zend_i C hE dX8_person_155 (by omega) (by omega) ⟨_, by first | (simp [o_person, perS, bornF, okc, nI_pred, zsA_g, zsN_g, zsN_2, zsA_1, zsA_c, zsA_l, zsL_g, zsL_1, zsL_c, zsL_a, zsN_N, courtOn_th, faithAt_th, lawOf_th, ruleOn_th, isGrown_th, canWit_th, lasting_th, isMinor_th, isWonAt_th, canJudge_th, canTest_th, heard_th, bothLive_th, lowestMarriage_th, kids_th, h2, h15, h32]; done) | (simp_all [o_person, perS, bornF, okc, nI_pred, zsA_g, zsN_g, zsN_2, zsA_1, zsA_c, zsA_l, zsL_g, zsL_1, zsL_c, zsL_a, zsN_N, courtOn_th, faithAt_th, lawOf_th, ruleOn_th, isGrown_th, canWit_th, lasting_th, isMinor_th, isWonAt_th, canJudge_th, canTest_th, heard_th, bothLive_th, lowestMarriage_th, kids_th, h2, h15, h32]; done), hR⟩
      · replace h32 := b2i_n0.mp h32
        refine zconst (v := 1) C dX8_person_35 (by decide) ?_
        refine zgoto (tgt := 40) C dX8_person_36 (by decide) ?_
        refine zistore (L1 := [_, _, _, _, _, _, _, _]) C dX8_person_40 rfl (Nat.le_of_ble_eq_true rfl) ?_
        refine ziload_n C dX8_person_42 rfl ?_
        refine zconst (v := -1) C dX8_person_43 (by decide) ?_
        refine zicmp_ne (tgt := 56) C dX8_person_44 (by decide) (fun h44 => by first | exact absurd h44 h2 | exact absurd h2 h44) (fun h44 => ?_)
        refine ziload_n C dX8_person_47 rfl ?_
        refine zconst (v := -1) C dX8_person_48 (by decide) ?_
        refine zicmp_ne (tgt := 56) C dX8_person_49 (by decide) (fun h49 => by first | exact absurd h49 h15 | exact absurd h15 h49) (fun h49 => ?_)
        refine zconst (v := 1) C dX8_person_52 (by decide) ?_
        refine zgoto (tgt := 57) C dX8_person_53 (by decide) ?_
        refine zistore (L1 := [_, _, _, _, _, _, _, _]) C dX8_person_57 rfl (Nat.le_of_ble_eq_true rfl) ?_
        refine ziload C dX8_person_59 rfl ?_
        refine zif_eq_f (tgt := 112) C dX8_person_61 (by decide) (by decide) ?_
        refine ziload_n C dX8_person_64 rfl ?_
        refine zconst (v := -1) C dX8_person_65 (by decide) ?_
        refine zicmp_eq (tgt := 78) C dX8_person_66 (by decide) (fun h66 => ?_) (fun h66 => by first | exact absurd h2 h66 | exact absurd h66 h2)
        refine ziload_n C dX8_person_78 rfl ?_
        refine zconst (v := -1) C dX8_person_79 (by decide) ?_
        refine zicmp_eq (tgt := 92) C dX8_person_80 (by decide) (fun h80 => ?_) (fun h80 => by first | exact absurd h15 h80 | exact absurd h80 h15)
        refine ziload C dX8_person_92 rfl ?_
        refine ziload C dX8_person_94 rfl ?_
        refine zconst (v := -1) C dX8_person_96 (by decide) ?_
        refine zicmp_eq (tgt := 104) C dX8_person_97 (by decide) (fun h97 => ?_) (fun h97 => ?_)
        · refine zconst (v := 0) C dX8_person_104 (by decide) ?_
          refine zicmp_ne (tgt := 112) C dX8_person_105 (by decide) (fun h105 => ?_) (fun h105 => by first | exact absurd (by decide) h105 | exact absurd h105 (by decide))
          refine zconst (v := 0) C dX8_person_112 (by decide) ?_
          refine zistore (L1 := [_, _, _, _, _, _, _, _]) C dX8_person_113 rfl (Nat.le_of_ble_eq_true rfl) ?_
          refine zaload_n C dX8_person_115 rfl ?_
          refine ziload C dX8_person_116 rfl ?_
          refine zif_ne_t (tgt := 125) C dX8_person_118 (by decide) (by decide) ?_
          refine ziload C dX8_person_125 rfl ?_
          refine zif_ne_f (tgt := 134) C dX8_person_127 (by decide) (by decide) ?_
          refine zconst (v := 2) C dX8_person_130 (by decide) ?_
          refine zgoto (tgt := 148) C dX8_person_131 (by decide) ?_
          refine zcallV C (m_holds 2 (by decide) M hR) hy_X8_holds hv_X8_holds hl_X8_157 hR.1 rfl rfl rfl rfl (by decide) (by decide) (by omega) (by omega) rfl (by exact Nat.le_of_ble_eq_true rfl) dX8_person_148 (fun v148 M hp148 => ?_)
          obtain ⟨S1, ⟨rfl, hs⟩, hR⟩ := hp148
          rw [hs] at hR
          clear hs
          refine zif_ne_f (tgt := 156) C dX8_person_151 (by decide) (by decide) ?_
          refine zconst (v := 0) C dX8_person_154 (by decide) ?_
          exact zend_i C hE dX8_person_155 (by omega) (by omega) ⟨_, by first | (simp [o_person, perS, bornF, okc, nI_pred, zsA_g, zsN_g, zsN_2, zsA_1, zsA_c, zsA_l, zsL_g, zsL_1, zsL_c, zsL_a, zsN_N, courtOn_th, faithAt_th, lawOf_th, ruleOn_th, isGrown_th, canWit_th, lasting_th, isMinor_th, isWonAt_th, canJudge_th, canTest_th, heard_th, bothLive_th, lowestMarriage_th, kids_th, h2, h15, h32, h97]; done) | (simp_all [o_person, perS, bornF, okc, nI_pred, zsA_g, zsN_g, zsN_2, zsA_1, zsA_c, zsA_l, zsL_g, zsL_1, zsL_c, zsL_a, zsN_N, courtOn_th, faithAt_th, lawOf_th, ruleOn_th, isGrown_th, canWit_th, lasting_th, isMinor_th, isWonAt_th, canJudge_th, canTest_th, heard_th, bothLive_th, lowestMarriage_th, kids_th, h2, h15, h32, h97]; done), hR⟩
        · refine zconst (v := 1) C dX8_person_100 (by decide) ?_
          refine zgoto (tgt := 105) C dX8_person_101 (by decide) ?_
          refine zicmp_ne (tgt := 112) C dX8_person_105 (by decide) (fun h105 => by first | exact absurd h105 (by decide) | exact absurd (by decide) h105) (fun h105 => ?_)
          refine zconst (v := 1) C dX8_person_108 (by decide) ?_
          refine zgoto (tgt := 113) C dX8_person_109 (by decide) ?_
          refine zistore (L1 := [_, _, _, _, _, _, _, _]) C dX8_person_113 rfl (Nat.le_of_ble_eq_true rfl) ?_
          refine zaload_n C dX8_person_115 rfl ?_
          refine ziload C dX8_person_116 rfl ?_
          refine zif_ne_t (tgt := 125) C dX8_person_118 (by decide) (by decide) ?_
          refine ziload C dX8_person_125 rfl ?_
          refine zif_ne_t (tgt := 134) C dX8_person_127 (by decide) (by decide) ?_
          refine zaload_n C dX8_person_134 rfl ?_
          refine zmgi C hR hf_X8_145 rfl dX8_person_135 ?_
          refine zbipush (v := 40) C dX8_person_138 (by decide) ?_
          refine zicmp_ne (tgt := 147) C dX8_person_140 (by decide) (fun h140 => ?_) (fun h140 => ?_)
          · replace h140 := zni_n (b := 40) h140
            refine zconst (v := 0) C dX8_person_147 (by decide) ?_
            refine zcallV C (m_holds 0 (by decide) M hR) hy_X8_holds hv_X8_holds hl_X8_157 hR.1 rfl rfl rfl rfl (by decide) (by decide) (by omega) (by omega) rfl (by exact Nat.le_of_ble_eq_true rfl) dX8_person_148 (fun v148 M hp148 => ?_)
            obtain ⟨S1, ⟨rfl, hs⟩, hR⟩ := hp148
            rw [hs] at hR
            clear hs
            refine zif_ne_t (tgt := 156) C dX8_person_151 (by decide) (by decide) ?_
            refine zaload_n C dX8_person_156 rfl ?_
            refine zmga C hR hf_X8_34 rfl dX8_person_157 ?_
            refine zaload_n C dX8_person_160 rfl ?_
            refine zmgi C hR hf_X8_145 rfl dX8_person_161 ?_
            refine ziload_n C dX8_person_164 rfl ?_
            refine zmzs (i0 := S.1 13) C hR rfl rfl rfl (show _ < 40 from by omega) (b2i_b man) dX8_person_165 (fun M hR => ?_)
            refine zaload_n C dX8_person_166 rfl ?_
            refine zmga C hR hf_X8_38 rfl dX8_person_167 ?_
            refine zaload_n C dX8_person_170 rfl ?_
            refine zmgi C hR hf_X8_145 rfl dX8_person_171 ?_
            refine ziload_n C dX8_person_174 rfl ?_
            refine zmis (i0 := S.1 13) C hR rfl rfl rfl (show _ < 40 from by omega) dX8_person_175 (fun M hR => ?_)
            refine zaload_n C dX8_person_176 rfl ?_
            refine zmga C hR hf_X8_41 rfl dX8_person_177 ?_
            refine zaload_n C dX8_person_180 rfl ?_
            refine zmgi C hR hf_X8_145 rfl dX8_person_181 ?_
            refine ziload_n C dX8_person_184 rfl ?_
            refine zmis (i0 := S.1 13) C hR rfl rfl rfl (show _ < 40 from by omega) dX8_person_185 (fun M hR => ?_)
            refine zaload_n C dX8_person_186 rfl ?_
            refine zmga C hR hf_X8_44 rfl dX8_person_187 ?_
            refine zaload_n C dX8_person_190 rfl ?_
            refine zmgi C hR hf_X8_145 rfl dX8_person_191 ?_
            refine zaload_n C dX8_person_194 rfl ?_
            refine zmgi C hR hf_X8_154 rfl dX8_person_195 ?_
            refine zmis (i0 := S.1 13) C hR rfl rfl rfl (show _ < 40 from by omega) dX8_person_198 (fun M hR => ?_)
            refine zaload_n C dX8_person_199 rfl ?_
            refine zmga C hR hf_X8_61 rfl dX8_person_200 ?_
            refine zaload_n C dX8_person_203 rfl ?_
            refine zmgi C hR hf_X8_145 rfl dX8_person_204 ?_
            refine zconst (v := -1) C dX8_person_207 (by decide) ?_
            refine zmis (i0 := S.1 13) C hR rfl rfl rfl (show _ < 40 from by omega) dX8_person_208 (fun M hR => ?_)
            refine zaload_n C dX8_person_209 rfl ?_
            refine zmga C hR hf_X8_64 rfl dX8_person_210 ?_
            refine zaload_n C dX8_person_213 rfl ?_
            refine zmgi C hR hf_X8_145 rfl dX8_person_214 ?_
            refine zconst (v := -1) C dX8_person_217 (by decide) ?_
            refine zmis (i0 := S.1 13) C hR rfl rfl rfl (show _ < 40 from by omega) dX8_person_218 (fun M hR => ?_)
            refine zaload_n C dX8_person_219 rfl ?_
            refine zaload_n C dX8_person_220 rfl ?_
            refine zmgi C hR hf_X8_145 rfl dX8_person_221 ?_
            refine ziload C dX8_person_224 rfl ?_
            refine zif_eq_f (tgt := 234) C dX8_person_226 (by decide) (by decide) ?_
            refine ziload C dX8_person_229 rfl ?_
            refine zgoto (tgt := 252) C dX8_person_231 (by decide) ?_
            refine zcallV C (m_takes (S := perA (th S 0) (b2i man) mo0 fa) (S.1 13) 0 its (by omega) (by omega) (hz (by omega)) M hR) hy_X8_takes hv_X8_takes hl_X8_198 hR.1 rfl rfl rfl rfl (by decide) (by decide) (by omega) (by omega) rfl (by exact Nat.le_of_ble_eq_true rfl) dX8_person_252 (fun v252 M hp252 => ?_)
            obtain ⟨S1, hs, hR⟩ := hp252
            rw [hs] at hR
            clear hs
            refine zaload_n C dX8_person_255 rfl ?_
            refine zdup C dX8_person_256 rfl ?_
            refine zmgi C hR hf_X8_145 rfl dX8_person_257 ?_
            refine zconst (v := 1) C dX8_person_260 (by decide) ?_
            refine ziadd C dX8_person_261 ?_
            refine zmpi (v := S.1 13 + 1) C hR hf_X8_145 rfl rfl rfl (nI_1 (S.1 13)) dX8_person_262 (fun M hR => ?_)
            refine zaload_n C dX8_person_265 rfl ?_
            refine zmgi C hR hf_X8_145 rfl dX8_person_266 ?_
            refine zconst (v := 1) C dX8_person_269 (by decide) ?_
            refine zisub C dX8_person_270 ?_
            exact zend_i C hE dX8_person_271 (by omega) (by omega) ⟨_, by first | (simp [o_person, perS, bornF, okc, nI_pred, zsA_g, zsN_g, zsN_2, zsA_1, zsA_c, zsA_l, zsL_g, zsL_1, zsL_c, zsL_a, zsN_N, courtOn_th, faithAt_th, lawOf_th, ruleOn_th, isGrown_th, canWit_th, lasting_th, isMinor_th, isWonAt_th, canJudge_th, canTest_th, heard_th, bothLive_th, lowestMarriage_th, kids_th, h2, h15, h32, h97, h140]; done) | (simp_all [o_person, perS, bornF, okc, nI_pred, zsA_g, zsN_g, zsN_2, zsA_1, zsA_c, zsA_l, zsL_g, zsL_1, zsL_c, zsL_a, zsN_N, courtOn_th, faithAt_th, lawOf_th, ruleOn_th, isGrown_th, canWit_th, lasting_th, isMinor_th, isWonAt_th, canJudge_th, canTest_th, heard_th, bothLive_th, lowestMarriage_th, kids_th, h2, h15, h32, h97, h140]; done), hR⟩
          · replace h140 := zni_e (b := 40) (by omega) (by decide) h140
            refine zconst (v := 3) C dX8_person_143 (by decide) ?_
            refine zgoto (tgt := 148) C dX8_person_144 (by decide) ?_
            refine zcallV C (m_holds 3 (by decide) M hR) hy_X8_holds hv_X8_holds hl_X8_157 hR.1 rfl rfl rfl rfl (by decide) (by decide) (by omega) (by omega) rfl (by exact Nat.le_of_ble_eq_true rfl) dX8_person_148 (fun v148 M hp148 => ?_)
            obtain ⟨S1, ⟨rfl, hs⟩, hR⟩ := hp148
            rw [hs] at hR
            clear hs
            refine zif_ne_f (tgt := 156) C dX8_person_151 (by decide) (by decide) ?_
            refine zconst (v := 0) C dX8_person_154 (by decide) ?_
            exact zend_i C hE dX8_person_155 (by omega) (by omega) ⟨_, by first | (simp [o_person, perS, bornF, okc, nI_pred, zsA_g, zsN_g, zsN_2, zsA_1, zsA_c, zsA_l, zsL_g, zsL_1, zsL_c, zsL_a, zsN_N, courtOn_th, faithAt_th, lawOf_th, ruleOn_th, isGrown_th, canWit_th, lasting_th, isMinor_th, isWonAt_th, canJudge_th, canTest_th, heard_th, bothLive_th, lowestMarriage_th, kids_th, h2, h15, h32, h97, h140]; done) | (simp_all [o_person, perS, bornF, okc, nI_pred, zsA_g, zsN_g, zsN_2, zsA_1, zsA_c, zsA_l, zsL_g, zsL_1, zsL_c, zsL_a, zsN_N, courtOn_th, faithAt_th, lawOf_th, ruleOn_th, isGrown_th, canWit_th, lasting_th, isMinor_th, isWonAt_th, canJudge_th, canTest_th, heard_th, bothLive_th, lowestMarriage_th, kids_th, h2, h15, h32, h97, h140]; done), hR⟩
    · refine zaload_n C dX8_person_18 rfl ?_
      refine ziload_n C dX8_person_19 rfl ?_
      refine zcallV C (m_isPerson fa (by omega) M hR) hy_X8_isPerson hv_X8_isPerson hl_X8_191 hR.1 rfl rfl rfl rfl (by decide) (by decide) (by omega) (by omega) rfl (by exact Nat.le_of_ble_eq_true rfl) dX8_person_20 (fun v20 M hp20 => ?_)
      obtain ⟨S1, ⟨rfl, hs⟩, hR⟩ := hp20
      rw [hs] at hR
      clear hs
      refine zif_eq (tgt := 39) C dX8_person_23 (by decide) (fun h23 => ?_) (fun h23 => ?_)
      · replace h23 := b2i_0.mp h23
        refine zconst (v := 0) C dX8_person_39 (by decide) ?_
        refine zistore (L1 := [_, _, _, _, _, _, _, _]) C dX8_person_40 rfl (Nat.le_of_ble_eq_true rfl) ?_
        refine ziload_n C dX8_person_42 rfl ?_
        refine zconst (v := -1) C dX8_person_43 (by decide) ?_
        refine zicmp_ne (tgt := 56) C dX8_person_44 (by decide) (fun h44 => by first | exact absurd h44 h2 | exact absurd h2 h44) (fun h44 => ?_)
        refine ziload_n C dX8_person_47 rfl ?_
        refine zconst (v := -1) C dX8_person_48 (by decide) ?_
        refine zicmp_ne (tgt := 56) C dX8_person_49 (by decide) (fun h49 => ?_) (fun h49 => by first | exact absurd h15 h49 | exact absurd h49 h15)
        refine zconst (v := 0) C dX8_person_56 (by decide) ?_
        refine zistore (L1 := [_, _, _, _, _, _, _, _]) C dX8_person_57 rfl (Nat.le_of_ble_eq_true rfl) ?_
        refine ziload C dX8_person_59 rfl ?_
        refine zif_eq_t (tgt := 112) C dX8_person_61 (by decide) (by decide) ?_
        refine zconst (v := 0) C dX8_person_112 (by decide) ?_
        refine zistore (L1 := [_, _, _, _, _, _, _, _]) C dX8_person_113 rfl (Nat.le_of_ble_eq_true rfl) ?_
        refine zaload_n C dX8_person_115 rfl ?_
        refine ziload C dX8_person_116 rfl ?_
        refine zif_ne_f (tgt := 125) C dX8_person_118 (by decide) (by decide) ?_
        refine zconst (v := 1) C dX8_person_121 (by decide) ?_
        refine zgoto (tgt := 148) C dX8_person_122 (by decide) ?_
        refine zcallV C (m_holds 1 (by decide) M hR) hy_X8_holds hv_X8_holds hl_X8_157 hR.1 rfl rfl rfl rfl (by decide) (by decide) (by omega) (by omega) rfl (by exact Nat.le_of_ble_eq_true rfl) dX8_person_148 (fun v148 M hp148 => ?_)
        obtain ⟨S1, ⟨rfl, hs⟩, hR⟩ := hp148
        rw [hs] at hR
        clear hs
        refine zif_ne_f (tgt := 156) C dX8_person_151 (by decide) (by decide) ?_
        refine zconst (v := 0) C dX8_person_154 (by decide) ?_
        exact zend_i C hE dX8_person_155 (by omega) (by omega) ⟨_, by first | (simp [o_person, perS, bornF, okc, nI_pred, zsA_g, zsN_g, zsN_2, zsA_1, zsA_c, zsA_l, zsL_g, zsL_1, zsL_c, zsL_a, zsN_N, courtOn_th, faithAt_th, lawOf_th, ruleOn_th, isGrown_th, canWit_th, lasting_th, isMinor_th, isWonAt_th, canJudge_th, canTest_th, heard_th, bothLive_th, lowestMarriage_th, kids_th, h2, h15, h23]; done) | (simp_all [o_person, perS, bornF, okc, nI_pred, zsA_g, zsN_g, zsN_2, zsA_1, zsA_c, zsA_l, zsL_g, zsL_1, zsL_c, zsL_a, zsN_N, courtOn_th, faithAt_th, lawOf_th, ruleOn_th, isGrown_th, canWit_th, lasting_th, isMinor_th, isWonAt_th, canJudge_th, canTest_th, heard_th, bothLive_th, lowestMarriage_th, kids_th, h2, h15, h23]; done), hR⟩
      · replace h23 := b2i_n0.mp h23
        obtain ⟨fn, hfn, rfl⟩ := zix_of h23 (by omega)
        have efn := nI_clamp (show fn < 2 ^ 31 by omega)
        refine zaload_n C dX8_person_26 rfl ?_
        refine ziload C dX8_person_27 rfl ?_
        refine zcallV C (m_isCourt its (by omega) M hR) hy_X8_isCourt hv_X8_isCourt hl_X8_174 hR.1 rfl rfl rfl rfl (by decide) (by decide) (by omega) (by omega) rfl (by exact Nat.le_of_ble_eq_true rfl) dX8_person_29 (fun v29 M hp29 => ?_)
        obtain ⟨S1, ⟨rfl, hs⟩, hR⟩ := hp29
        rw [hs] at hR
        clear hs
        refine zif_eq (tgt := 39) C dX8_person_32 (by decide) (fun h32 => ?_) (fun h32 => ?_)
        · replace h32 := b2i_0.mp h32
          refine zconst (v := 0) C dX8_person_39 (by decide) ?_
          refine zistore (L1 := [_, _, _, _, _, _, _, _]) C dX8_person_40 rfl (Nat.le_of_ble_eq_true rfl) ?_
          refine ziload_n C dX8_person_42 rfl ?_
          refine zconst (v := -1) C dX8_person_43 (by decide) ?_
          refine zicmp_ne (tgt := 56) C dX8_person_44 (by decide) (fun h44 => by first | exact absurd h44 h2 | exact absurd h2 h44) (fun h44 => ?_)
          refine ziload_n C dX8_person_47 rfl ?_
          refine zconst (v := -1) C dX8_person_48 (by decide) ?_
          refine zicmp_ne (tgt := 56) C dX8_person_49 (by decide) (fun h49 => ?_) (fun h49 => by first | exact absurd h15 h49 | exact absurd h49 h15)
          refine zconst (v := 0) C dX8_person_56 (by decide) ?_
          refine zistore (L1 := [_, _, _, _, _, _, _, _]) C dX8_person_57 rfl (Nat.le_of_ble_eq_true rfl) ?_
          refine ziload C dX8_person_59 rfl ?_
          refine zif_eq_t (tgt := 112) C dX8_person_61 (by decide) (by decide) ?_
          refine zconst (v := 0) C dX8_person_112 (by decide) ?_
          refine zistore (L1 := [_, _, _, _, _, _, _, _]) C dX8_person_113 rfl (Nat.le_of_ble_eq_true rfl) ?_
          refine zaload_n C dX8_person_115 rfl ?_
          refine ziload C dX8_person_116 rfl ?_
          refine zif_ne_f (tgt := 125) C dX8_person_118 (by decide) (by decide) ?_
          refine zconst (v := 1) C dX8_person_121 (by decide) ?_
          refine zgoto (tgt := 148) C dX8_person_122 (by decide) ?_
          refine zcallV C (m_holds 1 (by decide) M hR) hy_X8_holds hv_X8_holds hl_X8_157 hR.1 rfl rfl rfl rfl (by decide) (by decide) (by omega) (by omega) rfl (by exact Nat.le_of_ble_eq_true rfl) dX8_person_148 (fun v148 M hp148 => ?_)
          obtain ⟨S1, ⟨rfl, hs⟩, hR⟩ := hp148
          rw [hs] at hR
          clear hs
          refine zif_ne_f (tgt := 156) C dX8_person_151 (by decide) (by decide) ?_
          refine zconst (v := 0) C dX8_person_154 (by decide) ?_
          exact zend_i C hE dX8_person_155 (by omega) (by omega) ⟨_, by first | (simp [o_person, perS, bornF, okc, nI_pred, zsA_g, zsN_g, zsN_2, zsA_1, zsA_c, zsA_l, zsL_g, zsL_1, zsL_c, zsL_a, zsN_N, courtOn_th, faithAt_th, lawOf_th, ruleOn_th, isGrown_th, canWit_th, lasting_th, isMinor_th, isWonAt_th, canJudge_th, canTest_th, heard_th, bothLive_th, lowestMarriage_th, kids_th, h2, h15, h23, efn, h32]; done) | (simp_all [o_person, perS, bornF, okc, nI_pred, zsA_g, zsN_g, zsN_2, zsA_1, zsA_c, zsA_l, zsL_g, zsL_1, zsL_c, zsL_a, zsN_N, courtOn_th, faithAt_th, lawOf_th, ruleOn_th, isGrown_th, canWit_th, lasting_th, isMinor_th, isWonAt_th, canJudge_th, canTest_th, heard_th, bothLive_th, lowestMarriage_th, kids_th, h2, h15, h23, efn, h32]; done), hR⟩
        · replace h32 := b2i_n0.mp h32
          refine zconst (v := 1) C dX8_person_35 (by decide) ?_
          refine zgoto (tgt := 40) C dX8_person_36 (by decide) ?_
          refine zistore (L1 := [_, _, _, _, _, _, _, _]) C dX8_person_40 rfl (Nat.le_of_ble_eq_true rfl) ?_
          refine ziload_n C dX8_person_42 rfl ?_
          refine zconst (v := -1) C dX8_person_43 (by decide) ?_
          refine zicmp_ne (tgt := 56) C dX8_person_44 (by decide) (fun h44 => by first | exact absurd h44 h2 | exact absurd h2 h44) (fun h44 => ?_)
          refine ziload_n C dX8_person_47 rfl ?_
          refine zconst (v := -1) C dX8_person_48 (by decide) ?_
          refine zicmp_ne (tgt := 56) C dX8_person_49 (by decide) (fun h49 => ?_) (fun h49 => by first | exact absurd h15 h49 | exact absurd h49 h15)
          refine zconst (v := 0) C dX8_person_56 (by decide) ?_
          refine zistore (L1 := [_, _, _, _, _, _, _, _]) C dX8_person_57 rfl (Nat.le_of_ble_eq_true rfl) ?_
          refine ziload C dX8_person_59 rfl ?_
          refine zif_eq_f (tgt := 112) C dX8_person_61 (by decide) (by decide) ?_
          refine ziload_n C dX8_person_64 rfl ?_
          refine zconst (v := -1) C dX8_person_65 (by decide) ?_
          refine zicmp_eq (tgt := 78) C dX8_person_66 (by decide) (fun h66 => ?_) (fun h66 => by first | exact absurd h2 h66 | exact absurd h66 h2)
          refine ziload_n C dX8_person_78 rfl ?_
          refine zconst (v := -1) C dX8_person_79 (by decide) ?_
          refine zicmp_eq (tgt := 92) C dX8_person_80 (by decide) (fun h80 => by first | exact absurd h80 h15 | exact absurd h15 h80) (fun h80 => ?_)
          refine zaload_n C dX8_person_83 rfl ?_
          refine zmga C hR hf_X8_34 rfl dX8_person_84 ?_
          refine ziload_n C dX8_person_87 rfl ?_
          refine zmza C hR rfl rfl rfl (show _ < 40 from by omega) dX8_person_88 ?_
          refine zif_eq (tgt := 112) C dX8_person_89 (by decide) (fun h89 => ?_) (fun h89 => ?_)
          · refine zconst (v := 0) C dX8_person_112 (by decide) ?_
            refine zistore (L1 := [_, _, _, _, _, _, _, _]) C dX8_person_113 rfl (Nat.le_of_ble_eq_true rfl) ?_
            refine zaload_n C dX8_person_115 rfl ?_
            refine ziload C dX8_person_116 rfl ?_
            refine zif_ne_t (tgt := 125) C dX8_person_118 (by decide) (by decide) ?_
            refine ziload C dX8_person_125 rfl ?_
            refine zif_ne_f (tgt := 134) C dX8_person_127 (by decide) (by decide) ?_
            refine zconst (v := 2) C dX8_person_130 (by decide) ?_
            refine zgoto (tgt := 148) C dX8_person_131 (by decide) ?_
            refine zcallV C (m_holds 2 (by decide) M hR) hy_X8_holds hv_X8_holds hl_X8_157 hR.1 rfl rfl rfl rfl (by decide) (by decide) (by omega) (by omega) rfl (by exact Nat.le_of_ble_eq_true rfl) dX8_person_148 (fun v148 M hp148 => ?_)
            obtain ⟨S1, ⟨rfl, hs⟩, hR⟩ := hp148
            rw [hs] at hR
            clear hs
            refine zif_ne_f (tgt := 156) C dX8_person_151 (by decide) (by decide) ?_
            refine zconst (v := 0) C dX8_person_154 (by decide) ?_
            exact zend_i C hE dX8_person_155 (by omega) (by omega) ⟨_, by first | (simp [o_person, perS, bornF, okc, nI_pred, zsA_g, zsN_g, zsN_2, zsA_1, zsA_c, zsA_l, zsL_g, zsL_1, zsL_c, zsL_a, zsN_N, courtOn_th, faithAt_th, lawOf_th, ruleOn_th, isGrown_th, canWit_th, lasting_th, isMinor_th, isWonAt_th, canJudge_th, canTest_th, heard_th, bothLive_th, lowestMarriage_th, kids_th, h2, h15, h23, efn, h32, h89]; done) | (simp_all [o_person, perS, bornF, okc, nI_pred, zsA_g, zsN_g, zsN_2, zsA_1, zsA_c, zsA_l, zsL_g, zsL_1, zsL_c, zsL_a, zsN_N, courtOn_th, faithAt_th, lawOf_th, ruleOn_th, isGrown_th, canWit_th, lasting_th, isMinor_th, isWonAt_th, canJudge_th, canTest_th, heard_th, bothLive_th, lowestMarriage_th, kids_th, h2, h15, h23, efn, h32, h89]; done), hR⟩
          · refine ziload C dX8_person_92 rfl ?_
            refine ziload C dX8_person_94 rfl ?_
            refine zconst (v := -1) C dX8_person_96 (by decide) ?_
            refine zicmp_eq (tgt := 104) C dX8_person_97 (by decide) (fun h97 => ?_) (fun h97 => ?_)
            · refine zconst (v := 0) C dX8_person_104 (by decide) ?_
              refine zicmp_ne (tgt := 112) C dX8_person_105 (by decide) (fun h105 => by first | exact absurd h105 (by decide) | exact absurd (by decide) h105) (fun h105 => ?_)
              refine zconst (v := 1) C dX8_person_108 (by decide) ?_
              refine zgoto (tgt := 113) C dX8_person_109 (by decide) ?_
              refine zistore (L1 := [_, _, _, _, _, _, _, _]) C dX8_person_113 rfl (Nat.le_of_ble_eq_true rfl) ?_
              refine zaload_n C dX8_person_115 rfl ?_
              refine ziload C dX8_person_116 rfl ?_
              refine zif_ne_t (tgt := 125) C dX8_person_118 (by decide) (by decide) ?_
              refine ziload C dX8_person_125 rfl ?_
              refine zif_ne_t (tgt := 134) C dX8_person_127 (by decide) (by decide) ?_
              refine zaload_n C dX8_person_134 rfl ?_
              refine zmgi C hR hf_X8_145 rfl dX8_person_135 ?_
              refine zbipush (v := 40) C dX8_person_138 (by decide) ?_
              refine zicmp_ne (tgt := 147) C dX8_person_140 (by decide) (fun h140 => ?_) (fun h140 => ?_)
              · replace h140 := zni_n (b := 40) h140
                refine zconst (v := 0) C dX8_person_147 (by decide) ?_
                refine zcallV C (m_holds 0 (by decide) M hR) hy_X8_holds hv_X8_holds hl_X8_157 hR.1 rfl rfl rfl rfl (by decide) (by decide) (by omega) (by omega) rfl (by exact Nat.le_of_ble_eq_true rfl) dX8_person_148 (fun v148 M hp148 => ?_)
                obtain ⟨S1, ⟨rfl, hs⟩, hR⟩ := hp148
                rw [hs] at hR
                clear hs
                refine zif_ne_t (tgt := 156) C dX8_person_151 (by decide) (by decide) ?_
                refine zaload_n C dX8_person_156 rfl ?_
                refine zmga C hR hf_X8_34 rfl dX8_person_157 ?_
                refine zaload_n C dX8_person_160 rfl ?_
                refine zmgi C hR hf_X8_145 rfl dX8_person_161 ?_
                refine ziload_n C dX8_person_164 rfl ?_
                refine zmzs (i0 := S.1 13) C hR rfl rfl rfl (show _ < 40 from by omega) (b2i_b man) dX8_person_165 (fun M hR => ?_)
                refine zaload_n C dX8_person_166 rfl ?_
                refine zmga C hR hf_X8_38 rfl dX8_person_167 ?_
                refine zaload_n C dX8_person_170 rfl ?_
                refine zmgi C hR hf_X8_145 rfl dX8_person_171 ?_
                refine ziload_n C dX8_person_174 rfl ?_
                refine zmis (i0 := S.1 13) C hR rfl rfl rfl (show _ < 40 from by omega) dX8_person_175 (fun M hR => ?_)
                refine zaload_n C dX8_person_176 rfl ?_
                refine zmga C hR hf_X8_41 rfl dX8_person_177 ?_
                refine zaload_n C dX8_person_180 rfl ?_
                refine zmgi C hR hf_X8_145 rfl dX8_person_181 ?_
                refine ziload_n C dX8_person_184 rfl ?_
                refine zmis (i0 := S.1 13) C hR rfl rfl rfl (show _ < 40 from by omega) dX8_person_185 (fun M hR => ?_)
                refine zaload_n C dX8_person_186 rfl ?_
                refine zmga C hR hf_X8_44 rfl dX8_person_187 ?_
                refine zaload_n C dX8_person_190 rfl ?_
                refine zmgi C hR hf_X8_145 rfl dX8_person_191 ?_
                refine zaload_n C dX8_person_194 rfl ?_
                refine zmgi C hR hf_X8_154 rfl dX8_person_195 ?_
                refine zmis (i0 := S.1 13) C hR rfl rfl rfl (show _ < 40 from by omega) dX8_person_198 (fun M hR => ?_)
                refine zaload_n C dX8_person_199 rfl ?_
                refine zmga C hR hf_X8_61 rfl dX8_person_200 ?_
                refine zaload_n C dX8_person_203 rfl ?_
                refine zmgi C hR hf_X8_145 rfl dX8_person_204 ?_
                refine zconst (v := -1) C dX8_person_207 (by decide) ?_
                refine zmis (i0 := S.1 13) C hR rfl rfl rfl (show _ < 40 from by omega) dX8_person_208 (fun M hR => ?_)
                refine zaload_n C dX8_person_209 rfl ?_
                refine zmga C hR hf_X8_64 rfl dX8_person_210 ?_
                refine zaload_n C dX8_person_213 rfl ?_
                refine zmgi C hR hf_X8_145 rfl dX8_person_214 ?_
                refine zconst (v := -1) C dX8_person_217 (by decide) ?_
                refine zmis (i0 := S.1 13) C hR rfl rfl rfl (show _ < 40 from by omega) dX8_person_218 (fun M hR => ?_)
                refine zaload_n C dX8_person_219 rfl ?_
                refine zaload_n C dX8_person_220 rfl ?_
                refine zmgi C hR hf_X8_145 rfl dX8_person_221 ?_
                refine ziload C dX8_person_224 rfl ?_
                refine zif_eq_t (tgt := 234) C dX8_person_226 (by decide) (by decide) ?_
                refine zaload_n C dX8_person_234 rfl ?_
                refine ziload_n C dX8_person_235 rfl ?_
                refine zconst (v := -1) C dX8_person_236 (by decide) ?_
                refine zicmp_eq (tgt := 244) C dX8_person_237 (by decide) (fun h237 => by first | exact absurd h237 h15 | exact absurd h15 h237) (fun h237 => ?_)
                refine ziload_n C dX8_person_240 rfl ?_
                refine zgoto (tgt := 245) C dX8_person_241 (by decide) ?_
                refine zaload_n C dX8_person_245 rfl ?_
                refine zmgi C hR hf_X8_154 rfl dX8_person_246 ?_
                refine zcallV C (m_faithAt (S := perA (th S 0) (b2i man) mo0 (nI fn)) fn (nI (S.1 1)) (by omega) (hP fn hfn).1 M hR) hy_X8_faithOn hv_X8_faithOn hl_X8_188 hR.1 rfl rfl rfl rfl (by decide) (by decide) (by omega) (by omega) rfl (by exact Nat.le_of_ble_eq_true rfl) dX8_person_249 (fun v249 M hp249 => ?_)
                obtain ⟨S1, ⟨hv, hs⟩, hR⟩ := hp249
                have hv : v249 = faithAt S fn (nI (S.1 1)) := hv
                subst hv
                rw [hs] at hR
                clear hs
                refine zcallV C (m_takes (S := perA (th S 0) (b2i man) mo0 (nI fn)) (S.1 13) 0 (faithAt S fn (nI (S.1 1))) (by omega) (by omega) (hz (by omega)) M hR) hy_X8_takes hv_X8_takes hl_X8_198 hR.1 rfl rfl rfl rfl (by decide) (by decide) (by omega) (by omega) rfl (by exact Nat.le_of_ble_eq_true rfl) dX8_person_252 (fun v252 M hp252 => ?_)
                obtain ⟨S1, hs, hR⟩ := hp252
                rw [hs] at hR
                clear hs
                refine zaload_n C dX8_person_255 rfl ?_
                refine zdup C dX8_person_256 rfl ?_
                refine zmgi C hR hf_X8_145 rfl dX8_person_257 ?_
                refine zconst (v := 1) C dX8_person_260 (by decide) ?_
                refine ziadd C dX8_person_261 ?_
                refine zmpi (v := S.1 13 + 1) C hR hf_X8_145 rfl rfl rfl (nI_1 (S.1 13)) dX8_person_262 (fun M hR => ?_)
                refine zaload_n C dX8_person_265 rfl ?_
                refine zmgi C hR hf_X8_145 rfl dX8_person_266 ?_
                refine zconst (v := 1) C dX8_person_269 (by decide) ?_
                refine zisub C dX8_person_270 ?_
                exact zend_i C hE dX8_person_271 (by omega) (by omega) ⟨_, by first | (simp [o_person, perS, bornF, okc, nI_pred, zsA_g, zsN_g, zsN_2, zsA_1, zsA_c, zsA_l, zsL_g, zsL_1, zsL_c, zsL_a, zsN_N, courtOn_th, faithAt_th, lawOf_th, ruleOn_th, isGrown_th, canWit_th, lasting_th, isMinor_th, isWonAt_th, canJudge_th, canTest_th, heard_th, bothLive_th, lowestMarriage_th, kids_th, h2, h15, h23, efn, h32, h89, h97, h140]; done) | (simp_all [o_person, perS, bornF, okc, nI_pred, zsA_g, zsN_g, zsN_2, zsA_1, zsA_c, zsA_l, zsL_g, zsL_1, zsL_c, zsL_a, zsN_N, courtOn_th, faithAt_th, lawOf_th, ruleOn_th, isGrown_th, canWit_th, lasting_th, isMinor_th, isWonAt_th, canJudge_th, canTest_th, heard_th, bothLive_th, lowestMarriage_th, kids_th, h2, h15, h23, efn, h32, h89, h97, h140]; done), hR⟩
              · replace h140 := zni_e (b := 40) (by omega) (by decide) h140
                refine zconst (v := 3) C dX8_person_143 (by decide) ?_
                refine zgoto (tgt := 148) C dX8_person_144 (by decide) ?_
                refine zcallV C (m_holds 3 (by decide) M hR) hy_X8_holds hv_X8_holds hl_X8_157 hR.1 rfl rfl rfl rfl (by decide) (by decide) (by omega) (by omega) rfl (by exact Nat.le_of_ble_eq_true rfl) dX8_person_148 (fun v148 M hp148 => ?_)
                obtain ⟨S1, ⟨rfl, hs⟩, hR⟩ := hp148
                rw [hs] at hR
                clear hs
                refine zif_ne_f (tgt := 156) C dX8_person_151 (by decide) (by decide) ?_
                refine zconst (v := 0) C dX8_person_154 (by decide) ?_
                exact zend_i C hE dX8_person_155 (by omega) (by omega) ⟨_, by first | (simp [o_person, perS, bornF, okc, nI_pred, zsA_g, zsN_g, zsN_2, zsA_1, zsA_c, zsA_l, zsL_g, zsL_1, zsL_c, zsL_a, zsN_N, courtOn_th, faithAt_th, lawOf_th, ruleOn_th, isGrown_th, canWit_th, lasting_th, isMinor_th, isWonAt_th, canJudge_th, canTest_th, heard_th, bothLive_th, lowestMarriage_th, kids_th, h2, h15, h23, efn, h32, h89, h97, h140]; done) | (simp_all [o_person, perS, bornF, okc, nI_pred, zsA_g, zsN_g, zsN_2, zsA_1, zsA_c, zsA_l, zsL_g, zsL_1, zsL_c, zsL_a, zsN_N, courtOn_th, faithAt_th, lawOf_th, ruleOn_th, isGrown_th, canWit_th, lasting_th, isMinor_th, isWonAt_th, canJudge_th, canTest_th, heard_th, bothLive_th, lowestMarriage_th, kids_th, h2, h15, h23, efn, h32, h89, h97, h140]; done), hR⟩
            · refine zconst (v := 1) C dX8_person_100 (by decide) ?_
              refine zgoto (tgt := 105) C dX8_person_101 (by decide) ?_
              refine zicmp_ne (tgt := 112) C dX8_person_105 (by decide) (fun h105 => ?_) (fun h105 => by first | exact absurd (by decide) h105 | exact absurd h105 (by decide))
              refine zconst (v := 0) C dX8_person_112 (by decide) ?_
              refine zistore (L1 := [_, _, _, _, _, _, _, _]) C dX8_person_113 rfl (Nat.le_of_ble_eq_true rfl) ?_
              refine zaload_n C dX8_person_115 rfl ?_
              refine ziload C dX8_person_116 rfl ?_
              refine zif_ne_t (tgt := 125) C dX8_person_118 (by decide) (by decide) ?_
              refine ziload C dX8_person_125 rfl ?_
              refine zif_ne_f (tgt := 134) C dX8_person_127 (by decide) (by decide) ?_
              refine zconst (v := 2) C dX8_person_130 (by decide) ?_
              refine zgoto (tgt := 148) C dX8_person_131 (by decide) ?_
              refine zcallV C (m_holds 2 (by decide) M hR) hy_X8_holds hv_X8_holds hl_X8_157 hR.1 rfl rfl rfl rfl (by decide) (by decide) (by omega) (by omega) rfl (by exact Nat.le_of_ble_eq_true rfl) dX8_person_148 (fun v148 M hp148 => ?_)
              obtain ⟨S1, ⟨rfl, hs⟩, hR⟩ := hp148
              rw [hs] at hR
              clear hs
              refine zif_ne_f (tgt := 156) C dX8_person_151 (by decide) (by decide) ?_
              refine zconst (v := 0) C dX8_person_154 (by decide) ?_
              exact zend_i C hE dX8_person_155 (by omega) (by omega) ⟨_, by first | (simp [o_person, perS, bornF, okc, nI_pred, zsA_g, zsN_g, zsN_2, zsA_1, zsA_c, zsA_l, zsL_g, zsL_1, zsL_c, zsL_a, zsN_N, courtOn_th, faithAt_th, lawOf_th, ruleOn_th, isGrown_th, canWit_th, lasting_th, isMinor_th, isWonAt_th, canJudge_th, canTest_th, heard_th, bothLive_th, lowestMarriage_th, kids_th, h2, h15, h23, efn, h32, h89, h97]; done) | (simp_all [o_person, perS, bornF, okc, nI_pred, zsA_g, zsN_g, zsN_2, zsA_1, zsA_c, zsA_l, zsL_g, zsL_1, zsL_c, zsL_a, zsN_N, courtOn_th, faithAt_th, lawOf_th, ruleOn_th, isGrown_th, canWit_th, lasting_th, isMinor_th, isWonAt_th, canJudge_th, canTest_th, heard_th, bothLive_th, lowestMarriage_th, kids_th, h2, h15, h23, efn, h32, h89, h97]; done), hR⟩
  · refine zaload_n C dX8_person_5 rfl ?_
    refine ziload_n C dX8_person_6 rfl ?_
    refine zcallV C (m_isPerson mo0 (by omega) M hR) hy_X8_isPerson hv_X8_isPerson hl_X8_191 hR.1 rfl rfl rfl rfl (by decide) (by decide) (by omega) (by omega) rfl (by exact Nat.le_of_ble_eq_true rfl) dX8_person_7 (fun v7 M hp7 => ?_)
    obtain ⟨S1, ⟨rfl, hs⟩, hR⟩ := hp7
    rw [hs] at hR
    clear hs
    refine zif_eq (tgt := 39) C dX8_person_10 (by decide) (fun h10 => ?_) (fun h10 => ?_)
    · replace h10 := b2i_0.mp h10
      refine zconst (v := 0) C dX8_person_39 (by decide) ?_
      refine zistore (L1 := [_, _, _, _, _, _, _, _]) C dX8_person_40 rfl (Nat.le_of_ble_eq_true rfl) ?_
      refine ziload_n C dX8_person_42 rfl ?_
      refine zconst (v := -1) C dX8_person_43 (by decide) ?_
      refine zicmp_ne (tgt := 56) C dX8_person_44 (by decide) (fun h44 => ?_) (fun h44 => by first | exact absurd h2 h44 | exact absurd h44 h2)
      refine zconst (v := 0) C dX8_person_56 (by decide) ?_
      refine zistore (L1 := [_, _, _, _, _, _, _, _]) C dX8_person_57 rfl (Nat.le_of_ble_eq_true rfl) ?_
      refine ziload C dX8_person_59 rfl ?_
      refine zif_eq_t (tgt := 112) C dX8_person_61 (by decide) (by decide) ?_
      refine zconst (v := 0) C dX8_person_112 (by decide) ?_
      refine zistore (L1 := [_, _, _, _, _, _, _, _]) C dX8_person_113 rfl (Nat.le_of_ble_eq_true rfl) ?_
      refine zaload_n C dX8_person_115 rfl ?_
      refine ziload C dX8_person_116 rfl ?_
      refine zif_ne_f (tgt := 125) C dX8_person_118 (by decide) (by decide) ?_
      refine zconst (v := 1) C dX8_person_121 (by decide) ?_
      refine zgoto (tgt := 148) C dX8_person_122 (by decide) ?_
      refine zcallV C (m_holds 1 (by decide) M hR) hy_X8_holds hv_X8_holds hl_X8_157 hR.1 rfl rfl rfl rfl (by decide) (by decide) (by omega) (by omega) rfl (by exact Nat.le_of_ble_eq_true rfl) dX8_person_148 (fun v148 M hp148 => ?_)
      obtain ⟨S1, ⟨rfl, hs⟩, hR⟩ := hp148
      rw [hs] at hR
      clear hs
      refine zif_ne_f (tgt := 156) C dX8_person_151 (by decide) (by decide) ?_
      refine zconst (v := 0) C dX8_person_154 (by decide) ?_
      exact zend_i C hE dX8_person_155 (by omega) (by omega) ⟨_, by first | (simp [o_person, perS, bornF, okc, nI_pred, zsA_g, zsN_g, zsN_2, zsA_1, zsA_c, zsA_l, zsL_g, zsL_1, zsL_c, zsL_a, zsN_N, courtOn_th, faithAt_th, lawOf_th, ruleOn_th, isGrown_th, canWit_th, lasting_th, isMinor_th, isWonAt_th, canJudge_th, canTest_th, heard_th, bothLive_th, lowestMarriage_th, kids_th, h2, h10]; done) | (simp_all [o_person, perS, bornF, okc, nI_pred, zsA_g, zsN_g, zsN_2, zsA_1, zsA_c, zsA_l, zsL_g, zsL_1, zsL_c, zsL_a, zsN_N, courtOn_th, faithAt_th, lawOf_th, ruleOn_th, isGrown_th, canWit_th, lasting_th, isMinor_th, isWonAt_th, canJudge_th, canTest_th, heard_th, bothLive_th, lowestMarriage_th, kids_th, h2, h10]; done), hR⟩
    · replace h10 := b2i_n0.mp h10
      obtain ⟨mn, hmn, rfl⟩ := zix_of h10 (by omega)
      have emn := nI_clamp (show mn < 2 ^ 31 by omega)
      refine ziload_n C dX8_person_13 rfl ?_
      refine zconst (v := -1) C dX8_person_14 (by decide) ?_
      refine zicmp_eq (tgt := 26) C dX8_person_15 (by decide) (fun h15 => ?_) (fun h15 => ?_)
      · refine zaload_n C dX8_person_26 rfl ?_
        refine ziload C dX8_person_27 rfl ?_
        refine zcallV C (m_isCourt its (by omega) M hR) hy_X8_isCourt hv_X8_isCourt hl_X8_174 hR.1 rfl rfl rfl rfl (by decide) (by decide) (by omega) (by omega) rfl (by exact Nat.le_of_ble_eq_true rfl) dX8_person_29 (fun v29 M hp29 => ?_)
        obtain ⟨S1, ⟨rfl, hs⟩, hR⟩ := hp29
        rw [hs] at hR
        clear hs
        refine zif_eq (tgt := 39) C dX8_person_32 (by decide) (fun h32 => ?_) (fun h32 => ?_)
        · replace h32 := b2i_0.mp h32
          refine zconst (v := 0) C dX8_person_39 (by decide) ?_
          refine zistore (L1 := [_, _, _, _, _, _, _, _]) C dX8_person_40 rfl (Nat.le_of_ble_eq_true rfl) ?_
          refine ziload_n C dX8_person_42 rfl ?_
          refine zconst (v := -1) C dX8_person_43 (by decide) ?_
          refine zicmp_ne (tgt := 56) C dX8_person_44 (by decide) (fun h44 => ?_) (fun h44 => by first | exact absurd h2 h44 | exact absurd h44 h2)
          refine zconst (v := 0) C dX8_person_56 (by decide) ?_
          refine zistore (L1 := [_, _, _, _, _, _, _, _]) C dX8_person_57 rfl (Nat.le_of_ble_eq_true rfl) ?_
          refine ziload C dX8_person_59 rfl ?_
          refine zif_eq_t (tgt := 112) C dX8_person_61 (by decide) (by decide) ?_
          refine zconst (v := 0) C dX8_person_112 (by decide) ?_
          refine zistore (L1 := [_, _, _, _, _, _, _, _]) C dX8_person_113 rfl (Nat.le_of_ble_eq_true rfl) ?_
          refine zaload_n C dX8_person_115 rfl ?_
          refine ziload C dX8_person_116 rfl ?_
          refine zif_ne_f (tgt := 125) C dX8_person_118 (by decide) (by decide) ?_
          refine zconst (v := 1) C dX8_person_121 (by decide) ?_
          refine zgoto (tgt := 148) C dX8_person_122 (by decide) ?_
          refine zcallV C (m_holds 1 (by decide) M hR) hy_X8_holds hv_X8_holds hl_X8_157 hR.1 rfl rfl rfl rfl (by decide) (by decide) (by omega) (by omega) rfl (by exact Nat.le_of_ble_eq_true rfl) dX8_person_148 (fun v148 M hp148 => ?_)
          obtain ⟨S1, ⟨rfl, hs⟩, hR⟩ := hp148
          rw [hs] at hR
          clear hs
          refine zif_ne_f (tgt := 156) C dX8_person_151 (by decide) (by decide) ?_
          refine zconst (v := 0) C dX8_person_154 (by decide) ?_
          exact zend_i C hE dX8_person_155 (by omega) (by omega) ⟨_, by first | (simp [o_person, perS, bornF, okc, nI_pred, zsA_g, zsN_g, zsN_2, zsA_1, zsA_c, zsA_l, zsL_g, zsL_1, zsL_c, zsL_a, zsN_N, courtOn_th, faithAt_th, lawOf_th, ruleOn_th, isGrown_th, canWit_th, lasting_th, isMinor_th, isWonAt_th, canJudge_th, canTest_th, heard_th, bothLive_th, lowestMarriage_th, kids_th, h2, h10, emn, h15, h32]; done) | (simp_all [o_person, perS, bornF, okc, nI_pred, zsA_g, zsN_g, zsN_2, zsA_1, zsA_c, zsA_l, zsL_g, zsL_1, zsL_c, zsL_a, zsN_N, courtOn_th, faithAt_th, lawOf_th, ruleOn_th, isGrown_th, canWit_th, lasting_th, isMinor_th, isWonAt_th, canJudge_th, canTest_th, heard_th, bothLive_th, lowestMarriage_th, kids_th, h2, h10, emn, h15, h32]; done), hR⟩
        · replace h32 := b2i_n0.mp h32
          refine zconst (v := 1) C dX8_person_35 (by decide) ?_
          refine zgoto (tgt := 40) C dX8_person_36 (by decide) ?_
          refine zistore (L1 := [_, _, _, _, _, _, _, _]) C dX8_person_40 rfl (Nat.le_of_ble_eq_true rfl) ?_
          refine ziload_n C dX8_person_42 rfl ?_
          refine zconst (v := -1) C dX8_person_43 (by decide) ?_
          refine zicmp_ne (tgt := 56) C dX8_person_44 (by decide) (fun h44 => ?_) (fun h44 => by first | exact absurd h2 h44 | exact absurd h44 h2)
          refine zconst (v := 0) C dX8_person_56 (by decide) ?_
          refine zistore (L1 := [_, _, _, _, _, _, _, _]) C dX8_person_57 rfl (Nat.le_of_ble_eq_true rfl) ?_
          refine ziload C dX8_person_59 rfl ?_
          refine zif_eq_f (tgt := 112) C dX8_person_61 (by decide) (by decide) ?_
          refine ziload_n C dX8_person_64 rfl ?_
          refine zconst (v := -1) C dX8_person_65 (by decide) ?_
          refine zicmp_eq (tgt := 78) C dX8_person_66 (by decide) (fun h66 => by first | exact absurd h66 h2 | exact absurd h2 h66) (fun h66 => ?_)
          refine zaload_n C dX8_person_69 rfl ?_
          refine zmga C hR hf_X8_34 rfl dX8_person_70 ?_
          refine ziload_n C dX8_person_73 rfl ?_
          refine zmza C hR rfl rfl rfl (show _ < 40 from by omega) dX8_person_74 ?_
          refine zif_ne (tgt := 112) C dX8_person_75 (by decide) (fun h75 => ?_) (fun h75 => ?_)
          · refine zconst (v := 0) C dX8_person_112 (by decide) ?_
            refine zistore (L1 := [_, _, _, _, _, _, _, _]) C dX8_person_113 rfl (Nat.le_of_ble_eq_true rfl) ?_
            refine zaload_n C dX8_person_115 rfl ?_
            refine ziload C dX8_person_116 rfl ?_
            refine zif_ne_t (tgt := 125) C dX8_person_118 (by decide) (by decide) ?_
            refine ziload C dX8_person_125 rfl ?_
            refine zif_ne_f (tgt := 134) C dX8_person_127 (by decide) (by decide) ?_
            refine zconst (v := 2) C dX8_person_130 (by decide) ?_
            refine zgoto (tgt := 148) C dX8_person_131 (by decide) ?_
            refine zcallV C (m_holds 2 (by decide) M hR) hy_X8_holds hv_X8_holds hl_X8_157 hR.1 rfl rfl rfl rfl (by decide) (by decide) (by omega) (by omega) rfl (by exact Nat.le_of_ble_eq_true rfl) dX8_person_148 (fun v148 M hp148 => ?_)
            obtain ⟨S1, ⟨rfl, hs⟩, hR⟩ := hp148
            rw [hs] at hR
            clear hs
            refine zif_ne_f (tgt := 156) C dX8_person_151 (by decide) (by decide) ?_
            refine zconst (v := 0) C dX8_person_154 (by decide) ?_
            exact zend_i C hE dX8_person_155 (by omega) (by omega) ⟨_, by first | (simp [o_person, perS, bornF, okc, nI_pred, zsA_g, zsN_g, zsN_2, zsA_1, zsA_c, zsA_l, zsL_g, zsL_1, zsL_c, zsL_a, zsN_N, courtOn_th, faithAt_th, lawOf_th, ruleOn_th, isGrown_th, canWit_th, lasting_th, isMinor_th, isWonAt_th, canJudge_th, canTest_th, heard_th, bothLive_th, lowestMarriage_th, kids_th, h2, h10, emn, h15, h32, h75]; done) | (simp_all [o_person, perS, bornF, okc, nI_pred, zsA_g, zsN_g, zsN_2, zsA_1, zsA_c, zsA_l, zsL_g, zsL_1, zsL_c, zsL_a, zsN_N, courtOn_th, faithAt_th, lawOf_th, ruleOn_th, isGrown_th, canWit_th, lasting_th, isMinor_th, isWonAt_th, canJudge_th, canTest_th, heard_th, bothLive_th, lowestMarriage_th, kids_th, h2, h10, emn, h15, h32, h75]; done), hR⟩
          · refine ziload_n C dX8_person_78 rfl ?_
            refine zconst (v := -1) C dX8_person_79 (by decide) ?_
            refine zicmp_eq (tgt := 92) C dX8_person_80 (by decide) (fun h80 => ?_) (fun h80 => by first | exact absurd h15 h80 | exact absurd h80 h15)
            refine ziload C dX8_person_92 rfl ?_
            refine ziload C dX8_person_94 rfl ?_
            refine zconst (v := -1) C dX8_person_96 (by decide) ?_
            refine zicmp_eq (tgt := 104) C dX8_person_97 (by decide) (fun h97 => ?_) (fun h97 => ?_)
            · refine zconst (v := 0) C dX8_person_104 (by decide) ?_
              refine zicmp_ne (tgt := 112) C dX8_person_105 (by decide) (fun h105 => by first | exact absurd h105 (by decide) | exact absurd (by decide) h105) (fun h105 => ?_)
              refine zconst (v := 1) C dX8_person_108 (by decide) ?_
              refine zgoto (tgt := 113) C dX8_person_109 (by decide) ?_
              refine zistore (L1 := [_, _, _, _, _, _, _, _]) C dX8_person_113 rfl (Nat.le_of_ble_eq_true rfl) ?_
              refine zaload_n C dX8_person_115 rfl ?_
              refine ziload C dX8_person_116 rfl ?_
              refine zif_ne_t (tgt := 125) C dX8_person_118 (by decide) (by decide) ?_
              refine ziload C dX8_person_125 rfl ?_
              refine zif_ne_t (tgt := 134) C dX8_person_127 (by decide) (by decide) ?_
              refine zaload_n C dX8_person_134 rfl ?_
              refine zmgi C hR hf_X8_145 rfl dX8_person_135 ?_
              refine zbipush (v := 40) C dX8_person_138 (by decide) ?_
              refine zicmp_ne (tgt := 147) C dX8_person_140 (by decide) (fun h140 => ?_) (fun h140 => ?_)
              · replace h140 := zni_n (b := 40) h140
                refine zconst (v := 0) C dX8_person_147 (by decide) ?_
                refine zcallV C (m_holds 0 (by decide) M hR) hy_X8_holds hv_X8_holds hl_X8_157 hR.1 rfl rfl rfl rfl (by decide) (by decide) (by omega) (by omega) rfl (by exact Nat.le_of_ble_eq_true rfl) dX8_person_148 (fun v148 M hp148 => ?_)
                obtain ⟨S1, ⟨rfl, hs⟩, hR⟩ := hp148
                rw [hs] at hR
                clear hs
                refine zif_ne_t (tgt := 156) C dX8_person_151 (by decide) (by decide) ?_
                refine zaload_n C dX8_person_156 rfl ?_
                refine zmga C hR hf_X8_34 rfl dX8_person_157 ?_
                refine zaload_n C dX8_person_160 rfl ?_
                refine zmgi C hR hf_X8_145 rfl dX8_person_161 ?_
                refine ziload_n C dX8_person_164 rfl ?_
                refine zmzs (i0 := S.1 13) C hR rfl rfl rfl (show _ < 40 from by omega) (b2i_b man) dX8_person_165 (fun M hR => ?_)
                refine zaload_n C dX8_person_166 rfl ?_
                refine zmga C hR hf_X8_38 rfl dX8_person_167 ?_
                refine zaload_n C dX8_person_170 rfl ?_
                refine zmgi C hR hf_X8_145 rfl dX8_person_171 ?_
                refine ziload_n C dX8_person_174 rfl ?_
                refine zmis (i0 := S.1 13) C hR rfl rfl rfl (show _ < 40 from by omega) dX8_person_175 (fun M hR => ?_)
                refine zaload_n C dX8_person_176 rfl ?_
                refine zmga C hR hf_X8_41 rfl dX8_person_177 ?_
                refine zaload_n C dX8_person_180 rfl ?_
                refine zmgi C hR hf_X8_145 rfl dX8_person_181 ?_
                refine ziload_n C dX8_person_184 rfl ?_
                refine zmis (i0 := S.1 13) C hR rfl rfl rfl (show _ < 40 from by omega) dX8_person_185 (fun M hR => ?_)
                refine zaload_n C dX8_person_186 rfl ?_
                refine zmga C hR hf_X8_44 rfl dX8_person_187 ?_
                refine zaload_n C dX8_person_190 rfl ?_
                refine zmgi C hR hf_X8_145 rfl dX8_person_191 ?_
                refine zaload_n C dX8_person_194 rfl ?_
                refine zmgi C hR hf_X8_154 rfl dX8_person_195 ?_
                refine zmis (i0 := S.1 13) C hR rfl rfl rfl (show _ < 40 from by omega) dX8_person_198 (fun M hR => ?_)
                refine zaload_n C dX8_person_199 rfl ?_
                refine zmga C hR hf_X8_61 rfl dX8_person_200 ?_
                refine zaload_n C dX8_person_203 rfl ?_
                refine zmgi C hR hf_X8_145 rfl dX8_person_204 ?_
                refine zconst (v := -1) C dX8_person_207 (by decide) ?_
                refine zmis (i0 := S.1 13) C hR rfl rfl rfl (show _ < 40 from by omega) dX8_person_208 (fun M hR => ?_)
                refine zaload_n C dX8_person_209 rfl ?_
                refine zmga C hR hf_X8_64 rfl dX8_person_210 ?_
                refine zaload_n C dX8_person_213 rfl ?_
                refine zmgi C hR hf_X8_145 rfl dX8_person_214 ?_
                refine zconst (v := -1) C dX8_person_217 (by decide) ?_
                refine zmis (i0 := S.1 13) C hR rfl rfl rfl (show _ < 40 from by omega) dX8_person_218 (fun M hR => ?_)
                refine zaload_n C dX8_person_219 rfl ?_
                refine zaload_n C dX8_person_220 rfl ?_
                refine zmgi C hR hf_X8_145 rfl dX8_person_221 ?_
                refine ziload C dX8_person_224 rfl ?_
                refine zif_eq_t (tgt := 234) C dX8_person_226 (by decide) (by decide) ?_
                refine zaload_n C dX8_person_234 rfl ?_
                refine ziload_n C dX8_person_235 rfl ?_
                refine zconst (v := -1) C dX8_person_236 (by decide) ?_
                refine zicmp_eq (tgt := 244) C dX8_person_237 (by decide) (fun h237 => ?_) (fun h237 => by first | exact absurd h15 h237 | exact absurd h237 h15)
                refine ziload_n C dX8_person_244 rfl ?_
                refine zaload_n C dX8_person_245 rfl ?_
                refine zmgi C hR hf_X8_154 rfl dX8_person_246 ?_
                refine zcallV C (m_faithAt (S := perA (th S 0) (b2i man) (nI mn) fa) mn (nI (S.1 1)) (by omega) (hP mn hmn).1 M hR) hy_X8_faithOn hv_X8_faithOn hl_X8_188 hR.1 rfl rfl rfl rfl (by decide) (by decide) (by omega) (by omega) rfl (by exact Nat.le_of_ble_eq_true rfl) dX8_person_249 (fun v249 M hp249 => ?_)
                obtain ⟨S1, ⟨hv, hs⟩, hR⟩ := hp249
                have hv : v249 = faithAt S mn (nI (S.1 1)) := hv
                subst hv
                rw [hs] at hR
                clear hs
                refine zcallV C (m_takes (S := perA (th S 0) (b2i man) (nI mn) fa) (S.1 13) 0 (faithAt S mn (nI (S.1 1))) (by omega) (by omega) (hz (by omega)) M hR) hy_X8_takes hv_X8_takes hl_X8_198 hR.1 rfl rfl rfl rfl (by decide) (by decide) (by omega) (by omega) rfl (by exact Nat.le_of_ble_eq_true rfl) dX8_person_252 (fun v252 M hp252 => ?_)
                obtain ⟨S1, hs, hR⟩ := hp252
                rw [hs] at hR
                clear hs
                refine zaload_n C dX8_person_255 rfl ?_
                refine zdup C dX8_person_256 rfl ?_
                refine zmgi C hR hf_X8_145 rfl dX8_person_257 ?_
                refine zconst (v := 1) C dX8_person_260 (by decide) ?_
                refine ziadd C dX8_person_261 ?_
                refine zmpi (v := S.1 13 + 1) C hR hf_X8_145 rfl rfl rfl (nI_1 (S.1 13)) dX8_person_262 (fun M hR => ?_)
                refine zaload_n C dX8_person_265 rfl ?_
                refine zmgi C hR hf_X8_145 rfl dX8_person_266 ?_
                refine zconst (v := 1) C dX8_person_269 (by decide) ?_
                refine zisub C dX8_person_270 ?_
                exact zend_i C hE dX8_person_271 (by omega) (by omega) ⟨_, by first | (simp [o_person, perS, bornF, okc, nI_pred, zsA_g, zsN_g, zsN_2, zsA_1, zsA_c, zsA_l, zsL_g, zsL_1, zsL_c, zsL_a, zsN_N, courtOn_th, faithAt_th, lawOf_th, ruleOn_th, isGrown_th, canWit_th, lasting_th, isMinor_th, isWonAt_th, canJudge_th, canTest_th, heard_th, bothLive_th, lowestMarriage_th, kids_th, h2, h10, emn, h15, h32, h75, h97, h140]; done) | (simp_all [o_person, perS, bornF, okc, nI_pred, zsA_g, zsN_g, zsN_2, zsA_1, zsA_c, zsA_l, zsL_g, zsL_1, zsL_c, zsL_a, zsN_N, courtOn_th, faithAt_th, lawOf_th, ruleOn_th, isGrown_th, canWit_th, lasting_th, isMinor_th, isWonAt_th, canJudge_th, canTest_th, heard_th, bothLive_th, lowestMarriage_th, kids_th, h2, h10, emn, h15, h32, h75, h97, h140]; done), hR⟩
              · replace h140 := zni_e (b := 40) (by omega) (by decide) h140
                refine zconst (v := 3) C dX8_person_143 (by decide) ?_
                refine zgoto (tgt := 148) C dX8_person_144 (by decide) ?_
                refine zcallV C (m_holds 3 (by decide) M hR) hy_X8_holds hv_X8_holds hl_X8_157 hR.1 rfl rfl rfl rfl (by decide) (by decide) (by omega) (by omega) rfl (by exact Nat.le_of_ble_eq_true rfl) dX8_person_148 (fun v148 M hp148 => ?_)
                obtain ⟨S1, ⟨rfl, hs⟩, hR⟩ := hp148
                rw [hs] at hR
                clear hs
                refine zif_ne_f (tgt := 156) C dX8_person_151 (by decide) (by decide) ?_
                refine zconst (v := 0) C dX8_person_154 (by decide) ?_
                exact zend_i C hE dX8_person_155 (by omega) (by omega) ⟨_, by first | (simp [o_person, perS, bornF, okc, nI_pred, zsA_g, zsN_g, zsN_2, zsA_1, zsA_c, zsA_l, zsL_g, zsL_1, zsL_c, zsL_a, zsN_N, courtOn_th, faithAt_th, lawOf_th, ruleOn_th, isGrown_th, canWit_th, lasting_th, isMinor_th, isWonAt_th, canJudge_th, canTest_th, heard_th, bothLive_th, lowestMarriage_th, kids_th, h2, h10, emn, h15, h32, h75, h97, h140]; done) | (simp_all [o_person, perS, bornF, okc, nI_pred, zsA_g, zsN_g, zsN_2, zsA_1, zsA_c, zsA_l, zsL_g, zsL_1, zsL_c, zsL_a, zsN_N, courtOn_th, faithAt_th, lawOf_th, ruleOn_th, isGrown_th, canWit_th, lasting_th, isMinor_th, isWonAt_th, canJudge_th, canTest_th, heard_th, bothLive_th, lowestMarriage_th, kids_th, h2, h10, emn, h15, h32, h75, h97, h140]; done), hR⟩
            · refine zconst (v := 1) C dX8_person_100 (by decide) ?_
              refine zgoto (tgt := 105) C dX8_person_101 (by decide) ?_
              refine zicmp_ne (tgt := 112) C dX8_person_105 (by decide) (fun h105 => ?_) (fun h105 => by first | exact absurd (by decide) h105 | exact absurd h105 (by decide))
              refine zconst (v := 0) C dX8_person_112 (by decide) ?_
              refine zistore (L1 := [_, _, _, _, _, _, _, _]) C dX8_person_113 rfl (Nat.le_of_ble_eq_true rfl) ?_
              refine zaload_n C dX8_person_115 rfl ?_
              refine ziload C dX8_person_116 rfl ?_
              refine zif_ne_t (tgt := 125) C dX8_person_118 (by decide) (by decide) ?_
              refine ziload C dX8_person_125 rfl ?_
              refine zif_ne_f (tgt := 134) C dX8_person_127 (by decide) (by decide) ?_
              refine zconst (v := 2) C dX8_person_130 (by decide) ?_
              refine zgoto (tgt := 148) C dX8_person_131 (by decide) ?_
              refine zcallV C (m_holds 2 (by decide) M hR) hy_X8_holds hv_X8_holds hl_X8_157 hR.1 rfl rfl rfl rfl (by decide) (by decide) (by omega) (by omega) rfl (by exact Nat.le_of_ble_eq_true rfl) dX8_person_148 (fun v148 M hp148 => ?_)
              obtain ⟨S1, ⟨rfl, hs⟩, hR⟩ := hp148
              rw [hs] at hR
              clear hs
              refine zif_ne_f (tgt := 156) C dX8_person_151 (by decide) (by decide) ?_
              refine zconst (v := 0) C dX8_person_154 (by decide) ?_
              exact zend_i C hE dX8_person_155 (by omega) (by omega) ⟨_, by first | (simp [o_person, perS, bornF, okc, nI_pred, zsA_g, zsN_g, zsN_2, zsA_1, zsA_c, zsA_l, zsL_g, zsL_1, zsL_c, zsL_a, zsN_N, courtOn_th, faithAt_th, lawOf_th, ruleOn_th, isGrown_th, canWit_th, lasting_th, isMinor_th, isWonAt_th, canJudge_th, canTest_th, heard_th, bothLive_th, lowestMarriage_th, kids_th, h2, h10, emn, h15, h32, h75, h97]; done) | (simp_all [o_person, perS, bornF, okc, nI_pred, zsA_g, zsN_g, zsN_2, zsA_1, zsA_c, zsA_l, zsL_g, zsL_1, zsL_c, zsL_a, zsN_N, courtOn_th, faithAt_th, lawOf_th, ruleOn_th, isGrown_th, canWit_th, lasting_th, isMinor_th, isWonAt_th, canJudge_th, canTest_th, heard_th, bothLive_th, lowestMarriage_th, kids_th, h2, h10, emn, h15, h32, h75, h97]; done), hR⟩
      · refine zaload_n C dX8_person_18 rfl ?_
        refine ziload_n C dX8_person_19 rfl ?_
        refine zcallV C (m_isPerson fa (by omega) M hR) hy_X8_isPerson hv_X8_isPerson hl_X8_191 hR.1 rfl rfl rfl rfl (by decide) (by decide) (by omega) (by omega) rfl (by exact Nat.le_of_ble_eq_true rfl) dX8_person_20 (fun v20 M hp20 => ?_)
        obtain ⟨S1, ⟨rfl, hs⟩, hR⟩ := hp20
        rw [hs] at hR
        clear hs
        refine zif_eq (tgt := 39) C dX8_person_23 (by decide) (fun h23 => ?_) (fun h23 => ?_)
        · replace h23 := b2i_0.mp h23
          refine zconst (v := 0) C dX8_person_39 (by decide) ?_
          refine zistore (L1 := [_, _, _, _, _, _, _, _]) C dX8_person_40 rfl (Nat.le_of_ble_eq_true rfl) ?_
          refine ziload_n C dX8_person_42 rfl ?_
          refine zconst (v := -1) C dX8_person_43 (by decide) ?_
          refine zicmp_ne (tgt := 56) C dX8_person_44 (by decide) (fun h44 => ?_) (fun h44 => by first | exact absurd h2 h44 | exact absurd h44 h2)
          refine zconst (v := 0) C dX8_person_56 (by decide) ?_
          refine zistore (L1 := [_, _, _, _, _, _, _, _]) C dX8_person_57 rfl (Nat.le_of_ble_eq_true rfl) ?_
          refine ziload C dX8_person_59 rfl ?_
          refine zif_eq_t (tgt := 112) C dX8_person_61 (by decide) (by decide) ?_
          refine zconst (v := 0) C dX8_person_112 (by decide) ?_
          refine zistore (L1 := [_, _, _, _, _, _, _, _]) C dX8_person_113 rfl (Nat.le_of_ble_eq_true rfl) ?_
          refine zaload_n C dX8_person_115 rfl ?_
          refine ziload C dX8_person_116 rfl ?_
          refine zif_ne_f (tgt := 125) C dX8_person_118 (by decide) (by decide) ?_
          refine zconst (v := 1) C dX8_person_121 (by decide) ?_
          refine zgoto (tgt := 148) C dX8_person_122 (by decide) ?_
          refine zcallV C (m_holds 1 (by decide) M hR) hy_X8_holds hv_X8_holds hl_X8_157 hR.1 rfl rfl rfl rfl (by decide) (by decide) (by omega) (by omega) rfl (by exact Nat.le_of_ble_eq_true rfl) dX8_person_148 (fun v148 M hp148 => ?_)
          obtain ⟨S1, ⟨rfl, hs⟩, hR⟩ := hp148
          rw [hs] at hR
          clear hs
          refine zif_ne_f (tgt := 156) C dX8_person_151 (by decide) (by decide) ?_
          refine zconst (v := 0) C dX8_person_154 (by decide) ?_
          exact zend_i C hE dX8_person_155 (by omega) (by omega) ⟨_, by first | (simp [o_person, perS, bornF, okc, nI_pred, zsA_g, zsN_g, zsN_2, zsA_1, zsA_c, zsA_l, zsL_g, zsL_1, zsL_c, zsL_a, zsN_N, courtOn_th, faithAt_th, lawOf_th, ruleOn_th, isGrown_th, canWit_th, lasting_th, isMinor_th, isWonAt_th, canJudge_th, canTest_th, heard_th, bothLive_th, lowestMarriage_th, kids_th, h2, h10, emn, h15, h23]; done) | (simp_all [o_person, perS, bornF, okc, nI_pred, zsA_g, zsN_g, zsN_2, zsA_1, zsA_c, zsA_l, zsL_g, zsL_1, zsL_c, zsL_a, zsN_N, courtOn_th, faithAt_th, lawOf_th, ruleOn_th, isGrown_th, canWit_th, lasting_th, isMinor_th, isWonAt_th, canJudge_th, canTest_th, heard_th, bothLive_th, lowestMarriage_th, kids_th, h2, h10, emn, h15, h23]; done), hR⟩
        · replace h23 := b2i_n0.mp h23
          obtain ⟨fn, hfn, rfl⟩ := zix_of h23 (by omega)
          have efn := nI_clamp (show fn < 2 ^ 31 by omega)
          refine zaload_n C dX8_person_26 rfl ?_
          refine ziload C dX8_person_27 rfl ?_
          refine zcallV C (m_isCourt its (by omega) M hR) hy_X8_isCourt hv_X8_isCourt hl_X8_174 hR.1 rfl rfl rfl rfl (by decide) (by decide) (by omega) (by omega) rfl (by exact Nat.le_of_ble_eq_true rfl) dX8_person_29 (fun v29 M hp29 => ?_)
          obtain ⟨S1, ⟨rfl, hs⟩, hR⟩ := hp29
          rw [hs] at hR
          clear hs
          refine zif_eq (tgt := 39) C dX8_person_32 (by decide) (fun h32 => ?_) (fun h32 => ?_)
          · replace h32 := b2i_0.mp h32
            refine zconst (v := 0) C dX8_person_39 (by decide) ?_
            refine zistore (L1 := [_, _, _, _, _, _, _, _]) C dX8_person_40 rfl (Nat.le_of_ble_eq_true rfl) ?_
            refine ziload_n C dX8_person_42 rfl ?_
            refine zconst (v := -1) C dX8_person_43 (by decide) ?_
            refine zicmp_ne (tgt := 56) C dX8_person_44 (by decide) (fun h44 => ?_) (fun h44 => by first | exact absurd h2 h44 | exact absurd h44 h2)
            refine zconst (v := 0) C dX8_person_56 (by decide) ?_
            refine zistore (L1 := [_, _, _, _, _, _, _, _]) C dX8_person_57 rfl (Nat.le_of_ble_eq_true rfl) ?_
            refine ziload C dX8_person_59 rfl ?_
            refine zif_eq_t (tgt := 112) C dX8_person_61 (by decide) (by decide) ?_
            refine zconst (v := 0) C dX8_person_112 (by decide) ?_
            refine zistore (L1 := [_, _, _, _, _, _, _, _]) C dX8_person_113 rfl (Nat.le_of_ble_eq_true rfl) ?_
            refine zaload_n C dX8_person_115 rfl ?_
            refine ziload C dX8_person_116 rfl ?_
            refine zif_ne_f (tgt := 125) C dX8_person_118 (by decide) (by decide) ?_
            refine zconst (v := 1) C dX8_person_121 (by decide) ?_
            refine zgoto (tgt := 148) C dX8_person_122 (by decide) ?_
            refine zcallV C (m_holds 1 (by decide) M hR) hy_X8_holds hv_X8_holds hl_X8_157 hR.1 rfl rfl rfl rfl (by decide) (by decide) (by omega) (by omega) rfl (by exact Nat.le_of_ble_eq_true rfl) dX8_person_148 (fun v148 M hp148 => ?_)
            obtain ⟨S1, ⟨rfl, hs⟩, hR⟩ := hp148
            rw [hs] at hR
            clear hs
            refine zif_ne_f (tgt := 156) C dX8_person_151 (by decide) (by decide) ?_
            refine zconst (v := 0) C dX8_person_154 (by decide) ?_
            exact zend_i C hE dX8_person_155 (by omega) (by omega) ⟨_, by first | (simp [o_person, perS, bornF, okc, nI_pred, zsA_g, zsN_g, zsN_2, zsA_1, zsA_c, zsA_l, zsL_g, zsL_1, zsL_c, zsL_a, zsN_N, courtOn_th, faithAt_th, lawOf_th, ruleOn_th, isGrown_th, canWit_th, lasting_th, isMinor_th, isWonAt_th, canJudge_th, canTest_th, heard_th, bothLive_th, lowestMarriage_th, kids_th, h2, h10, emn, h15, h23, efn, h32]; done) | (simp_all [o_person, perS, bornF, okc, nI_pred, zsA_g, zsN_g, zsN_2, zsA_1, zsA_c, zsA_l, zsL_g, zsL_1, zsL_c, zsL_a, zsN_N, courtOn_th, faithAt_th, lawOf_th, ruleOn_th, isGrown_th, canWit_th, lasting_th, isMinor_th, isWonAt_th, canJudge_th, canTest_th, heard_th, bothLive_th, lowestMarriage_th, kids_th, h2, h10, emn, h15, h23, efn, h32]; done), hR⟩
          · replace h32 := b2i_n0.mp h32
            refine zconst (v := 1) C dX8_person_35 (by decide) ?_
            refine zgoto (tgt := 40) C dX8_person_36 (by decide) ?_
            refine zistore (L1 := [_, _, _, _, _, _, _, _]) C dX8_person_40 rfl (Nat.le_of_ble_eq_true rfl) ?_
            refine ziload_n C dX8_person_42 rfl ?_
            refine zconst (v := -1) C dX8_person_43 (by decide) ?_
            refine zicmp_ne (tgt := 56) C dX8_person_44 (by decide) (fun h44 => ?_) (fun h44 => by first | exact absurd h2 h44 | exact absurd h44 h2)
            refine zconst (v := 0) C dX8_person_56 (by decide) ?_
            refine zistore (L1 := [_, _, _, _, _, _, _, _]) C dX8_person_57 rfl (Nat.le_of_ble_eq_true rfl) ?_
            refine ziload C dX8_person_59 rfl ?_
            refine zif_eq_f (tgt := 112) C dX8_person_61 (by decide) (by decide) ?_
            refine ziload_n C dX8_person_64 rfl ?_
            refine zconst (v := -1) C dX8_person_65 (by decide) ?_
            refine zicmp_eq (tgt := 78) C dX8_person_66 (by decide) (fun h66 => by first | exact absurd h66 h2 | exact absurd h2 h66) (fun h66 => ?_)
            refine zaload_n C dX8_person_69 rfl ?_
            refine zmga C hR hf_X8_34 rfl dX8_person_70 ?_
            refine ziload_n C dX8_person_73 rfl ?_
            refine zmza C hR rfl rfl rfl (show _ < 40 from by omega) dX8_person_74 ?_
            refine zif_ne (tgt := 112) C dX8_person_75 (by decide) (fun h75 => ?_) (fun h75 => ?_)
            · refine zconst (v := 0) C dX8_person_112 (by decide) ?_
              refine zistore (L1 := [_, _, _, _, _, _, _, _]) C dX8_person_113 rfl (Nat.le_of_ble_eq_true rfl) ?_
              refine zaload_n C dX8_person_115 rfl ?_
              refine ziload C dX8_person_116 rfl ?_
              refine zif_ne_t (tgt := 125) C dX8_person_118 (by decide) (by decide) ?_
              refine ziload C dX8_person_125 rfl ?_
              refine zif_ne_f (tgt := 134) C dX8_person_127 (by decide) (by decide) ?_
              refine zconst (v := 2) C dX8_person_130 (by decide) ?_
              refine zgoto (tgt := 148) C dX8_person_131 (by decide) ?_
              refine zcallV C (m_holds 2 (by decide) M hR) hy_X8_holds hv_X8_holds hl_X8_157 hR.1 rfl rfl rfl rfl (by decide) (by decide) (by omega) (by omega) rfl (by exact Nat.le_of_ble_eq_true rfl) dX8_person_148 (fun v148 M hp148 => ?_)
              obtain ⟨S1, ⟨rfl, hs⟩, hR⟩ := hp148
              rw [hs] at hR
              clear hs
              refine zif_ne_f (tgt := 156) C dX8_person_151 (by decide) (by decide) ?_
              refine zconst (v := 0) C dX8_person_154 (by decide) ?_
              exact zend_i C hE dX8_person_155 (by omega) (by omega) ⟨_, by first | (simp [o_person, perS, bornF, okc, nI_pred, zsA_g, zsN_g, zsN_2, zsA_1, zsA_c, zsA_l, zsL_g, zsL_1, zsL_c, zsL_a, zsN_N, courtOn_th, faithAt_th, lawOf_th, ruleOn_th, isGrown_th, canWit_th, lasting_th, isMinor_th, isWonAt_th, canJudge_th, canTest_th, heard_th, bothLive_th, lowestMarriage_th, kids_th, h2, h10, emn, h15, h23, efn, h32, h75]; done) | (simp_all [o_person, perS, bornF, okc, nI_pred, zsA_g, zsN_g, zsN_2, zsA_1, zsA_c, zsA_l, zsL_g, zsL_1, zsL_c, zsL_a, zsN_N, courtOn_th, faithAt_th, lawOf_th, ruleOn_th, isGrown_th, canWit_th, lasting_th, isMinor_th, isWonAt_th, canJudge_th, canTest_th, heard_th, bothLive_th, lowestMarriage_th, kids_th, h2, h10, emn, h15, h23, efn, h32, h75]; done), hR⟩
            · refine ziload_n C dX8_person_78 rfl ?_
              refine zconst (v := -1) C dX8_person_79 (by decide) ?_
              refine zicmp_eq (tgt := 92) C dX8_person_80 (by decide) (fun h80 => by first | exact absurd h80 h15 | exact absurd h15 h80) (fun h80 => ?_)
              refine zaload_n C dX8_person_83 rfl ?_
              refine zmga C hR hf_X8_34 rfl dX8_person_84 ?_
              refine ziload_n C dX8_person_87 rfl ?_
              refine zmza C hR rfl rfl rfl (show _ < 40 from by omega) dX8_person_88 ?_
              refine zif_eq (tgt := 112) C dX8_person_89 (by decide) (fun h89 => ?_) (fun h89 => ?_)
              · refine zconst (v := 0) C dX8_person_112 (by decide) ?_
                refine zistore (L1 := [_, _, _, _, _, _, _, _]) C dX8_person_113 rfl (Nat.le_of_ble_eq_true rfl) ?_
                refine zaload_n C dX8_person_115 rfl ?_
                refine ziload C dX8_person_116 rfl ?_
                refine zif_ne_t (tgt := 125) C dX8_person_118 (by decide) (by decide) ?_
                refine ziload C dX8_person_125 rfl ?_
                refine zif_ne_f (tgt := 134) C dX8_person_127 (by decide) (by decide) ?_
                refine zconst (v := 2) C dX8_person_130 (by decide) ?_
                refine zgoto (tgt := 148) C dX8_person_131 (by decide) ?_
                refine zcallV C (m_holds 2 (by decide) M hR) hy_X8_holds hv_X8_holds hl_X8_157 hR.1 rfl rfl rfl rfl (by decide) (by decide) (by omega) (by omega) rfl (by exact Nat.le_of_ble_eq_true rfl) dX8_person_148 (fun v148 M hp148 => ?_)
                obtain ⟨S1, ⟨rfl, hs⟩, hR⟩ := hp148
                rw [hs] at hR
                clear hs
                refine zif_ne_f (tgt := 156) C dX8_person_151 (by decide) (by decide) ?_
                refine zconst (v := 0) C dX8_person_154 (by decide) ?_
                exact zend_i C hE dX8_person_155 (by omega) (by omega) ⟨_, by first | (simp [o_person, perS, bornF, okc, nI_pred, zsA_g, zsN_g, zsN_2, zsA_1, zsA_c, zsA_l, zsL_g, zsL_1, zsL_c, zsL_a, zsN_N, courtOn_th, faithAt_th, lawOf_th, ruleOn_th, isGrown_th, canWit_th, lasting_th, isMinor_th, isWonAt_th, canJudge_th, canTest_th, heard_th, bothLive_th, lowestMarriage_th, kids_th, h2, h10, emn, h15, h23, efn, h32, h75, h89]; done) | (simp_all [o_person, perS, bornF, okc, nI_pred, zsA_g, zsN_g, zsN_2, zsA_1, zsA_c, zsA_l, zsL_g, zsL_1, zsL_c, zsL_a, zsN_N, courtOn_th, faithAt_th, lawOf_th, ruleOn_th, isGrown_th, canWit_th, lasting_th, isMinor_th, isWonAt_th, canJudge_th, canTest_th, heard_th, bothLive_th, lowestMarriage_th, kids_th, h2, h10, emn, h15, h23, efn, h32, h75, h89]; done), hR⟩
              · refine ziload C dX8_person_92 rfl ?_
                refine ziload C dX8_person_94 rfl ?_
                refine zconst (v := -1) C dX8_person_96 (by decide) ?_
                refine zicmp_eq (tgt := 104) C dX8_person_97 (by decide) (fun h97 => ?_) (fun h97 => ?_)
                · refine zconst (v := 0) C dX8_person_104 (by decide) ?_
                  refine zicmp_ne (tgt := 112) C dX8_person_105 (by decide) (fun h105 => by first | exact absurd h105 (by decide) | exact absurd (by decide) h105) (fun h105 => ?_)
                  refine zconst (v := 1) C dX8_person_108 (by decide) ?_
                  refine zgoto (tgt := 113) C dX8_person_109 (by decide) ?_
                  refine zistore (L1 := [_, _, _, _, _, _, _, _]) C dX8_person_113 rfl (Nat.le_of_ble_eq_true rfl) ?_
                  refine zaload_n C dX8_person_115 rfl ?_
                  refine ziload C dX8_person_116 rfl ?_
                  refine zif_ne_t (tgt := 125) C dX8_person_118 (by decide) (by decide) ?_
                  refine ziload C dX8_person_125 rfl ?_
                  refine zif_ne_t (tgt := 134) C dX8_person_127 (by decide) (by decide) ?_
                  refine zaload_n C dX8_person_134 rfl ?_
                  refine zmgi C hR hf_X8_145 rfl dX8_person_135 ?_
                  refine zbipush (v := 40) C dX8_person_138 (by decide) ?_
                  refine zicmp_ne (tgt := 147) C dX8_person_140 (by decide) (fun h140 => ?_) (fun h140 => ?_)
                  · replace h140 := zni_n (b := 40) h140
                    refine zconst (v := 0) C dX8_person_147 (by decide) ?_
                    refine zcallV C (m_holds 0 (by decide) M hR) hy_X8_holds hv_X8_holds hl_X8_157 hR.1 rfl rfl rfl rfl (by decide) (by decide) (by omega) (by omega) rfl (by exact Nat.le_of_ble_eq_true rfl) dX8_person_148 (fun v148 M hp148 => ?_)
                    obtain ⟨S1, ⟨rfl, hs⟩, hR⟩ := hp148
                    rw [hs] at hR
                    clear hs
                    refine zif_ne_t (tgt := 156) C dX8_person_151 (by decide) (by decide) ?_
                    refine zaload_n C dX8_person_156 rfl ?_
                    refine zmga C hR hf_X8_34 rfl dX8_person_157 ?_
                    refine zaload_n C dX8_person_160 rfl ?_
                    refine zmgi C hR hf_X8_145 rfl dX8_person_161 ?_
                    refine ziload_n C dX8_person_164 rfl ?_
                    refine zmzs (i0 := S.1 13) C hR rfl rfl rfl (show _ < 40 from by omega) (b2i_b man) dX8_person_165 (fun M hR => ?_)
                    refine zaload_n C dX8_person_166 rfl ?_
                    refine zmga C hR hf_X8_38 rfl dX8_person_167 ?_
                    refine zaload_n C dX8_person_170 rfl ?_
                    refine zmgi C hR hf_X8_145 rfl dX8_person_171 ?_
                    refine ziload_n C dX8_person_174 rfl ?_
                    refine zmis (i0 := S.1 13) C hR rfl rfl rfl (show _ < 40 from by omega) dX8_person_175 (fun M hR => ?_)
                    refine zaload_n C dX8_person_176 rfl ?_
                    refine zmga C hR hf_X8_41 rfl dX8_person_177 ?_
                    refine zaload_n C dX8_person_180 rfl ?_
                    refine zmgi C hR hf_X8_145 rfl dX8_person_181 ?_
                    refine ziload_n C dX8_person_184 rfl ?_
                    refine zmis (i0 := S.1 13) C hR rfl rfl rfl (show _ < 40 from by omega) dX8_person_185 (fun M hR => ?_)
                    refine zaload_n C dX8_person_186 rfl ?_
                    refine zmga C hR hf_X8_44 rfl dX8_person_187 ?_
                    refine zaload_n C dX8_person_190 rfl ?_
                    refine zmgi C hR hf_X8_145 rfl dX8_person_191 ?_
                    refine zaload_n C dX8_person_194 rfl ?_
                    refine zmgi C hR hf_X8_154 rfl dX8_person_195 ?_
                    refine zmis (i0 := S.1 13) C hR rfl rfl rfl (show _ < 40 from by omega) dX8_person_198 (fun M hR => ?_)
                    refine zaload_n C dX8_person_199 rfl ?_
                    refine zmga C hR hf_X8_61 rfl dX8_person_200 ?_
                    refine zaload_n C dX8_person_203 rfl ?_
                    refine zmgi C hR hf_X8_145 rfl dX8_person_204 ?_
                    refine zconst (v := -1) C dX8_person_207 (by decide) ?_
                    refine zmis (i0 := S.1 13) C hR rfl rfl rfl (show _ < 40 from by omega) dX8_person_208 (fun M hR => ?_)
                    refine zaload_n C dX8_person_209 rfl ?_
                    refine zmga C hR hf_X8_64 rfl dX8_person_210 ?_
                    refine zaload_n C dX8_person_213 rfl ?_
                    refine zmgi C hR hf_X8_145 rfl dX8_person_214 ?_
                    refine zconst (v := -1) C dX8_person_217 (by decide) ?_
                    refine zmis (i0 := S.1 13) C hR rfl rfl rfl (show _ < 40 from by omega) dX8_person_218 (fun M hR => ?_)
                    refine zaload_n C dX8_person_219 rfl ?_
                    refine zaload_n C dX8_person_220 rfl ?_
                    refine zmgi C hR hf_X8_145 rfl dX8_person_221 ?_
                    refine ziload C dX8_person_224 rfl ?_
                    refine zif_eq_t (tgt := 234) C dX8_person_226 (by decide) (by decide) ?_
                    refine zaload_n C dX8_person_234 rfl ?_
                    refine ziload_n C dX8_person_235 rfl ?_
                    refine zconst (v := -1) C dX8_person_236 (by decide) ?_
                    refine zicmp_eq (tgt := 244) C dX8_person_237 (by decide) (fun h237 => by first | exact absurd h237 h15 | exact absurd h15 h237) (fun h237 => ?_)
                    refine ziload_n C dX8_person_240 rfl ?_
                    refine zgoto (tgt := 245) C dX8_person_241 (by decide) ?_
                    refine zaload_n C dX8_person_245 rfl ?_
                    refine zmgi C hR hf_X8_154 rfl dX8_person_246 ?_
                    refine zcallV C (m_faithAt (S := perA (th S 0) (b2i man) (nI mn) (nI fn)) fn (nI (S.1 1)) (by omega) (hP fn hfn).1 M hR) hy_X8_faithOn hv_X8_faithOn hl_X8_188 hR.1 rfl rfl rfl rfl (by decide) (by decide) (by omega) (by omega) rfl (by exact Nat.le_of_ble_eq_true rfl) dX8_person_249 (fun v249 M hp249 => ?_)
                    obtain ⟨S1, ⟨hv, hs⟩, hR⟩ := hp249
                    have hv : v249 = faithAt S fn (nI (S.1 1)) := hv
                    subst hv
                    rw [hs] at hR
                    clear hs
                    refine zcallV C (m_takes (S := perA (th S 0) (b2i man) (nI mn) (nI fn)) (S.1 13) 0 (faithAt S fn (nI (S.1 1))) (by omega) (by omega) (hz (by omega)) M hR) hy_X8_takes hv_X8_takes hl_X8_198 hR.1 rfl rfl rfl rfl (by decide) (by decide) (by omega) (by omega) rfl (by exact Nat.le_of_ble_eq_true rfl) dX8_person_252 (fun v252 M hp252 => ?_)
                    obtain ⟨S1, hs, hR⟩ := hp252
                    rw [hs] at hR
                    clear hs
                    refine zaload_n C dX8_person_255 rfl ?_
                    refine zdup C dX8_person_256 rfl ?_
                    refine zmgi C hR hf_X8_145 rfl dX8_person_257 ?_
                    refine zconst (v := 1) C dX8_person_260 (by decide) ?_
                    refine ziadd C dX8_person_261 ?_
                    refine zmpi (v := S.1 13 + 1) C hR hf_X8_145 rfl rfl rfl (nI_1 (S.1 13)) dX8_person_262 (fun M hR => ?_)
                    refine zaload_n C dX8_person_265 rfl ?_
                    refine zmgi C hR hf_X8_145 rfl dX8_person_266 ?_
                    refine zconst (v := 1) C dX8_person_269 (by decide) ?_
                    refine zisub C dX8_person_270 ?_
                    exact zend_i C hE dX8_person_271 (by omega) (by omega) ⟨_, by first | (simp [o_person, perS, bornF, okc, nI_pred, zsA_g, zsN_g, zsN_2, zsA_1, zsA_c, zsA_l, zsL_g, zsL_1, zsL_c, zsL_a, zsN_N, courtOn_th, faithAt_th, lawOf_th, ruleOn_th, isGrown_th, canWit_th, lasting_th, isMinor_th, isWonAt_th, canJudge_th, canTest_th, heard_th, bothLive_th, lowestMarriage_th, kids_th, h2, h10, emn, h15, h23, efn, h32, h75, h89, h97, h140]; done) | (simp_all [o_person, perS, bornF, okc, nI_pred, zsA_g, zsN_g, zsN_2, zsA_1, zsA_c, zsA_l, zsL_g, zsL_1, zsL_c, zsL_a, zsN_N, courtOn_th, faithAt_th, lawOf_th, ruleOn_th, isGrown_th, canWit_th, lasting_th, isMinor_th, isWonAt_th, canJudge_th, canTest_th, heard_th, bothLive_th, lowestMarriage_th, kids_th, h2, h10, emn, h15, h23, efn, h32, h75, h89, h97, h140]; done), hR⟩
                  · replace h140 := zni_e (b := 40) (by omega) (by decide) h140
                    refine zconst (v := 3) C dX8_person_143 (by decide) ?_
                    refine zgoto (tgt := 148) C dX8_person_144 (by decide) ?_
                    refine zcallV C (m_holds 3 (by decide) M hR) hy_X8_holds hv_X8_holds hl_X8_157 hR.1 rfl rfl rfl rfl (by decide) (by decide) (by omega) (by omega) rfl (by exact Nat.le_of_ble_eq_true rfl) dX8_person_148 (fun v148 M hp148 => ?_)
                    obtain ⟨S1, ⟨rfl, hs⟩, hR⟩ := hp148
                    rw [hs] at hR
                    clear hs
                    refine zif_ne_f (tgt := 156) C dX8_person_151 (by decide) (by decide) ?_
                    refine zconst (v := 0) C dX8_person_154 (by decide) ?_
                    exact zend_i C hE dX8_person_155 (by omega) (by omega) ⟨_, by first | (simp [o_person, perS, bornF, okc, nI_pred, zsA_g, zsN_g, zsN_2, zsA_1, zsA_c, zsA_l, zsL_g, zsL_1, zsL_c, zsL_a, zsN_N, courtOn_th, faithAt_th, lawOf_th, ruleOn_th, isGrown_th, canWit_th, lasting_th, isMinor_th, isWonAt_th, canJudge_th, canTest_th, heard_th, bothLive_th, lowestMarriage_th, kids_th, h2, h10, emn, h15, h23, efn, h32, h75, h89, h97, h140]; done) | (simp_all [o_person, perS, bornF, okc, nI_pred, zsA_g, zsN_g, zsN_2, zsA_1, zsA_c, zsA_l, zsL_g, zsL_1, zsL_c, zsL_a, zsN_N, courtOn_th, faithAt_th, lawOf_th, ruleOn_th, isGrown_th, canWit_th, lasting_th, isMinor_th, isWonAt_th, canJudge_th, canTest_th, heard_th, bothLive_th, lowestMarriage_th, kids_th, h2, h10, emn, h15, h23, efn, h32, h75, h89, h97, h140]; done), hR⟩
                · refine zconst (v := 1) C dX8_person_100 (by decide) ?_
                  refine zgoto (tgt := 105) C dX8_person_101 (by decide) ?_
                  refine zicmp_ne (tgt := 112) C dX8_person_105 (by decide) (fun h105 => ?_) (fun h105 => by first | exact absurd (by decide) h105 | exact absurd h105 (by decide))
                  refine zconst (v := 0) C dX8_person_112 (by decide) ?_
                  refine zistore (L1 := [_, _, _, _, _, _, _, _]) C dX8_person_113 rfl (Nat.le_of_ble_eq_true rfl) ?_
                  refine zaload_n C dX8_person_115 rfl ?_
                  refine ziload C dX8_person_116 rfl ?_
                  refine zif_ne_t (tgt := 125) C dX8_person_118 (by decide) (by decide) ?_
                  refine ziload C dX8_person_125 rfl ?_
                  refine zif_ne_f (tgt := 134) C dX8_person_127 (by decide) (by decide) ?_
                  refine zconst (v := 2) C dX8_person_130 (by decide) ?_
                  refine zgoto (tgt := 148) C dX8_person_131 (by decide) ?_
                  refine zcallV C (m_holds 2 (by decide) M hR) hy_X8_holds hv_X8_holds hl_X8_157 hR.1 rfl rfl rfl rfl (by decide) (by decide) (by omega) (by omega) rfl (by exact Nat.le_of_ble_eq_true rfl) dX8_person_148 (fun v148 M hp148 => ?_)
                  obtain ⟨S1, ⟨rfl, hs⟩, hR⟩ := hp148
                  rw [hs] at hR
                  clear hs
                  refine zif_ne_f (tgt := 156) C dX8_person_151 (by decide) (by decide) ?_
                  refine zconst (v := 0) C dX8_person_154 (by decide) ?_
                  exact zend_i C hE dX8_person_155 (by omega) (by omega) ⟨_, by first | (simp [o_person, perS, bornF, okc, nI_pred, zsA_g, zsN_g, zsN_2, zsA_1, zsA_c, zsA_l, zsL_g, zsL_1, zsL_c, zsL_a, zsN_N, courtOn_th, faithAt_th, lawOf_th, ruleOn_th, isGrown_th, canWit_th, lasting_th, isMinor_th, isWonAt_th, canJudge_th, canTest_th, heard_th, bothLive_th, lowestMarriage_th, kids_th, h2, h10, emn, h15, h23, efn, h32, h75, h89, h97]; done) | (simp_all [o_person, perS, bornF, okc, nI_pred, zsA_g, zsN_g, zsN_2, zsA_1, zsA_c, zsA_l, zsL_g, zsL_1, zsL_c, zsL_a, zsN_N, courtOn_th, faithAt_th, lawOf_th, ruleOn_th, isGrown_th, canWit_th, lasting_th, isMinor_th, isWonAt_th, canJudge_th, canTest_th, heard_th, bothLive_th, lowestMarriage_th, kids_th, h2, h10, emn, h15, h23, efn, h32, h75, h89, h97]; done), hR⟩
set_option maxRecDepth 100000 in
set_option maxHeartbeats 1000000 in
theorem m_turn {g : zGh} {M0 : zM} {mo : Nat} {ad : Nat → Nat} {S : zS} (p c a b : Int32) (hi : iB S) (hP : iPs S) : zMc g M0 mo ad yX8_turn cX8_turn 8 (some .int) 3 64 mkI [.int p, .int c, .int a, .int b] S (fun v S1 => (S1, v) = o_turn S p c a b) := by
  intro M hR
  refine zof [some (.ref mo), some (.int p), some (.int c), some (.int a), some (.int b), none, none, none] (by decide +kernel) rfl rfl (Nat.le_of_ble_eq_true rfl) ?_
  intro X C hE hnm
  have C : zC g X RX8 cX8_turn 8 3 64 0 0 := C
  obtain ⟨hb1, hb2, hb4, hb9, hb13, hb25, hb33⟩ := id hi
  refine zaload_n C dX8_turn_0 rfl ?_
  refine ziload_n C dX8_turn_1 rfl ?_
  refine zcallV C (m_isPerson p (by omega) M hR) hy_X8_isPerson hv_X8_isPerson hl_X8_191 hR.1 rfl rfl rfl rfl (by decide) (by decide) (by omega) (by omega) rfl (by exact Nat.le_of_ble_eq_true rfl) dX8_turn_2 (fun v2 M hp2 => ?_)
  obtain ⟨S1, ⟨rfl, hs⟩, hR⟩ := hp2
  rw [hs] at hR
  clear hs
  refine zif_eq (tgt := 37) C dX8_turn_5 (by decide) (fun h5 => ?_) (fun h5 => ?_)
  · replace h5 := b2i_0.mp h5
    refine zconst (v := 0) C dX8_turn_37 (by decide) ?_
    refine zistore (L1 := [_, _, _, _, _, _, _, _]) C dX8_turn_38 rfl (Nat.le_of_ble_eq_true rfl) ?_
    refine ziload_n C dX8_turn_40 rfl ?_
    refine ziload C dX8_turn_41 rfl ?_
    refine zicmp_eq (tgt := 61) C dX8_turn_43 (by decide) (fun h43 => ?_) (fun h43 => ?_)
    · refine zconst (v := 0) C dX8_turn_61 (by decide) ?_
      refine zistore (L1 := [_, _, _, _, _, _, _, _]) C dX8_turn_62 rfl (Nat.le_of_ble_eq_true rfl) ?_
      refine zaload_n C dX8_turn_64 rfl ?_
      refine ziload C dX8_turn_65 rfl ?_
      refine zif_ne_f (tgt := 74) C dX8_turn_67 (by decide) (by decide) ?_
      refine zconst (v := 1) C dX8_turn_70 (by decide) ?_
      refine zgoto (tgt := 84) C dX8_turn_71 (by decide) ?_
      refine zcallV C (m_holds 1 (by decide) M hR) hy_X8_holds hv_X8_holds hl_X8_157 hR.1 rfl rfl rfl rfl (by decide) (by decide) (by omega) (by omega) rfl (by exact Nat.le_of_ble_eq_true rfl) dX8_turn_84 (fun v84 M hp84 => ?_)
      obtain ⟨S1, ⟨rfl, hs⟩, hR⟩ := hp84
      rw [hs] at hR
      clear hs
      refine zif_ne_f (tgt := 92) C dX8_turn_87 (by decide) (by decide) ?_
      refine zconst (v := 0) C dX8_turn_90 (by decide) ?_
      exact zend_i C hE dX8_turn_91 (by omega) (by omega) ⟨_, by first | (simp [o_turn, z30, zsA_g, zsN_g, zsN_2, zsA_1, zsA_c, zsA_l, zsL_g, zsL_1, zsL_c, zsL_a, zsN_N, courtOn_th, faithAt_th, lawOf_th, ruleOn_th, isGrown_th, canWit_th, lasting_th, isMinor_th, isWonAt_th, canJudge_th, canTest_th, heard_th, bothLive_th, lowestMarriage_th, kids_th, h5, h43]; done) | (simp_all [o_turn, z30, zsA_g, zsN_g, zsN_2, zsA_1, zsA_c, zsA_l, zsL_g, zsL_1, zsL_c, zsL_a, zsN_N, courtOn_th, faithAt_th, lawOf_th, ruleOn_th, isGrown_th, canWit_th, lasting_th, isMinor_th, isWonAt_th, canJudge_th, canTest_th, heard_th, bothLive_th, lowestMarriage_th, kids_th, h5, h43]; done), hR⟩
    · refine ziload_n C dX8_turn_46 rfl ?_
      refine ziload_n C dX8_turn_47 rfl ?_
      refine zicmp_eq (tgt := 61) C dX8_turn_48 (by decide) (fun h48 => ?_) (fun h48 => ?_)
      · refine zconst (v := 0) C dX8_turn_61 (by decide) ?_
        refine zistore (L1 := [_, _, _, _, _, _, _, _]) C dX8_turn_62 rfl (Nat.le_of_ble_eq_true rfl) ?_
        refine zaload_n C dX8_turn_64 rfl ?_
        refine ziload C dX8_turn_65 rfl ?_
        refine zif_ne_f (tgt := 74) C dX8_turn_67 (by decide) (by decide) ?_
        refine zconst (v := 1) C dX8_turn_70 (by decide) ?_
        refine zgoto (tgt := 84) C dX8_turn_71 (by decide) ?_
        refine zcallV C (m_holds 1 (by decide) M hR) hy_X8_holds hv_X8_holds hl_X8_157 hR.1 rfl rfl rfl rfl (by decide) (by decide) (by omega) (by omega) rfl (by exact Nat.le_of_ble_eq_true rfl) dX8_turn_84 (fun v84 M hp84 => ?_)
        obtain ⟨S1, ⟨rfl, hs⟩, hR⟩ := hp84
        rw [hs] at hR
        clear hs
        refine zif_ne_f (tgt := 92) C dX8_turn_87 (by decide) (by decide) ?_
        refine zconst (v := 0) C dX8_turn_90 (by decide) ?_
        exact zend_i C hE dX8_turn_91 (by omega) (by omega) ⟨_, by first | (simp [o_turn, z30, zsA_g, zsN_g, zsN_2, zsA_1, zsA_c, zsA_l, zsL_g, zsL_1, zsL_c, zsL_a, zsN_N, courtOn_th, faithAt_th, lawOf_th, ruleOn_th, isGrown_th, canWit_th, lasting_th, isMinor_th, isWonAt_th, canJudge_th, canTest_th, heard_th, bothLive_th, lowestMarriage_th, kids_th, h5, h43, h48]; done) | (simp_all [o_turn, z30, zsA_g, zsN_g, zsN_2, zsA_1, zsA_c, zsA_l, zsL_g, zsL_1, zsL_c, zsL_a, zsN_N, courtOn_th, faithAt_th, lawOf_th, ruleOn_th, isGrown_th, canWit_th, lasting_th, isMinor_th, isWonAt_th, canJudge_th, canTest_th, heard_th, bothLive_th, lowestMarriage_th, kids_th, h5, h43, h48]; done), hR⟩
      · refine ziload C dX8_turn_51 rfl ?_
        refine ziload_n C dX8_turn_53 rfl ?_
        refine zicmp_eq (tgt := 61) C dX8_turn_54 (by decide) (fun h54 => ?_) (fun h54 => ?_)
        · refine zconst (v := 0) C dX8_turn_61 (by decide) ?_
          refine zistore (L1 := [_, _, _, _, _, _, _, _]) C dX8_turn_62 rfl (Nat.le_of_ble_eq_true rfl) ?_
          refine zaload_n C dX8_turn_64 rfl ?_
          refine ziload C dX8_turn_65 rfl ?_
          refine zif_ne_f (tgt := 74) C dX8_turn_67 (by decide) (by decide) ?_
          refine zconst (v := 1) C dX8_turn_70 (by decide) ?_
          refine zgoto (tgt := 84) C dX8_turn_71 (by decide) ?_
          refine zcallV C (m_holds 1 (by decide) M hR) hy_X8_holds hv_X8_holds hl_X8_157 hR.1 rfl rfl rfl rfl (by decide) (by decide) (by omega) (by omega) rfl (by exact Nat.le_of_ble_eq_true rfl) dX8_turn_84 (fun v84 M hp84 => ?_)
          obtain ⟨S1, ⟨rfl, hs⟩, hR⟩ := hp84
          rw [hs] at hR
          clear hs
          refine zif_ne_f (tgt := 92) C dX8_turn_87 (by decide) (by decide) ?_
          refine zconst (v := 0) C dX8_turn_90 (by decide) ?_
          exact zend_i C hE dX8_turn_91 (by omega) (by omega) ⟨_, by first | (simp [o_turn, z30, zsA_g, zsN_g, zsN_2, zsA_1, zsA_c, zsA_l, zsL_g, zsL_1, zsL_c, zsL_a, zsN_N, courtOn_th, faithAt_th, lawOf_th, ruleOn_th, isGrown_th, canWit_th, lasting_th, isMinor_th, isWonAt_th, canJudge_th, canTest_th, heard_th, bothLive_th, lowestMarriage_th, kids_th, h5, h43, h48, h54]; done) | (simp_all [o_turn, z30, zsA_g, zsN_g, zsN_2, zsA_1, zsA_c, zsA_l, zsL_g, zsL_1, zsL_c, zsL_a, zsN_N, courtOn_th, faithAt_th, lawOf_th, ruleOn_th, isGrown_th, canWit_th, lasting_th, isMinor_th, isWonAt_th, canJudge_th, canTest_th, heard_th, bothLive_th, lowestMarriage_th, kids_th, h5, h43, h48, h54]; done), hR⟩
        · refine zconst (v := 1) C dX8_turn_57 (by decide) ?_
          refine zgoto (tgt := 62) C dX8_turn_58 (by decide) ?_
          refine zistore (L1 := [_, _, _, _, _, _, _, _]) C dX8_turn_62 rfl (Nat.le_of_ble_eq_true rfl) ?_
          refine zaload_n C dX8_turn_64 rfl ?_
          refine ziload C dX8_turn_65 rfl ?_
          refine zif_ne_f (tgt := 74) C dX8_turn_67 (by decide) (by decide) ?_
          refine zconst (v := 1) C dX8_turn_70 (by decide) ?_
          refine zgoto (tgt := 84) C dX8_turn_71 (by decide) ?_
          refine zcallV C (m_holds 1 (by decide) M hR) hy_X8_holds hv_X8_holds hl_X8_157 hR.1 rfl rfl rfl rfl (by decide) (by decide) (by omega) (by omega) rfl (by exact Nat.le_of_ble_eq_true rfl) dX8_turn_84 (fun v84 M hp84 => ?_)
          obtain ⟨S1, ⟨rfl, hs⟩, hR⟩ := hp84
          rw [hs] at hR
          clear hs
          refine zif_ne_f (tgt := 92) C dX8_turn_87 (by decide) (by decide) ?_
          refine zconst (v := 0) C dX8_turn_90 (by decide) ?_
          exact zend_i C hE dX8_turn_91 (by omega) (by omega) ⟨_, by first | (simp [o_turn, z30, zsA_g, zsN_g, zsN_2, zsA_1, zsA_c, zsA_l, zsL_g, zsL_1, zsL_c, zsL_a, zsN_N, courtOn_th, faithAt_th, lawOf_th, ruleOn_th, isGrown_th, canWit_th, lasting_th, isMinor_th, isWonAt_th, canJudge_th, canTest_th, heard_th, bothLive_th, lowestMarriage_th, kids_th, h5, h43, h48, h54]; done) | (simp_all [o_turn, z30, zsA_g, zsN_g, zsN_2, zsA_1, zsA_c, zsA_l, zsL_g, zsL_1, zsL_c, zsL_a, zsN_N, courtOn_th, faithAt_th, lawOf_th, ruleOn_th, isGrown_th, canWit_th, lasting_th, isMinor_th, isWonAt_th, canJudge_th, canTest_th, heard_th, bothLive_th, lowestMarriage_th, kids_th, h5, h43, h48, h54]; done), hR⟩
  · replace h5 := b2i_n0.mp h5
    obtain ⟨pn, hpn, rfl⟩ := zix_of h5 (by omega)
    have epn := nI_clamp (show pn < 2 ^ 31 by omega)
    refine zaload_n C dX8_turn_8 rfl ?_
    refine ziload_n C dX8_turn_9 rfl ?_
    refine zcallV C (m_isCommunity c (by omega) M hR) hy_X8_isCommunity hv_X8_isCommunity hl_X8_141 hR.1 rfl rfl rfl rfl (by decide) (by decide) (by omega) (by omega) rfl (by exact Nat.le_of_ble_eq_true rfl) dX8_turn_10 (fun v10 M hp10 => ?_)
    obtain ⟨S1, ⟨rfl, hs⟩, hR⟩ := hp10
    rw [hs] at hR
    clear hs
    refine zif_eq (tgt := 37) C dX8_turn_13 (by decide) (fun h13 => ?_) (fun h13 => ?_)
    · replace h13 := b2i_0.mp h13
      refine zconst (v := 0) C dX8_turn_37 (by decide) ?_
      refine zistore (L1 := [_, _, _, _, _, _, _, _]) C dX8_turn_38 rfl (Nat.le_of_ble_eq_true rfl) ?_
      refine ziload_n C dX8_turn_40 rfl ?_
      refine ziload C dX8_turn_41 rfl ?_
      refine zicmp_eq (tgt := 61) C dX8_turn_43 (by decide) (fun h43 => ?_) (fun h43 => ?_)
      · refine zconst (v := 0) C dX8_turn_61 (by decide) ?_
        refine zistore (L1 := [_, _, _, _, _, _, _, _]) C dX8_turn_62 rfl (Nat.le_of_ble_eq_true rfl) ?_
        refine zaload_n C dX8_turn_64 rfl ?_
        refine ziload C dX8_turn_65 rfl ?_
        refine zif_ne_f (tgt := 74) C dX8_turn_67 (by decide) (by decide) ?_
        refine zconst (v := 1) C dX8_turn_70 (by decide) ?_
        refine zgoto (tgt := 84) C dX8_turn_71 (by decide) ?_
        refine zcallV C (m_holds 1 (by decide) M hR) hy_X8_holds hv_X8_holds hl_X8_157 hR.1 rfl rfl rfl rfl (by decide) (by decide) (by omega) (by omega) rfl (by exact Nat.le_of_ble_eq_true rfl) dX8_turn_84 (fun v84 M hp84 => ?_)
        obtain ⟨S1, ⟨rfl, hs⟩, hR⟩ := hp84
        rw [hs] at hR
        clear hs
        refine zif_ne_f (tgt := 92) C dX8_turn_87 (by decide) (by decide) ?_
        refine zconst (v := 0) C dX8_turn_90 (by decide) ?_
        exact zend_i C hE dX8_turn_91 (by omega) (by omega) ⟨_, by first | (simp [o_turn, z30, zsA_g, zsN_g, zsN_2, zsA_1, zsA_c, zsA_l, zsL_g, zsL_1, zsL_c, zsL_a, zsN_N, courtOn_th, faithAt_th, lawOf_th, ruleOn_th, isGrown_th, canWit_th, lasting_th, isMinor_th, isWonAt_th, canJudge_th, canTest_th, heard_th, bothLive_th, lowestMarriage_th, kids_th, h5, epn, h13, h43]; done) | (simp_all [o_turn, z30, zsA_g, zsN_g, zsN_2, zsA_1, zsA_c, zsA_l, zsL_g, zsL_1, zsL_c, zsL_a, zsN_N, courtOn_th, faithAt_th, lawOf_th, ruleOn_th, isGrown_th, canWit_th, lasting_th, isMinor_th, isWonAt_th, canJudge_th, canTest_th, heard_th, bothLive_th, lowestMarriage_th, kids_th, h5, epn, h13, h43]; done), hR⟩
      · refine ziload_n C dX8_turn_46 rfl ?_
        refine ziload_n C dX8_turn_47 rfl ?_
        refine zicmp_eq (tgt := 61) C dX8_turn_48 (by decide) (fun h48 => ?_) (fun h48 => ?_)
        · refine zconst (v := 0) C dX8_turn_61 (by decide) ?_
          refine zistore (L1 := [_, _, _, _, _, _, _, _]) C dX8_turn_62 rfl (Nat.le_of_ble_eq_true rfl) ?_
          refine zaload_n C dX8_turn_64 rfl ?_
          refine ziload C dX8_turn_65 rfl ?_
          refine zif_ne_f (tgt := 74) C dX8_turn_67 (by decide) (by decide) ?_
          refine zconst (v := 1) C dX8_turn_70 (by decide) ?_
          refine zgoto (tgt := 84) C dX8_turn_71 (by decide) ?_
          refine zcallV C (m_holds 1 (by decide) M hR) hy_X8_holds hv_X8_holds hl_X8_157 hR.1 rfl rfl rfl rfl (by decide) (by decide) (by omega) (by omega) rfl (by exact Nat.le_of_ble_eq_true rfl) dX8_turn_84 (fun v84 M hp84 => ?_)
          obtain ⟨S1, ⟨rfl, hs⟩, hR⟩ := hp84
          rw [hs] at hR
          clear hs
          refine zif_ne_f (tgt := 92) C dX8_turn_87 (by decide) (by decide) ?_
          refine zconst (v := 0) C dX8_turn_90 (by decide) ?_
          exact zend_i C hE dX8_turn_91 (by omega) (by omega) ⟨_, by first | (simp [o_turn, z30, zsA_g, zsN_g, zsN_2, zsA_1, zsA_c, zsA_l, zsL_g, zsL_1, zsL_c, zsL_a, zsN_N, courtOn_th, faithAt_th, lawOf_th, ruleOn_th, isGrown_th, canWit_th, lasting_th, isMinor_th, isWonAt_th, canJudge_th, canTest_th, heard_th, bothLive_th, lowestMarriage_th, kids_th, h5, epn, h13, h43, h48]; done) | (simp_all [o_turn, z30, zsA_g, zsN_g, zsN_2, zsA_1, zsA_c, zsA_l, zsL_g, zsL_1, zsL_c, zsL_a, zsN_N, courtOn_th, faithAt_th, lawOf_th, ruleOn_th, isGrown_th, canWit_th, lasting_th, isMinor_th, isWonAt_th, canJudge_th, canTest_th, heard_th, bothLive_th, lowestMarriage_th, kids_th, h5, epn, h13, h43, h48]; done), hR⟩
        · refine ziload C dX8_turn_51 rfl ?_
          refine ziload_n C dX8_turn_53 rfl ?_
          refine zicmp_eq (tgt := 61) C dX8_turn_54 (by decide) (fun h54 => ?_) (fun h54 => ?_)
          · refine zconst (v := 0) C dX8_turn_61 (by decide) ?_
            refine zistore (L1 := [_, _, _, _, _, _, _, _]) C dX8_turn_62 rfl (Nat.le_of_ble_eq_true rfl) ?_
            refine zaload_n C dX8_turn_64 rfl ?_
            refine ziload C dX8_turn_65 rfl ?_
            refine zif_ne_f (tgt := 74) C dX8_turn_67 (by decide) (by decide) ?_
            refine zconst (v := 1) C dX8_turn_70 (by decide) ?_
            refine zgoto (tgt := 84) C dX8_turn_71 (by decide) ?_
            refine zcallV C (m_holds 1 (by decide) M hR) hy_X8_holds hv_X8_holds hl_X8_157 hR.1 rfl rfl rfl rfl (by decide) (by decide) (by omega) (by omega) rfl (by exact Nat.le_of_ble_eq_true rfl) dX8_turn_84 (fun v84 M hp84 => ?_)
            obtain ⟨S1, ⟨rfl, hs⟩, hR⟩ := hp84
            rw [hs] at hR
            clear hs
            refine zif_ne_f (tgt := 92) C dX8_turn_87 (by decide) (by decide) ?_
            refine zconst (v := 0) C dX8_turn_90 (by decide) ?_
            exact zend_i C hE dX8_turn_91 (by omega) (by omega) ⟨_, by first | (simp [o_turn, z30, zsA_g, zsN_g, zsN_2, zsA_1, zsA_c, zsA_l, zsL_g, zsL_1, zsL_c, zsL_a, zsN_N, courtOn_th, faithAt_th, lawOf_th, ruleOn_th, isGrown_th, canWit_th, lasting_th, isMinor_th, isWonAt_th, canJudge_th, canTest_th, heard_th, bothLive_th, lowestMarriage_th, kids_th, h5, epn, h13, h43, h48, h54]; done) | (simp_all [o_turn, z30, zsA_g, zsN_g, zsN_2, zsA_1, zsA_c, zsA_l, zsL_g, zsL_1, zsL_c, zsL_a, zsN_N, courtOn_th, faithAt_th, lawOf_th, ruleOn_th, isGrown_th, canWit_th, lasting_th, isMinor_th, isWonAt_th, canJudge_th, canTest_th, heard_th, bothLive_th, lowestMarriage_th, kids_th, h5, epn, h13, h43, h48, h54]; done), hR⟩
          · refine zconst (v := 1) C dX8_turn_57 (by decide) ?_
            refine zgoto (tgt := 62) C dX8_turn_58 (by decide) ?_
            refine zistore (L1 := [_, _, _, _, _, _, _, _]) C dX8_turn_62 rfl (Nat.le_of_ble_eq_true rfl) ?_
            refine zaload_n C dX8_turn_64 rfl ?_
            refine ziload C dX8_turn_65 rfl ?_
            refine zif_ne_f (tgt := 74) C dX8_turn_67 (by decide) (by decide) ?_
            refine zconst (v := 1) C dX8_turn_70 (by decide) ?_
            refine zgoto (tgt := 84) C dX8_turn_71 (by decide) ?_
            refine zcallV C (m_holds 1 (by decide) M hR) hy_X8_holds hv_X8_holds hl_X8_157 hR.1 rfl rfl rfl rfl (by decide) (by decide) (by omega) (by omega) rfl (by exact Nat.le_of_ble_eq_true rfl) dX8_turn_84 (fun v84 M hp84 => ?_)
            obtain ⟨S1, ⟨rfl, hs⟩, hR⟩ := hp84
            rw [hs] at hR
            clear hs
            refine zif_ne_f (tgt := 92) C dX8_turn_87 (by decide) (by decide) ?_
            refine zconst (v := 0) C dX8_turn_90 (by decide) ?_
            exact zend_i C hE dX8_turn_91 (by omega) (by omega) ⟨_, by first | (simp [o_turn, z30, zsA_g, zsN_g, zsN_2, zsA_1, zsA_c, zsA_l, zsL_g, zsL_1, zsL_c, zsL_a, zsN_N, courtOn_th, faithAt_th, lawOf_th, ruleOn_th, isGrown_th, canWit_th, lasting_th, isMinor_th, isWonAt_th, canJudge_th, canTest_th, heard_th, bothLive_th, lowestMarriage_th, kids_th, h5, epn, h13, h43, h48, h54]; done) | (simp_all [o_turn, z30, zsA_g, zsN_g, zsN_2, zsA_1, zsA_c, zsA_l, zsL_g, zsL_1, zsL_c, zsL_a, zsN_N, courtOn_th, faithAt_th, lawOf_th, ruleOn_th, isGrown_th, canWit_th, lasting_th, isMinor_th, isWonAt_th, canJudge_th, canTest_th, heard_th, bothLive_th, lowestMarriage_th, kids_th, h5, epn, h13, h43, h48, h54]; done), hR⟩
    · replace h13 := b2i_n0.mp h13
      obtain ⟨cn, hcn, rfl⟩ := zix_of h13 (by omega)
      have ecn := nI_clamp (show cn < 2 ^ 31 by omega)
      refine zaload_n C dX8_turn_16 rfl ?_
      refine ziload_n C dX8_turn_17 rfl ?_
      refine zcallV C (m_isPerson a (by omega) M hR) hy_X8_isPerson hv_X8_isPerson hl_X8_191 hR.1 rfl rfl rfl rfl (by decide) (by decide) (by omega) (by omega) rfl (by exact Nat.le_of_ble_eq_true rfl) dX8_turn_18 (fun v18 M hp18 => ?_)
      obtain ⟨S1, ⟨rfl, hs⟩, hR⟩ := hp18
      rw [hs] at hR
      clear hs
      refine zif_eq (tgt := 37) C dX8_turn_21 (by decide) (fun h21 => ?_) (fun h21 => ?_)
      · replace h21 := b2i_0.mp h21
        refine zconst (v := 0) C dX8_turn_37 (by decide) ?_
        refine zistore (L1 := [_, _, _, _, _, _, _, _]) C dX8_turn_38 rfl (Nat.le_of_ble_eq_true rfl) ?_
        refine ziload_n C dX8_turn_40 rfl ?_
        refine ziload C dX8_turn_41 rfl ?_
        refine zicmp_eq (tgt := 61) C dX8_turn_43 (by decide) (fun h43 => ?_) (fun h43 => ?_)
        · refine zconst (v := 0) C dX8_turn_61 (by decide) ?_
          refine zistore (L1 := [_, _, _, _, _, _, _, _]) C dX8_turn_62 rfl (Nat.le_of_ble_eq_true rfl) ?_
          refine zaload_n C dX8_turn_64 rfl ?_
          refine ziload C dX8_turn_65 rfl ?_
          refine zif_ne_f (tgt := 74) C dX8_turn_67 (by decide) (by decide) ?_
          refine zconst (v := 1) C dX8_turn_70 (by decide) ?_
          refine zgoto (tgt := 84) C dX8_turn_71 (by decide) ?_
          refine zcallV C (m_holds 1 (by decide) M hR) hy_X8_holds hv_X8_holds hl_X8_157 hR.1 rfl rfl rfl rfl (by decide) (by decide) (by omega) (by omega) rfl (by exact Nat.le_of_ble_eq_true rfl) dX8_turn_84 (fun v84 M hp84 => ?_)
          obtain ⟨S1, ⟨rfl, hs⟩, hR⟩ := hp84
          rw [hs] at hR
          clear hs
          refine zif_ne_f (tgt := 92) C dX8_turn_87 (by decide) (by decide) ?_
          refine zconst (v := 0) C dX8_turn_90 (by decide) ?_
          exact zend_i C hE dX8_turn_91 (by omega) (by omega) ⟨_, by first | (simp [o_turn, z30, zsA_g, zsN_g, zsN_2, zsA_1, zsA_c, zsA_l, zsL_g, zsL_1, zsL_c, zsL_a, zsN_N, courtOn_th, faithAt_th, lawOf_th, ruleOn_th, isGrown_th, canWit_th, lasting_th, isMinor_th, isWonAt_th, canJudge_th, canTest_th, heard_th, bothLive_th, lowestMarriage_th, kids_th, h5, epn, h13, ecn, h21, h43]; done) | (simp_all [o_turn, z30, zsA_g, zsN_g, zsN_2, zsA_1, zsA_c, zsA_l, zsL_g, zsL_1, zsL_c, zsL_a, zsN_N, courtOn_th, faithAt_th, lawOf_th, ruleOn_th, isGrown_th, canWit_th, lasting_th, isMinor_th, isWonAt_th, canJudge_th, canTest_th, heard_th, bothLive_th, lowestMarriage_th, kids_th, h5, epn, h13, ecn, h21, h43]; done), hR⟩
        · refine ziload_n C dX8_turn_46 rfl ?_
          refine ziload_n C dX8_turn_47 rfl ?_
          refine zicmp_eq (tgt := 61) C dX8_turn_48 (by decide) (fun h48 => ?_) (fun h48 => ?_)
          · refine zconst (v := 0) C dX8_turn_61 (by decide) ?_
            refine zistore (L1 := [_, _, _, _, _, _, _, _]) C dX8_turn_62 rfl (Nat.le_of_ble_eq_true rfl) ?_
            refine zaload_n C dX8_turn_64 rfl ?_
            refine ziload C dX8_turn_65 rfl ?_
            refine zif_ne_f (tgt := 74) C dX8_turn_67 (by decide) (by decide) ?_
            refine zconst (v := 1) C dX8_turn_70 (by decide) ?_
            refine zgoto (tgt := 84) C dX8_turn_71 (by decide) ?_
            refine zcallV C (m_holds 1 (by decide) M hR) hy_X8_holds hv_X8_holds hl_X8_157 hR.1 rfl rfl rfl rfl (by decide) (by decide) (by omega) (by omega) rfl (by exact Nat.le_of_ble_eq_true rfl) dX8_turn_84 (fun v84 M hp84 => ?_)
            obtain ⟨S1, ⟨rfl, hs⟩, hR⟩ := hp84
            rw [hs] at hR
            clear hs
            refine zif_ne_f (tgt := 92) C dX8_turn_87 (by decide) (by decide) ?_
            refine zconst (v := 0) C dX8_turn_90 (by decide) ?_
            exact zend_i C hE dX8_turn_91 (by omega) (by omega) ⟨_, by first | (simp [o_turn, z30, zsA_g, zsN_g, zsN_2, zsA_1, zsA_c, zsA_l, zsL_g, zsL_1, zsL_c, zsL_a, zsN_N, courtOn_th, faithAt_th, lawOf_th, ruleOn_th, isGrown_th, canWit_th, lasting_th, isMinor_th, isWonAt_th, canJudge_th, canTest_th, heard_th, bothLive_th, lowestMarriage_th, kids_th, h5, epn, h13, ecn, h21, h43, h48]; done) | (simp_all [o_turn, z30, zsA_g, zsN_g, zsN_2, zsA_1, zsA_c, zsA_l, zsL_g, zsL_1, zsL_c, zsL_a, zsN_N, courtOn_th, faithAt_th, lawOf_th, ruleOn_th, isGrown_th, canWit_th, lasting_th, isMinor_th, isWonAt_th, canJudge_th, canTest_th, heard_th, bothLive_th, lowestMarriage_th, kids_th, h5, epn, h13, ecn, h21, h43, h48]; done), hR⟩
          · refine ziload C dX8_turn_51 rfl ?_
            refine ziload_n C dX8_turn_53 rfl ?_
            refine zicmp_eq (tgt := 61) C dX8_turn_54 (by decide) (fun h54 => ?_) (fun h54 => ?_)
            · refine zconst (v := 0) C dX8_turn_61 (by decide) ?_
              refine zistore (L1 := [_, _, _, _, _, _, _, _]) C dX8_turn_62 rfl (Nat.le_of_ble_eq_true rfl) ?_
              refine zaload_n C dX8_turn_64 rfl ?_
              refine ziload C dX8_turn_65 rfl ?_
              refine zif_ne_f (tgt := 74) C dX8_turn_67 (by decide) (by decide) ?_
              refine zconst (v := 1) C dX8_turn_70 (by decide) ?_
              refine zgoto (tgt := 84) C dX8_turn_71 (by decide) ?_
              refine zcallV C (m_holds 1 (by decide) M hR) hy_X8_holds hv_X8_holds hl_X8_157 hR.1 rfl rfl rfl rfl (by decide) (by decide) (by omega) (by omega) rfl (by exact Nat.le_of_ble_eq_true rfl) dX8_turn_84 (fun v84 M hp84 => ?_)
              obtain ⟨S1, ⟨rfl, hs⟩, hR⟩ := hp84
              rw [hs] at hR
              clear hs
              refine zif_ne_f (tgt := 92) C dX8_turn_87 (by decide) (by decide) ?_
              refine zconst (v := 0) C dX8_turn_90 (by decide) ?_
              exact zend_i C hE dX8_turn_91 (by omega) (by omega) ⟨_, by first | (simp [o_turn, z30, zsA_g, zsN_g, zsN_2, zsA_1, zsA_c, zsA_l, zsL_g, zsL_1, zsL_c, zsL_a, zsN_N, courtOn_th, faithAt_th, lawOf_th, ruleOn_th, isGrown_th, canWit_th, lasting_th, isMinor_th, isWonAt_th, canJudge_th, canTest_th, heard_th, bothLive_th, lowestMarriage_th, kids_th, h5, epn, h13, ecn, h21, h43, h48, h54]; done) | (simp_all [o_turn, z30, zsA_g, zsN_g, zsN_2, zsA_1, zsA_c, zsA_l, zsL_g, zsL_1, zsL_c, zsL_a, zsN_N, courtOn_th, faithAt_th, lawOf_th, ruleOn_th, isGrown_th, canWit_th, lasting_th, isMinor_th, isWonAt_th, canJudge_th, canTest_th, heard_th, bothLive_th, lowestMarriage_th, kids_th, h5, epn, h13, ecn, h21, h43, h48, h54]; done), hR⟩
            · refine zconst (v := 1) C dX8_turn_57 (by decide) ?_
              refine zgoto (tgt := 62) C dX8_turn_58 (by decide) ?_
              refine zistore (L1 := [_, _, _, _, _, _, _, _]) C dX8_turn_62 rfl (Nat.le_of_ble_eq_true rfl) ?_
              refine zaload_n C dX8_turn_64 rfl ?_
              refine ziload C dX8_turn_65 rfl ?_
              refine zif_ne_f (tgt := 74) C dX8_turn_67 (by decide) (by decide) ?_
              refine zconst (v := 1) C dX8_turn_70 (by decide) ?_
              refine zgoto (tgt := 84) C dX8_turn_71 (by decide) ?_
              refine zcallV C (m_holds 1 (by decide) M hR) hy_X8_holds hv_X8_holds hl_X8_157 hR.1 rfl rfl rfl rfl (by decide) (by decide) (by omega) (by omega) rfl (by exact Nat.le_of_ble_eq_true rfl) dX8_turn_84 (fun v84 M hp84 => ?_)
              obtain ⟨S1, ⟨rfl, hs⟩, hR⟩ := hp84
              rw [hs] at hR
              clear hs
              refine zif_ne_f (tgt := 92) C dX8_turn_87 (by decide) (by decide) ?_
              refine zconst (v := 0) C dX8_turn_90 (by decide) ?_
              exact zend_i C hE dX8_turn_91 (by omega) (by omega) ⟨_, by first | (simp [o_turn, z30, zsA_g, zsN_g, zsN_2, zsA_1, zsA_c, zsA_l, zsL_g, zsL_1, zsL_c, zsL_a, zsN_N, courtOn_th, faithAt_th, lawOf_th, ruleOn_th, isGrown_th, canWit_th, lasting_th, isMinor_th, isWonAt_th, canJudge_th, canTest_th, heard_th, bothLive_th, lowestMarriage_th, kids_th, h5, epn, h13, ecn, h21, h43, h48, h54]; done) | (simp_all [o_turn, z30, zsA_g, zsN_g, zsN_2, zsA_1, zsA_c, zsA_l, zsL_g, zsL_1, zsL_c, zsL_a, zsN_N, courtOn_th, faithAt_th, lawOf_th, ruleOn_th, isGrown_th, canWit_th, lasting_th, isMinor_th, isWonAt_th, canJudge_th, canTest_th, heard_th, bothLive_th, lowestMarriage_th, kids_th, h5, epn, h13, ecn, h21, h43, h48, h54]; done), hR⟩
      · replace h21 := b2i_n0.mp h21
        obtain ⟨an, han, rfl⟩ := zix_of h21 (by omega)
        have ean := nI_clamp (show an < 2 ^ 31 by omega)
        refine zaload_n C dX8_turn_24 rfl ?_
        refine ziload C dX8_turn_25 rfl ?_
        refine zcallV C (m_isPerson b (by omega) M hR) hy_X8_isPerson hv_X8_isPerson hl_X8_191 hR.1 rfl rfl rfl rfl (by decide) (by decide) (by omega) (by omega) rfl (by exact Nat.le_of_ble_eq_true rfl) dX8_turn_27 (fun v27 M hp27 => ?_)
        obtain ⟨S1, ⟨rfl, hs⟩, hR⟩ := hp27
        rw [hs] at hR
        clear hs
        refine zif_eq (tgt := 37) C dX8_turn_30 (by decide) (fun h30 => ?_) (fun h30 => ?_)
        · replace h30 := b2i_0.mp h30
          refine zconst (v := 0) C dX8_turn_37 (by decide) ?_
          refine zistore (L1 := [_, _, _, _, _, _, _, _]) C dX8_turn_38 rfl (Nat.le_of_ble_eq_true rfl) ?_
          refine ziload_n C dX8_turn_40 rfl ?_
          refine ziload C dX8_turn_41 rfl ?_
          refine zicmp_eq (tgt := 61) C dX8_turn_43 (by decide) (fun h43 => ?_) (fun h43 => ?_)
          · refine zconst (v := 0) C dX8_turn_61 (by decide) ?_
            refine zistore (L1 := [_, _, _, _, _, _, _, _]) C dX8_turn_62 rfl (Nat.le_of_ble_eq_true rfl) ?_
            refine zaload_n C dX8_turn_64 rfl ?_
            refine ziload C dX8_turn_65 rfl ?_
            refine zif_ne_f (tgt := 74) C dX8_turn_67 (by decide) (by decide) ?_
            refine zconst (v := 1) C dX8_turn_70 (by decide) ?_
            refine zgoto (tgt := 84) C dX8_turn_71 (by decide) ?_
            refine zcallV C (m_holds 1 (by decide) M hR) hy_X8_holds hv_X8_holds hl_X8_157 hR.1 rfl rfl rfl rfl (by decide) (by decide) (by omega) (by omega) rfl (by exact Nat.le_of_ble_eq_true rfl) dX8_turn_84 (fun v84 M hp84 => ?_)
            obtain ⟨S1, ⟨rfl, hs⟩, hR⟩ := hp84
            rw [hs] at hR
            clear hs
            refine zif_ne_f (tgt := 92) C dX8_turn_87 (by decide) (by decide) ?_
            refine zconst (v := 0) C dX8_turn_90 (by decide) ?_
            exact zend_i C hE dX8_turn_91 (by omega) (by omega) ⟨_, by first | (simp [o_turn, z30, zsA_g, zsN_g, zsN_2, zsA_1, zsA_c, zsA_l, zsL_g, zsL_1, zsL_c, zsL_a, zsN_N, courtOn_th, faithAt_th, lawOf_th, ruleOn_th, isGrown_th, canWit_th, lasting_th, isMinor_th, isWonAt_th, canJudge_th, canTest_th, heard_th, bothLive_th, lowestMarriage_th, kids_th, h5, epn, h13, ecn, h21, ean, h30, h43]; done) | (simp_all [o_turn, z30, zsA_g, zsN_g, zsN_2, zsA_1, zsA_c, zsA_l, zsL_g, zsL_1, zsL_c, zsL_a, zsN_N, courtOn_th, faithAt_th, lawOf_th, ruleOn_th, isGrown_th, canWit_th, lasting_th, isMinor_th, isWonAt_th, canJudge_th, canTest_th, heard_th, bothLive_th, lowestMarriage_th, kids_th, h5, epn, h13, ecn, h21, ean, h30, h43]; done), hR⟩
          · refine ziload_n C dX8_turn_46 rfl ?_
            refine ziload_n C dX8_turn_47 rfl ?_
            refine zicmp_eq (tgt := 61) C dX8_turn_48 (by decide) (fun h48 => ?_) (fun h48 => ?_)
            · refine zconst (v := 0) C dX8_turn_61 (by decide) ?_
              refine zistore (L1 := [_, _, _, _, _, _, _, _]) C dX8_turn_62 rfl (Nat.le_of_ble_eq_true rfl) ?_
              refine zaload_n C dX8_turn_64 rfl ?_
              refine ziload C dX8_turn_65 rfl ?_
              refine zif_ne_f (tgt := 74) C dX8_turn_67 (by decide) (by decide) ?_
              refine zconst (v := 1) C dX8_turn_70 (by decide) ?_
              refine zgoto (tgt := 84) C dX8_turn_71 (by decide) ?_
              refine zcallV C (m_holds 1 (by decide) M hR) hy_X8_holds hv_X8_holds hl_X8_157 hR.1 rfl rfl rfl rfl (by decide) (by decide) (by omega) (by omega) rfl (by exact Nat.le_of_ble_eq_true rfl) dX8_turn_84 (fun v84 M hp84 => ?_)
              obtain ⟨S1, ⟨rfl, hs⟩, hR⟩ := hp84
              rw [hs] at hR
              clear hs
              refine zif_ne_f (tgt := 92) C dX8_turn_87 (by decide) (by decide) ?_
              refine zconst (v := 0) C dX8_turn_90 (by decide) ?_
              exact zend_i C hE dX8_turn_91 (by omega) (by omega) ⟨_, by first | (simp [o_turn, z30, zsA_g, zsN_g, zsN_2, zsA_1, zsA_c, zsA_l, zsL_g, zsL_1, zsL_c, zsL_a, zsN_N, courtOn_th, faithAt_th, lawOf_th, ruleOn_th, isGrown_th, canWit_th, lasting_th, isMinor_th, isWonAt_th, canJudge_th, canTest_th, heard_th, bothLive_th, lowestMarriage_th, kids_th, h5, epn, h13, ecn, h21, ean, h30, h43, h48]; done) | (simp_all [o_turn, z30, zsA_g, zsN_g, zsN_2, zsA_1, zsA_c, zsA_l, zsL_g, zsL_1, zsL_c, zsL_a, zsN_N, courtOn_th, faithAt_th, lawOf_th, ruleOn_th, isGrown_th, canWit_th, lasting_th, isMinor_th, isWonAt_th, canJudge_th, canTest_th, heard_th, bothLive_th, lowestMarriage_th, kids_th, h5, epn, h13, ecn, h21, ean, h30, h43, h48]; done), hR⟩
            · refine ziload C dX8_turn_51 rfl ?_
              refine ziload_n C dX8_turn_53 rfl ?_
              refine zicmp_eq (tgt := 61) C dX8_turn_54 (by decide) (fun h54 => ?_) (fun h54 => ?_)
              · refine zconst (v := 0) C dX8_turn_61 (by decide) ?_
                refine zistore (L1 := [_, _, _, _, _, _, _, _]) C dX8_turn_62 rfl (Nat.le_of_ble_eq_true rfl) ?_
                refine zaload_n C dX8_turn_64 rfl ?_
                refine ziload C dX8_turn_65 rfl ?_
                refine zif_ne_f (tgt := 74) C dX8_turn_67 (by decide) (by decide) ?_
                refine zconst (v := 1) C dX8_turn_70 (by decide) ?_
                refine zgoto (tgt := 84) C dX8_turn_71 (by decide) ?_
                refine zcallV C (m_holds 1 (by decide) M hR) hy_X8_holds hv_X8_holds hl_X8_157 hR.1 rfl rfl rfl rfl (by decide) (by decide) (by omega) (by omega) rfl (by exact Nat.le_of_ble_eq_true rfl) dX8_turn_84 (fun v84 M hp84 => ?_)
                obtain ⟨S1, ⟨rfl, hs⟩, hR⟩ := hp84
                rw [hs] at hR
                clear hs
                refine zif_ne_f (tgt := 92) C dX8_turn_87 (by decide) (by decide) ?_
                refine zconst (v := 0) C dX8_turn_90 (by decide) ?_
                exact zend_i C hE dX8_turn_91 (by omega) (by omega) ⟨_, by first | (simp [o_turn, z30, zsA_g, zsN_g, zsN_2, zsA_1, zsA_c, zsA_l, zsL_g, zsL_1, zsL_c, zsL_a, zsN_N, courtOn_th, faithAt_th, lawOf_th, ruleOn_th, isGrown_th, canWit_th, lasting_th, isMinor_th, isWonAt_th, canJudge_th, canTest_th, heard_th, bothLive_th, lowestMarriage_th, kids_th, h5, epn, h13, ecn, h21, ean, h30, h43, h48, h54]; done) | (simp_all [o_turn, z30, zsA_g, zsN_g, zsN_2, zsA_1, zsA_c, zsA_l, zsL_g, zsL_1, zsL_c, zsL_a, zsN_N, courtOn_th, faithAt_th, lawOf_th, ruleOn_th, isGrown_th, canWit_th, lasting_th, isMinor_th, isWonAt_th, canJudge_th, canTest_th, heard_th, bothLive_th, lowestMarriage_th, kids_th, h5, epn, h13, ecn, h21, ean, h30, h43, h48, h54]; done), hR⟩
              · refine zconst (v := 1) C dX8_turn_57 (by decide) ?_
                refine zgoto (tgt := 62) C dX8_turn_58 (by decide) ?_
                refine zistore (L1 := [_, _, _, _, _, _, _, _]) C dX8_turn_62 rfl (Nat.le_of_ble_eq_true rfl) ?_
                refine zaload_n C dX8_turn_64 rfl ?_
                refine ziload C dX8_turn_65 rfl ?_
                refine zif_ne_f (tgt := 74) C dX8_turn_67 (by decide) (by decide) ?_
                refine zconst (v := 1) C dX8_turn_70 (by decide) ?_
                refine zgoto (tgt := 84) C dX8_turn_71 (by decide) ?_
                refine zcallV C (m_holds 1 (by decide) M hR) hy_X8_holds hv_X8_holds hl_X8_157 hR.1 rfl rfl rfl rfl (by decide) (by decide) (by omega) (by omega) rfl (by exact Nat.le_of_ble_eq_true rfl) dX8_turn_84 (fun v84 M hp84 => ?_)
                obtain ⟨S1, ⟨rfl, hs⟩, hR⟩ := hp84
                rw [hs] at hR
                clear hs
                refine zif_ne_f (tgt := 92) C dX8_turn_87 (by decide) (by decide) ?_
                refine zconst (v := 0) C dX8_turn_90 (by decide) ?_
                exact zend_i C hE dX8_turn_91 (by omega) (by omega) ⟨_, by first | (simp [o_turn, z30, zsA_g, zsN_g, zsN_2, zsA_1, zsA_c, zsA_l, zsL_g, zsL_1, zsL_c, zsL_a, zsN_N, courtOn_th, faithAt_th, lawOf_th, ruleOn_th, isGrown_th, canWit_th, lasting_th, isMinor_th, isWonAt_th, canJudge_th, canTest_th, heard_th, bothLive_th, lowestMarriage_th, kids_th, h5, epn, h13, ecn, h21, ean, h30, h43, h48, h54]; done) | (simp_all [o_turn, z30, zsA_g, zsN_g, zsN_2, zsA_1, zsA_c, zsA_l, zsL_g, zsL_1, zsL_c, zsL_a, zsN_N, courtOn_th, faithAt_th, lawOf_th, ruleOn_th, isGrown_th, canWit_th, lasting_th, isMinor_th, isWonAt_th, canJudge_th, canTest_th, heard_th, bothLive_th, lowestMarriage_th, kids_th, h5, epn, h13, ecn, h21, ean, h30, h43, h48, h54]; done), hR⟩
        · replace h30 := b2i_n0.mp h30
          obtain ⟨bn, hbn, rfl⟩ := zix_of h30 (by omega)
          have ebn := nI_clamp (show bn < 2 ^ 31 by omega)
          refine zconst (v := 1) C dX8_turn_33 (by decide) ?_
          refine zgoto (tgt := 38) C dX8_turn_34 (by decide) ?_
          refine zistore (L1 := [_, _, _, _, _, _, _, _]) C dX8_turn_38 rfl (Nat.le_of_ble_eq_true rfl) ?_
          refine ziload_n C dX8_turn_40 rfl ?_
          refine ziload C dX8_turn_41 rfl ?_
          refine zicmp_eq (tgt := 61) C dX8_turn_43 (by decide) (fun h43 => ?_) (fun h43 => ?_)
          · refine zconst (v := 0) C dX8_turn_61 (by decide) ?_
            refine zistore (L1 := [_, _, _, _, _, _, _, _]) C dX8_turn_62 rfl (Nat.le_of_ble_eq_true rfl) ?_
            refine zaload_n C dX8_turn_64 rfl ?_
            refine ziload C dX8_turn_65 rfl ?_
            refine zif_ne_t (tgt := 74) C dX8_turn_67 (by decide) (by decide) ?_
            refine ziload C dX8_turn_74 rfl ?_
            refine zif_eq_t (tgt := 83) C dX8_turn_76 (by decide) (by decide) ?_
            refine zconst (v := 2) C dX8_turn_83 (by decide) ?_
            refine zcallV C (m_holds 2 (by decide) M hR) hy_X8_holds hv_X8_holds hl_X8_157 hR.1 rfl rfl rfl rfl (by decide) (by decide) (by omega) (by omega) rfl (by exact Nat.le_of_ble_eq_true rfl) dX8_turn_84 (fun v84 M hp84 => ?_)
            obtain ⟨S1, ⟨rfl, hs⟩, hR⟩ := hp84
            rw [hs] at hR
            clear hs
            refine zif_ne_f (tgt := 92) C dX8_turn_87 (by decide) (by decide) ?_
            refine zconst (v := 0) C dX8_turn_90 (by decide) ?_
            exact zend_i C hE dX8_turn_91 (by omega) (by omega) ⟨_, by first | (simp [o_turn, z30, zsA_g, zsN_g, zsN_2, zsA_1, zsA_c, zsA_l, zsL_g, zsL_1, zsL_c, zsL_a, zsN_N, courtOn_th, faithAt_th, lawOf_th, ruleOn_th, isGrown_th, canWit_th, lasting_th, isMinor_th, isWonAt_th, canJudge_th, canTest_th, heard_th, bothLive_th, lowestMarriage_th, kids_th, h5, epn, h13, ecn, h21, ean, h30, ebn, h43]; done) | (simp_all [o_turn, z30, zsA_g, zsN_g, zsN_2, zsA_1, zsA_c, zsA_l, zsL_g, zsL_1, zsL_c, zsL_a, zsN_N, courtOn_th, faithAt_th, lawOf_th, ruleOn_th, isGrown_th, canWit_th, lasting_th, isMinor_th, isWonAt_th, canJudge_th, canTest_th, heard_th, bothLive_th, lowestMarriage_th, kids_th, h5, epn, h13, ecn, h21, ean, h30, ebn, h43]; done), hR⟩
          · refine ziload_n C dX8_turn_46 rfl ?_
            refine ziload_n C dX8_turn_47 rfl ?_
            refine zicmp_eq (tgt := 61) C dX8_turn_48 (by decide) (fun h48 => ?_) (fun h48 => ?_)
            · refine zconst (v := 0) C dX8_turn_61 (by decide) ?_
              refine zistore (L1 := [_, _, _, _, _, _, _, _]) C dX8_turn_62 rfl (Nat.le_of_ble_eq_true rfl) ?_
              refine zaload_n C dX8_turn_64 rfl ?_
              refine ziload C dX8_turn_65 rfl ?_
              refine zif_ne_t (tgt := 74) C dX8_turn_67 (by decide) (by decide) ?_
              refine ziload C dX8_turn_74 rfl ?_
              refine zif_eq_t (tgt := 83) C dX8_turn_76 (by decide) (by decide) ?_
              refine zconst (v := 2) C dX8_turn_83 (by decide) ?_
              refine zcallV C (m_holds 2 (by decide) M hR) hy_X8_holds hv_X8_holds hl_X8_157 hR.1 rfl rfl rfl rfl (by decide) (by decide) (by omega) (by omega) rfl (by exact Nat.le_of_ble_eq_true rfl) dX8_turn_84 (fun v84 M hp84 => ?_)
              obtain ⟨S1, ⟨rfl, hs⟩, hR⟩ := hp84
              rw [hs] at hR
              clear hs
              refine zif_ne_f (tgt := 92) C dX8_turn_87 (by decide) (by decide) ?_
              refine zconst (v := 0) C dX8_turn_90 (by decide) ?_
              exact zend_i C hE dX8_turn_91 (by omega) (by omega) ⟨_, by first | (simp [o_turn, z30, zsA_g, zsN_g, zsN_2, zsA_1, zsA_c, zsA_l, zsL_g, zsL_1, zsL_c, zsL_a, zsN_N, courtOn_th, faithAt_th, lawOf_th, ruleOn_th, isGrown_th, canWit_th, lasting_th, isMinor_th, isWonAt_th, canJudge_th, canTest_th, heard_th, bothLive_th, lowestMarriage_th, kids_th, h5, epn, h13, ecn, h21, ean, h30, ebn, h43, h48]; done) | (simp_all [o_turn, z30, zsA_g, zsN_g, zsN_2, zsA_1, zsA_c, zsA_l, zsL_g, zsL_1, zsL_c, zsL_a, zsN_N, courtOn_th, faithAt_th, lawOf_th, ruleOn_th, isGrown_th, canWit_th, lasting_th, isMinor_th, isWonAt_th, canJudge_th, canTest_th, heard_th, bothLive_th, lowestMarriage_th, kids_th, h5, epn, h13, ecn, h21, ean, h30, ebn, h43, h48]; done), hR⟩
            · refine ziload C dX8_turn_51 rfl ?_
              refine ziload_n C dX8_turn_53 rfl ?_
              refine zicmp_eq (tgt := 61) C dX8_turn_54 (by decide) (fun h54 => ?_) (fun h54 => ?_)
              · refine zconst (v := 0) C dX8_turn_61 (by decide) ?_
                refine zistore (L1 := [_, _, _, _, _, _, _, _]) C dX8_turn_62 rfl (Nat.le_of_ble_eq_true rfl) ?_
                refine zaload_n C dX8_turn_64 rfl ?_
                refine ziload C dX8_turn_65 rfl ?_
                refine zif_ne_t (tgt := 74) C dX8_turn_67 (by decide) (by decide) ?_
                refine ziload C dX8_turn_74 rfl ?_
                refine zif_eq_t (tgt := 83) C dX8_turn_76 (by decide) (by decide) ?_
                refine zconst (v := 2) C dX8_turn_83 (by decide) ?_
                refine zcallV C (m_holds 2 (by decide) M hR) hy_X8_holds hv_X8_holds hl_X8_157 hR.1 rfl rfl rfl rfl (by decide) (by decide) (by omega) (by omega) rfl (by exact Nat.le_of_ble_eq_true rfl) dX8_turn_84 (fun v84 M hp84 => ?_)
                obtain ⟨S1, ⟨rfl, hs⟩, hR⟩ := hp84
                rw [hs] at hR
                clear hs
                refine zif_ne_f (tgt := 92) C dX8_turn_87 (by decide) (by decide) ?_
                refine zconst (v := 0) C dX8_turn_90 (by decide) ?_
                exact zend_i C hE dX8_turn_91 (by omega) (by omega) ⟨_, by first | (simp [o_turn, z30, zsA_g, zsN_g, zsN_2, zsA_1, zsA_c, zsA_l, zsL_g, zsL_1, zsL_c, zsL_a, zsN_N, courtOn_th, faithAt_th, lawOf_th, ruleOn_th, isGrown_th, canWit_th, lasting_th, isMinor_th, isWonAt_th, canJudge_th, canTest_th, heard_th, bothLive_th, lowestMarriage_th, kids_th, h5, epn, h13, ecn, h21, ean, h30, ebn, h43, h48, h54]; done) | (simp_all [o_turn, z30, zsA_g, zsN_g, zsN_2, zsA_1, zsA_c, zsA_l, zsL_g, zsL_1, zsL_c, zsL_a, zsN_N, courtOn_th, faithAt_th, lawOf_th, ruleOn_th, isGrown_th, canWit_th, lasting_th, isMinor_th, isWonAt_th, canJudge_th, canTest_th, heard_th, bothLive_th, lowestMarriage_th, kids_th, h5, epn, h13, ecn, h21, ean, h30, ebn, h43, h48, h54]; done), hR⟩
              · refine zconst (v := 1) C dX8_turn_57 (by decide) ?_
                refine zgoto (tgt := 62) C dX8_turn_58 (by decide) ?_
                refine zistore (L1 := [_, _, _, _, _, _, _, _]) C dX8_turn_62 rfl (Nat.le_of_ble_eq_true rfl) ?_
                refine zaload_n C dX8_turn_64 rfl ?_
                refine ziload C dX8_turn_65 rfl ?_
                refine zif_ne_t (tgt := 74) C dX8_turn_67 (by decide) (by decide) ?_
                refine ziload C dX8_turn_74 rfl ?_
                refine zif_eq_f (tgt := 83) C dX8_turn_76 (by decide) (by decide) ?_
                refine zconst (v := 0) C dX8_turn_79 (by decide) ?_
                refine zgoto (tgt := 84) C dX8_turn_80 (by decide) ?_
                refine zcallV C (m_holds 0 (by decide) M hR) hy_X8_holds hv_X8_holds hl_X8_157 hR.1 rfl rfl rfl rfl (by decide) (by decide) (by omega) (by omega) rfl (by exact Nat.le_of_ble_eq_true rfl) dX8_turn_84 (fun v84 M hp84 => ?_)
                obtain ⟨S1, ⟨rfl, hs⟩, hR⟩ := hp84
                rw [hs] at hR
                clear hs
                refine zif_ne_t (tgt := 92) C dX8_turn_87 (by decide) (by decide) ?_
                refine zaload_n C dX8_turn_92 rfl ?_
                refine ziload_n C dX8_turn_93 rfl ?_
                refine zcallV C (m_isGrown (S := th S 0) pn (by omega) M hR) hy_X8_isGrown hv_X8_isGrown hl_X8_205 hR.1 rfl rfl rfl rfl (by decide) (by decide) (by omega) (by omega) rfl (by exact Nat.le_of_ble_eq_true rfl) dX8_turn_94 (fun v94 M hp94 => ?_)
                obtain ⟨S1, ⟨hv, hs⟩, hR⟩ := hp94
                have hv : v94 = b2i (isGrown S pn) := hv
                subst hv
                rw [hs] at hR
                clear hs
                refine zif_eq (tgt := 127) C dX8_turn_97 (by decide) (fun h97 => ?_) (fun h97 => ?_)
                · replace h97 := b2i_0.mp h97
                  refine zconst (v := 0) C dX8_turn_127 (by decide) ?_
                  refine zistore (L1 := [_, _, _, _, _, _, _, _]) C dX8_turn_128 rfl (Nat.le_of_ble_eq_true rfl) ?_
                  refine zaload_n C dX8_turn_130 rfl ?_
                  refine ziload C dX8_turn_131 rfl ?_
                  refine zif_eq_t (tgt := 159) C dX8_turn_133 (by decide) (by decide) ?_
                  refine zconst (v := 3) C dX8_turn_159 (by decide) ?_
                  refine zcallV C (m_holds (S := th S 0) 3 (by decide) M hR) hy_X8_holds hv_X8_holds hl_X8_157 hR.1 rfl rfl rfl rfl (by decide) (by decide) (by omega) (by omega) rfl (by exact Nat.le_of_ble_eq_true rfl) dX8_turn_160 (fun v160 M hp160 => ?_)
                  obtain ⟨S1, ⟨rfl, hs⟩, hR⟩ := hp160
                  rw [hs] at hR
                  clear hs
                  refine zif_ne_f (tgt := 168) C dX8_turn_163 (by decide) (by decide) ?_
                  refine zconst (v := 0) C dX8_turn_166 (by decide) ?_
                  exact zend_i C hE dX8_turn_167 (by omega) (by omega) ⟨_, by first | (simp [o_turn, z30, zsA_g, zsN_g, zsN_2, zsA_1, zsA_c, zsA_l, zsL_g, zsL_1, zsL_c, zsL_a, zsN_N, courtOn_th, faithAt_th, lawOf_th, ruleOn_th, isGrown_th, canWit_th, lasting_th, isMinor_th, isWonAt_th, canJudge_th, canTest_th, heard_th, bothLive_th, lowestMarriage_th, kids_th, h5, epn, h13, ecn, h21, ean, h30, ebn, h43, h48, h54, h97]; done) | (simp_all [o_turn, z30, zsA_g, zsN_g, zsN_2, zsA_1, zsA_c, zsA_l, zsL_g, zsL_1, zsL_c, zsL_a, zsN_N, courtOn_th, faithAt_th, lawOf_th, ruleOn_th, isGrown_th, canWit_th, lasting_th, isMinor_th, isWonAt_th, canJudge_th, canTest_th, heard_th, bothLive_th, lowestMarriage_th, kids_th, h5, epn, h13, ecn, h21, ean, h30, ebn, h43, h48, h54, h97]; done), hR⟩
                · replace h97 := b2i_n0.mp h97
                  refine zaload_n C dX8_turn_100 rfl ?_
                  refine ziload_n C dX8_turn_101 rfl ?_
                  refine zaload_n C dX8_turn_102 rfl ?_
                  refine zmgi C hR hf_X8_154 rfl dX8_turn_103 ?_
                  refine zcallV C (m_faithAt (S := th S 0) pn (nI (S.1 1)) (by omega) (hP pn hpn).1 M hR) hy_X8_faithOn hv_X8_faithOn hl_X8_188 hR.1 rfl rfl rfl rfl (by decide) (by decide) (by omega) (by omega) rfl (by exact Nat.le_of_ble_eq_true rfl) dX8_turn_106 (fun v106 M hp106 => ?_)
                  obtain ⟨S1, ⟨hv, hs⟩, hR⟩ := hp106
                  have hv : v106 = faithAt S pn (nI (S.1 1)) := hv
                  subst hv
                  rw [hs] at hR
                  clear hs
                  refine ziload_n C dX8_turn_109 rfl ?_
                  refine zicmp_eq (tgt := 127) C dX8_turn_110 (by decide) (fun h110 => ?_) (fun h110 => ?_)
                  · refine zconst (v := 0) C dX8_turn_127 (by decide) ?_
                    refine zistore (L1 := [_, _, _, _, _, _, _, _]) C dX8_turn_128 rfl (Nat.le_of_ble_eq_true rfl) ?_
                    refine zaload_n C dX8_turn_130 rfl ?_
                    refine ziload C dX8_turn_131 rfl ?_
                    refine zif_eq_t (tgt := 159) C dX8_turn_133 (by decide) (by decide) ?_
                    refine zconst (v := 3) C dX8_turn_159 (by decide) ?_
                    refine zcallV C (m_holds (S := th S 0) 3 (by decide) M hR) hy_X8_holds hv_X8_holds hl_X8_157 hR.1 rfl rfl rfl rfl (by decide) (by decide) (by omega) (by omega) rfl (by exact Nat.le_of_ble_eq_true rfl) dX8_turn_160 (fun v160 M hp160 => ?_)
                    obtain ⟨S1, ⟨rfl, hs⟩, hR⟩ := hp160
                    rw [hs] at hR
                    clear hs
                    refine zif_ne_f (tgt := 168) C dX8_turn_163 (by decide) (by decide) ?_
                    refine zconst (v := 0) C dX8_turn_166 (by decide) ?_
                    exact zend_i C hE dX8_turn_167 (by omega) (by omega) ⟨_, by first | (simp [o_turn, z30, zsA_g, zsN_g, zsN_2, zsA_1, zsA_c, zsA_l, zsL_g, zsL_1, zsL_c, zsL_a, zsN_N, courtOn_th, faithAt_th, lawOf_th, ruleOn_th, isGrown_th, canWit_th, lasting_th, isMinor_th, isWonAt_th, canJudge_th, canTest_th, heard_th, bothLive_th, lowestMarriage_th, kids_th, h5, epn, h13, ecn, h21, ean, h30, ebn, h43, h48, h54, h97, h110]; done) | (simp_all [o_turn, z30, zsA_g, zsN_g, zsN_2, zsA_1, zsA_c, zsA_l, zsL_g, zsL_1, zsL_c, zsL_a, zsN_N, courtOn_th, faithAt_th, lawOf_th, ruleOn_th, isGrown_th, canWit_th, lasting_th, isMinor_th, isWonAt_th, canJudge_th, canTest_th, heard_th, bothLive_th, lowestMarriage_th, kids_th, h5, epn, h13, ecn, h21, ean, h30, ebn, h43, h48, h54, h97, h110]; done), hR⟩
                  · refine zaload_n C dX8_turn_113 rfl ?_
                    refine zmga C hR hf_X8_61 rfl dX8_turn_114 ?_
                    refine ziload_n C dX8_turn_117 rfl ?_
                    refine zmia C hR rfl rfl rfl (show _ < 40 from by omega) dX8_turn_118 ?_
                    refine zconst (v := -1) C dX8_turn_119 (by decide) ?_
                    refine zicmp_ne (tgt := 127) C dX8_turn_120 (by decide) (fun h120 => ?_) (fun h120 => ?_)
                    · replace h120 : ¬ S.2.2.1 22 pn = -1 := h120
                      refine zconst (v := 0) C dX8_turn_127 (by decide) ?_
                      refine zistore (L1 := [_, _, _, _, _, _, _, _]) C dX8_turn_128 rfl (Nat.le_of_ble_eq_true rfl) ?_
                      refine zaload_n C dX8_turn_130 rfl ?_
                      refine ziload C dX8_turn_131 rfl ?_
                      refine zif_eq_t (tgt := 159) C dX8_turn_133 (by decide) (by decide) ?_
                      refine zconst (v := 3) C dX8_turn_159 (by decide) ?_
                      refine zcallV C (m_holds (S := th S 0) 3 (by decide) M hR) hy_X8_holds hv_X8_holds hl_X8_157 hR.1 rfl rfl rfl rfl (by decide) (by decide) (by omega) (by omega) rfl (by exact Nat.le_of_ble_eq_true rfl) dX8_turn_160 (fun v160 M hp160 => ?_)
                      obtain ⟨S1, ⟨rfl, hs⟩, hR⟩ := hp160
                      rw [hs] at hR
                      clear hs
                      refine zif_ne_f (tgt := 168) C dX8_turn_163 (by decide) (by decide) ?_
                      refine zconst (v := 0) C dX8_turn_166 (by decide) ?_
                      exact zend_i C hE dX8_turn_167 (by omega) (by omega) ⟨_, by first | (simp [o_turn, z30, zsA_g, zsN_g, zsN_2, zsA_1, zsA_c, zsA_l, zsL_g, zsL_1, zsL_c, zsL_a, zsN_N, courtOn_th, faithAt_th, lawOf_th, ruleOn_th, isGrown_th, canWit_th, lasting_th, isMinor_th, isWonAt_th, canJudge_th, canTest_th, heard_th, bothLive_th, lowestMarriage_th, kids_th, h5, epn, h13, ecn, h21, ean, h30, ebn, h43, h48, h54, h97, h110, h120]; done) | (simp_all [o_turn, z30, zsA_g, zsN_g, zsN_2, zsA_1, zsA_c, zsA_l, zsL_g, zsL_1, zsL_c, zsL_a, zsN_N, courtOn_th, faithAt_th, lawOf_th, ruleOn_th, isGrown_th, canWit_th, lasting_th, isMinor_th, isWonAt_th, canJudge_th, canTest_th, heard_th, bothLive_th, lowestMarriage_th, kids_th, h5, epn, h13, ecn, h21, ean, h30, ebn, h43, h48, h54, h97, h110, h120]; done), hR⟩
                    · replace h120 : S.2.2.1 22 pn = -1 := h120
                      refine zconst (v := 1) C dX8_turn_123 (by decide) ?_
                      refine zgoto (tgt := 128) C dX8_turn_124 (by decide) ?_
                      refine zistore (L1 := [_, _, _, _, _, _, _, _]) C dX8_turn_128 rfl (Nat.le_of_ble_eq_true rfl) ?_
                      refine zaload_n C dX8_turn_130 rfl ?_
                      refine ziload C dX8_turn_131 rfl ?_
                      refine zif_eq_f (tgt := 159) C dX8_turn_133 (by decide) (by decide) ?_
                      refine zaload_n C dX8_turn_136 rfl ?_
                      refine ziload_n C dX8_turn_137 rfl ?_
                      refine ziload_n C dX8_turn_138 rfl ?_
                      refine zcallV C (m_canWitness (S := th S 0) an (nI cn) (by omega) (hP an han).1 M hR) hy_X8_canWitness hv_X8_canWitness hl_X8_208 hR.1 rfl rfl rfl rfl (by decide) (by decide) (by omega) (by omega) rfl (by exact Nat.le_of_ble_eq_true rfl) dX8_turn_139 (fun v139 M hp139 => ?_)
                      obtain ⟨S1, ⟨hv, hs⟩, hR⟩ := hp139
                      have hv : v139 = b2i (canWit S an (nI cn)) := hv
                      subst hv
                      rw [hs] at hR
                      clear hs
                      refine zif_eq (tgt := 159) C dX8_turn_142 (by decide) (fun h142 => ?_) (fun h142 => ?_)
                      · replace h142 := b2i_0.mp h142
                        refine zconst (v := 3) C dX8_turn_159 (by decide) ?_
                        refine zcallV C (m_holds (S := th S 0) 3 (by decide) M hR) hy_X8_holds hv_X8_holds hl_X8_157 hR.1 rfl rfl rfl rfl (by decide) (by decide) (by omega) (by omega) rfl (by exact Nat.le_of_ble_eq_true rfl) dX8_turn_160 (fun v160 M hp160 => ?_)
                        obtain ⟨S1, ⟨rfl, hs⟩, hR⟩ := hp160
                        rw [hs] at hR
                        clear hs
                        refine zif_ne_f (tgt := 168) C dX8_turn_163 (by decide) (by decide) ?_
                        refine zconst (v := 0) C dX8_turn_166 (by decide) ?_
                        exact zend_i C hE dX8_turn_167 (by omega) (by omega) ⟨_, by first | (simp [o_turn, z30, zsA_g, zsN_g, zsN_2, zsA_1, zsA_c, zsA_l, zsL_g, zsL_1, zsL_c, zsL_a, zsN_N, courtOn_th, faithAt_th, lawOf_th, ruleOn_th, isGrown_th, canWit_th, lasting_th, isMinor_th, isWonAt_th, canJudge_th, canTest_th, heard_th, bothLive_th, lowestMarriage_th, kids_th, h5, epn, h13, ecn, h21, ean, h30, ebn, h43, h48, h54, h97, h110, h120, h142]; done) | (simp_all [o_turn, z30, zsA_g, zsN_g, zsN_2, zsA_1, zsA_c, zsA_l, zsL_g, zsL_1, zsL_c, zsL_a, zsN_N, courtOn_th, faithAt_th, lawOf_th, ruleOn_th, isGrown_th, canWit_th, lasting_th, isMinor_th, isWonAt_th, canJudge_th, canTest_th, heard_th, bothLive_th, lowestMarriage_th, kids_th, h5, epn, h13, ecn, h21, ean, h30, ebn, h43, h48, h54, h97, h110, h120, h142]; done), hR⟩
                      · replace h142 := b2i_n0.mp h142
                        refine zaload_n C dX8_turn_145 rfl ?_
                        refine ziload C dX8_turn_146 rfl ?_
                        refine ziload_n C dX8_turn_148 rfl ?_
                        refine zcallV C (m_canWitness (S := th S 0) bn (nI cn) (by omega) (hP bn hbn).1 M hR) hy_X8_canWitness hv_X8_canWitness hl_X8_208 hR.1 rfl rfl rfl rfl (by decide) (by decide) (by omega) (by omega) rfl (by exact Nat.le_of_ble_eq_true rfl) dX8_turn_149 (fun v149 M hp149 => ?_)
                        obtain ⟨S1, ⟨hv, hs⟩, hR⟩ := hp149
                        have hv : v149 = b2i (canWit S bn (nI cn)) := hv
                        subst hv
                        rw [hs] at hR
                        clear hs
                        refine zif_eq (tgt := 159) C dX8_turn_152 (by decide) (fun h152 => ?_) (fun h152 => ?_)
                        · replace h152 := b2i_0.mp h152
                          refine zconst (v := 3) C dX8_turn_159 (by decide) ?_
                          refine zcallV C (m_holds (S := th S 0) 3 (by decide) M hR) hy_X8_holds hv_X8_holds hl_X8_157 hR.1 rfl rfl rfl rfl (by decide) (by decide) (by omega) (by omega) rfl (by exact Nat.le_of_ble_eq_true rfl) dX8_turn_160 (fun v160 M hp160 => ?_)
                          obtain ⟨S1, ⟨rfl, hs⟩, hR⟩ := hp160
                          rw [hs] at hR
                          clear hs
                          refine zif_ne_f (tgt := 168) C dX8_turn_163 (by decide) (by decide) ?_
                          refine zconst (v := 0) C dX8_turn_166 (by decide) ?_
                          exact zend_i C hE dX8_turn_167 (by omega) (by omega) ⟨_, by first | (simp [o_turn, z30, zsA_g, zsN_g, zsN_2, zsA_1, zsA_c, zsA_l, zsL_g, zsL_1, zsL_c, zsL_a, zsN_N, courtOn_th, faithAt_th, lawOf_th, ruleOn_th, isGrown_th, canWit_th, lasting_th, isMinor_th, isWonAt_th, canJudge_th, canTest_th, heard_th, bothLive_th, lowestMarriage_th, kids_th, h5, epn, h13, ecn, h21, ean, h30, ebn, h43, h48, h54, h97, h110, h120, h142, h152]; done) | (simp_all [o_turn, z30, zsA_g, zsN_g, zsN_2, zsA_1, zsA_c, zsA_l, zsL_g, zsL_1, zsL_c, zsL_a, zsN_N, courtOn_th, faithAt_th, lawOf_th, ruleOn_th, isGrown_th, canWit_th, lasting_th, isMinor_th, isWonAt_th, canJudge_th, canTest_th, heard_th, bothLive_th, lowestMarriage_th, kids_th, h5, epn, h13, ecn, h21, ean, h30, ebn, h43, h48, h54, h97, h110, h120, h142, h152]; done), hR⟩
                        · replace h152 := b2i_n0.mp h152
                          refine zconst (v := 0) C dX8_turn_155 (by decide) ?_
                          refine zgoto (tgt := 160) C dX8_turn_156 (by decide) ?_
                          refine zcallV C (m_holds (S := th S 0) 0 (by decide) M hR) hy_X8_holds hv_X8_holds hl_X8_157 hR.1 rfl rfl rfl rfl (by decide) (by decide) (by omega) (by omega) rfl (by exact Nat.le_of_ble_eq_true rfl) dX8_turn_160 (fun v160 M hp160 => ?_)
                          obtain ⟨S1, ⟨rfl, hs⟩, hR⟩ := hp160
                          rw [hs] at hR
                          clear hs
                          refine zif_ne_t (tgt := 168) C dX8_turn_163 (by decide) (by decide) ?_
                          refine zaload_n C dX8_turn_168 rfl ?_
                          refine zmga C hR hf_X8_61 rfl dX8_turn_169 ?_
                          refine ziload_n C dX8_turn_172 rfl ?_
                          refine ziload_n C dX8_turn_173 rfl ?_
                          refine zmis C hR rfl rfl rfl (show _ < 40 from by omega) dX8_turn_174 (fun M hR => ?_)
                          refine zaload_n C dX8_turn_175 rfl ?_
                          refine zmga C hR hf_X8_64 rfl dX8_turn_176 ?_
                          refine ziload_n C dX8_turn_179 rfl ?_
                          refine zaload_n C dX8_turn_180 rfl ?_
                          refine zmgi C hR hf_X8_154 rfl dX8_turn_181 ?_
                          refine zbipush (v := 30) C dX8_turn_184 (by decide) ?_
                          refine ziadd C dX8_turn_186 ?_
                          rw [show nI ((zsA (th (th S 0) 0) 22 (upd ((th (th S 0) 0).2.2.1 22) pn (nI cn))).1 1) + 30 = nI (S.1 1 + 30) from nI_add (S.1 1) 30]
                          refine zmis C hR rfl rfl rfl (show _ < 40 from by omega) dX8_turn_187 (fun M hR => ?_)
                          refine zaload_n C dX8_turn_188 rfl ?_
                          refine zmgi C hR hf_X8_154 rfl dX8_turn_189 ?_
                          refine zbipush (v := 30) C dX8_turn_192 (by decide) ?_
                          refine ziadd C dX8_turn_194 ?_
                          exact zend_i C hE dX8_turn_195 (by omega) (by omega) ⟨_, by first | (simp [o_turn, z30, zsA_g, zsN_g, zsN_2, zsA_1, zsA_c, zsA_l, zsL_g, zsL_1, zsL_c, zsL_a, zsN_N, courtOn_th, faithAt_th, lawOf_th, ruleOn_th, isGrown_th, canWit_th, lasting_th, isMinor_th, isWonAt_th, canJudge_th, canTest_th, heard_th, bothLive_th, lowestMarriage_th, kids_th, h5, epn, h13, ecn, h21, ean, h30, ebn, h43, h48, h54, h97, h110, h120, h142, h152]; done) | (simp_all [o_turn, z30, zsA_g, zsN_g, zsN_2, zsA_1, zsA_c, zsA_l, zsL_g, zsL_1, zsL_c, zsL_a, zsN_N, courtOn_th, faithAt_th, lawOf_th, ruleOn_th, isGrown_th, canWit_th, lasting_th, isMinor_th, isWonAt_th, canJudge_th, canTest_th, heard_th, bothLive_th, lowestMarriage_th, kids_th, h5, epn, h13, ecn, h21, ean, h30, ebn, h43, h48, h54, h97, h110, h120, h142, h152]; done), hR⟩
set_option maxRecDepth 100000 in
set_option maxHeartbeats 1000000 in
theorem m_paysDower {g : zGh} {M0 : zM} {mo : Nat} {ad : Nat → Nat} {S : zS} (m h w : Nat) (hm : m < 30) (hh : h < 40) (hw : w < 40) (eh : S.2.2.1 26 m = nI h) (ew : S.2.2.1 27 m = nI w) : zMc g M0 mo ad yX8_paysDower cX8_paysDower 5 none 0 0 mkV [.int (nI m)] S (fun v S1 => S1 = paysS S m h w) := by
  intro M hR
  refine zof [some (.ref mo), some (.int (nI m)), none, none, none] (by decide +kernel) rfl rfl (Nat.le_of_ble_eq_true rfl) ?_
  intro X C hE hnm
  have C : zC g X RX8 cX8_paysDower 5 0 0 0 0 := C
  refine zaload_n C dX8_paysDower_0 rfl ?_
  refine zmga C hR hf_X8_70 rfl dX8_paysDower_1 ?_
  refine ziload_n C dX8_paysDower_4 rfl ?_
  refine zmia C hR rfl rfl rfl (show _ < 30 from by omega) dX8_paysDower_5 ?_
  rw [eh]
  refine zistore_n (L1 := [_, _, _, _, _]) C dX8_paysDower_6 rfl (Nat.le_of_ble_eq_true rfl) ?_
  refine zjnL 40 (fun x => x = payI S m h) (fun J7_2 => ?_) (fun x7 hx7 => ?_)
  · refine zaload_n C dX8_paysDower_7 rfl ?_
    refine zmga C hR hf_X8_50 rfl dX8_paysDower_8 ?_
    refine ziload_n C dX8_paysDower_11 rfl ?_
    refine zmla C hR rfl rfl rfl (show _ < 40 from by omega) dX8_paysDower_12 ?_
    refine zaload_n C dX8_paysDower_13 rfl ?_
    refine zmga C hR hf_X8_79 rfl dX8_paysDower_14 ?_
    refine ziload_n C dX8_paysDower_17 rfl ?_
    refine zmia C hR rfl rfl rfl (show _ < 30 from by omega) dX8_paysDower_18 ?_
    refine zi2l C dX8_paysDower_19 ?_
    refine zlcmp C dX8_paysDower_20 ?_
    refine zif_ge (tgt := 33) C dX8_paysDower_21 (by decide) (fun h21 => ?_) (fun h21 => ?_)
    · replace h21 := (lg_cmp_ge _ _).mp h21
      replace h21 := zlt_jf h21
      refine zaload_n C dX8_paysDower_33 rfl ?_
      refine zmga C hR hf_X8_79 rfl dX8_paysDower_34 ?_
      refine ziload_n C dX8_paysDower_37 rfl ?_
      refine zmia C hR rfl rfl rfl (show _ < 30 from by omega) dX8_paysDower_38 ?_
      refine zi2l C dX8_paysDower_39 ?_
      exact J7_2 _ (by simp [payI, zlt_jf, zlt_jt, h21])
    · replace h21 := mt (lg_cmp_ge _ _).mpr h21
      replace h21 := zlt_jt h21
      refine zaload_n C dX8_paysDower_24 rfl ?_
      refine zmga C hR hf_X8_50 rfl dX8_paysDower_25 ?_
      refine ziload_n C dX8_paysDower_28 rfl ?_
      refine zmla C hR rfl rfl rfl (show _ < 40 from by omega) dX8_paysDower_29 ?_
      refine zgoto (tgt := 40) C dX8_paysDower_30 (by decide) ?_
      exact J7_2 _ (by simp [payI, zlt_jf, zlt_jt, h21])
  · subst hx7
    refine zlstore_n (L1 := [_, _, _, _, _]) C dX8_paysDower_40 rfl (Nat.le_of_ble_eq_true rfl) ?_
    refine zaload_n C dX8_paysDower_41 rfl ?_
    refine zmga C hR hf_X8_50 rfl dX8_paysDower_42 ?_
    refine ziload_n C dX8_paysDower_45 rfl ?_
    refine zdup2_11 C dX8_paysDower_46 rfl rfl ?_
    refine zmla C hR rfl rfl rfl (show _ < 40 from by omega) dX8_paysDower_47 ?_
    refine zlload_n C dX8_paysDower_48 rfl ?_
    refine zlsub C dX8_paysDower_49 ?_
    refine zmls C hR rfl rfl rfl (show _ < 40 from by omega) dX8_paysDower_50 (fun M hR => ?_)
    refine zaload_n C dX8_paysDower_51 rfl ?_
    refine zmga C hR hf_X8_50 rfl dX8_paysDower_52 ?_
    refine zaload_n C dX8_paysDower_55 rfl ?_
    refine zmga C hR hf_X8_73 rfl dX8_paysDower_56 ?_
    refine ziload_n C dX8_paysDower_59 rfl ?_
    refine zmia C hR rfl rfl rfl (show _ < 30 from by omega) dX8_paysDower_60 ?_
    rw [show (zsL S 19 (vp_updL (S.2.2.2 19) h (S.2.2.2 19 h - payI S m h))).2.2.1 27 m = nI w from ew]
    refine zdup2_11 C dX8_paysDower_61 rfl rfl ?_
    refine zmla C hR rfl rfl rfl (show _ < 40 from by omega) dX8_paysDower_62 ?_
    refine zlload_n C dX8_paysDower_63 rfl ?_
    refine zladd C dX8_paysDower_64 ?_
    refine zmls C hR rfl rfl rfl (show _ < 40 from by omega) dX8_paysDower_65 (fun M hR => ?_)
    refine zaload_n C dX8_paysDower_66 rfl ?_
    refine zmga C hR hf_X8_79 rfl dX8_paysDower_67 ?_
    refine ziload_n C dX8_paysDower_70 rfl ?_
    refine zconst (v := 0) C dX8_paysDower_71 (by decide) ?_
    refine zmis C hR rfl rfl rfl (show _ < 30 from by omega) dX8_paysDower_72 (fun M hR => ?_)
    exact zend_v C hE dX8_paysDower_73 (by omega) (by omega) ⟨_, by simp [paysS, move, zsA_g, zsL_g, zsL_a], hR⟩
set_option maxRecDepth 100000 in
set_option maxHeartbeats 1000000 in
theorem m_goods {g : zGh} {M0 : zM} {mo : Nat} {ad : Nat → Nat} {S : zS} (p x : Int32) (hi : iB S) : zMc g M0 mo ad yX8_goods cX8_goods 4 (some .long) 2 43 mkL [.int p, .int x] S (fun v S1 => (S1, v) = o_goods S p x) := by
  intro M hR
  refine zof [some (.ref mo), some (.int p), some (.int x), none] (by decide +kernel) rfl rfl (Nat.le_of_ble_eq_true rfl) ?_
  intro X C hE hnm
  have C : zC g X RX8 cX8_goods 4 2 43 0 0 := C
  obtain ⟨hb1, hb2, hb4, hb9, hb13, hb25, hb33⟩ := id hi
  refine zaload_n C dX8_goods_0 rfl ?_
  refine ziload_n C dX8_goods_1 rfl ?_
  refine zcallV C (m_isPerson p (by omega) M hR) hy_X8_isPerson hv_X8_isPerson hl_X8_191 hR.1 rfl rfl rfl rfl (by decide) (by decide) (by omega) (by omega) rfl (by exact Nat.le_of_ble_eq_true rfl) dX8_goods_2 (fun v2 M hp2 => ?_)
  obtain ⟨S1, ⟨rfl, hs⟩, hR⟩ := hp2
  rw [hs] at hR
  clear hs
  refine zistore_n (L1 := [_, _, _, _]) C dX8_goods_5 rfl (Nat.le_of_ble_eq_true rfl) ?_
  refine zaload_n C dX8_goods_6 rfl ?_
  refine ziload_n C dX8_goods_7 rfl ?_
  refine zif_ne (tgt := 15) C dX8_goods_8 (by decide) (fun h8 => ?_) (fun h8 => ?_)
  · replace h8 := b2i_n0.mp h8
    obtain ⟨pn, hpn, rfl⟩ := zix_of h8 (by omega)
    have epn := nI_clamp (show pn < 2 ^ 31 by omega)
    refine ziload_n C dX8_goods_15 rfl ?_
    refine zconst (v := 1) C dX8_goods_16 (by decide) ?_
    refine zldc C hk_X8_222 dX8_goods_17 ?_
    refine zcallS C (m_in x 1 1000000) hy_X8_in hst_X8_in hl_X8_137 rfl rfl (by decide) (by decide) (by omega) (by omega) rfl (by exact Nat.le_of_ble_eq_true rfl) dX8_goods_19 (fun v19 M hp19 => ?_)
    obtain ⟨rfl, rfl⟩ := hp19
    refine zif_ne (tgt := 29) C dX8_goods_22 (by decide) (fun h22 => ?_) (fun h22 => ?_)
    · replace h22 := b2i_n0.mp h22
      refine zaload_n C dX8_goods_29 rfl ?_
      refine zmga C hR hf_X8_47 rfl dX8_goods_30 ?_
      refine ziload_n C dX8_goods_33 rfl ?_
      refine zmza C hR rfl rfl rfl (show _ < 40 from by omega) dX8_goods_34 ?_
      refine zif_eq (tgt := 42) C dX8_goods_35 (by decide) (fun h35 => ?_) (fun h35 => ?_)
      · refine zconst (v := 0) C dX8_goods_42 (by decide) ?_
        refine zcallV C (m_holds 0 (by decide) M hR) hy_X8_holds hv_X8_holds hl_X8_157 hR.1 rfl rfl rfl rfl (by decide) (by decide) (by omega) (by omega) rfl (by exact Nat.le_of_ble_eq_true rfl) dX8_goods_43 (fun v43 M hp43 => ?_)
        obtain ⟨S1, ⟨rfl, hs⟩, hR⟩ := hp43
        rw [hs] at hR
        clear hs
        refine zif_ne_t (tgt := 51) C dX8_goods_46 (by decide) (by decide) ?_
        refine zaload_n C dX8_goods_51 rfl ?_
        refine zmga C hR hf_X8_50 rfl dX8_goods_52 ?_
        refine ziload_n C dX8_goods_55 rfl ?_
        refine zdup2_11 C dX8_goods_56 rfl rfl ?_
        refine zmla C hR rfl rfl rfl (show _ < 40 from by omega) dX8_goods_57 ?_
        refine ziload_n C dX8_goods_58 rfl ?_
        refine zi2l C dX8_goods_59 ?_
        refine zladd C dX8_goods_60 ?_
        refine zmls C hR rfl rfl rfl (show _ < 40 from by omega) dX8_goods_61 (fun M hR => ?_)
        refine zaload_n C dX8_goods_62 rfl ?_
        refine zmga C hR hf_X8_50 rfl dX8_goods_63 ?_
        refine ziload_n C dX8_goods_66 rfl ?_
        refine zmla C hR rfl rfl rfl (show _ < 40 from by omega) dX8_goods_67 ?_
        exact zend_l C hE dX8_goods_68 (by omega) (by omega) ⟨_, by first | (simp [o_goods, rng, vp_updL, zsA_g, zsN_g, zsN_2, zsA_1, zsA_c, zsA_l, zsL_g, zsL_1, zsL_c, zsL_a, zsN_N, h8, epn, h22, h35]; done) | (simp_all [o_goods, rng, vp_updL, zsA_g, zsN_g, zsN_2, zsA_1, zsA_c, zsA_l, zsL_g, zsL_1, zsL_c, zsL_a, zsN_N, h8, epn, h22, h35]; done), hR⟩
      · refine zconst (v := 3) C dX8_goods_38 (by decide) ?_
        refine zgoto (tgt := 43) C dX8_goods_39 (by decide) ?_
        refine zcallV C (m_holds 3 (by decide) M hR) hy_X8_holds hv_X8_holds hl_X8_157 hR.1 rfl rfl rfl rfl (by decide) (by decide) (by omega) (by omega) rfl (by exact Nat.le_of_ble_eq_true rfl) dX8_goods_43 (fun v43 M hp43 => ?_)
        obtain ⟨S1, ⟨rfl, hs⟩, hR⟩ := hp43
        rw [hs] at hR
        clear hs
        refine zif_ne_f (tgt := 51) C dX8_goods_46 (by decide) (by decide) ?_
        refine zlconst (v := 0) C dX8_goods_49 rfl ?_
        exact zend_l C hE dX8_goods_50 (by omega) (by omega) ⟨_, by first | (simp [o_goods, rng, vp_updL, zsA_g, zsN_g, zsN_2, zsA_1, zsA_c, zsA_l, zsL_g, zsL_1, zsL_c, zsL_a, zsN_N, h8, epn, h22, h35]; done) | (simp_all [o_goods, rng, vp_updL, zsA_g, zsN_g, zsN_2, zsA_1, zsA_c, zsA_l, zsL_g, zsL_1, zsL_c, zsL_a, zsN_N, h8, epn, h22, h35]; done), hR⟩
    · replace h22 := b2i_0.mp h22
      refine zconst (v := 2) C dX8_goods_25 (by decide) ?_
      refine zgoto (tgt := 43) C dX8_goods_26 (by decide) ?_
      refine zcallV C (m_holds 2 (by decide) M hR) hy_X8_holds hv_X8_holds hl_X8_157 hR.1 rfl rfl rfl rfl (by decide) (by decide) (by omega) (by omega) rfl (by exact Nat.le_of_ble_eq_true rfl) dX8_goods_43 (fun v43 M hp43 => ?_)
      obtain ⟨S1, ⟨rfl, hs⟩, hR⟩ := hp43
      rw [hs] at hR
      clear hs
      refine zif_ne_f (tgt := 51) C dX8_goods_46 (by decide) (by decide) ?_
      refine zlconst (v := 0) C dX8_goods_49 rfl ?_
      exact zend_l C hE dX8_goods_50 (by omega) (by omega) ⟨_, by first | (simp [o_goods, rng, vp_updL, zsA_g, zsN_g, zsN_2, zsA_1, zsA_c, zsA_l, zsL_g, zsL_1, zsL_c, zsL_a, zsN_N, h8, epn, h22]; done) | (simp_all [o_goods, rng, vp_updL, zsA_g, zsN_g, zsN_2, zsA_1, zsA_c, zsA_l, zsL_g, zsL_1, zsL_c, zsL_a, zsN_N, h8, epn, h22]; done), hR⟩
  · replace h8 := b2i_0.mp h8
    refine zconst (v := 1) C dX8_goods_11 (by decide) ?_
    refine zgoto (tgt := 43) C dX8_goods_12 (by decide) ?_
    refine zcallV C (m_holds 1 (by decide) M hR) hy_X8_holds hv_X8_holds hl_X8_157 hR.1 rfl rfl rfl rfl (by decide) (by decide) (by omega) (by omega) rfl (by exact Nat.le_of_ble_eq_true rfl) dX8_goods_43 (fun v43 M hp43 => ?_)
    obtain ⟨S1, ⟨rfl, hs⟩, hR⟩ := hp43
    rw [hs] at hR
    clear hs
    refine zif_ne_f (tgt := 51) C dX8_goods_46 (by decide) (by decide) ?_
    refine zlconst (v := 0) C dX8_goods_49 rfl ?_
    exact zend_l C hE dX8_goods_50 (by omega) (by omega) ⟨_, by first | (simp [o_goods, rng, vp_updL, zsA_g, zsN_g, zsN_2, zsA_1, zsA_c, zsA_l, zsL_g, zsL_1, zsL_c, zsL_a, zsN_N, h8]; done) | (simp_all [o_goods, rng, vp_updL, zsA_g, zsN_g, zsN_2, zsA_1, zsA_c, zsA_l, zsL_g, zsL_1, zsL_c, zsL_a, zsN_N, h8]; done), hR⟩
