theorem zsL_L (S : zS) (j : Nat) (f h : Nat → Int64) : zsL (zsL S j f) j h = zsL S j h := by
  unfold zsL
  simp only [zup_up]
theorem zsL_id (S : zS) (j : Nat) : zsL S j (S.2.2.2 j) = S := by
  obtain ⟨a, b, c, d⟩ := S
  unfold zsL
  congr
  funext i
  unfold va_up
  split
  · rename_i h; rw [h]
  · rfl
set_option maxRecDepth 100000 in
set_option maxHeartbeats 1000000 in
theorem m_gives {g : zGh} {M0 : zM} {mo : Nat} {ad : Nat → Nat} {S : zS} (cents : Int64) (man : Nat) (hb13 : S.1 13 ≤ 40) (hm : man ≤ 2) (hu : 0 < units S man) : zMc g M0 mo ad yX8_gives cX8_gives 9 none 1 23 mkV [.long cents, .int (nI man)] S (fun v S1 => S1 = givesS S cents man) := by
  intro M hR
  refine zof [some (.ref mo), some (.long cents), none, some (.int (nI man)), none, none, none, none, none] (by decide +kernel) rfl rfl (Nat.le_of_ble_eq_true rfl) ?_
  intro X C hE hnm
  have C : zC g X RX8 cX8_gives 9 1 23 0 0 := C
  have hu8 : units S man ≤ 80 := by have := unitsL_le (S.2.2.1 14) (S.2.2.1 47) man hm (S.1 13); unfold units; omega
  obtain ⟨ea, ee⟩ : ∃ x, x = eachOf S cents man := ⟨_, rfl⟩
  obtain ⟨le, el⟩ : ∃ x, x = leftOf S cents man := ⟨_, rfl⟩
  have loop : ∀ (r i : Nat), i + r = S.1 13 → ∀ M, zR g M0 mo ad (zsL S 19 (givL (S.2.2.1 14) (S.2.2.1 47) (nI man).toInt64 ea (S.2.2.2 19) le i).1) M → zG g X M 0 0 26 [some (.ref mo), some (.long cents), none, some (.int (nI man)), some (.long ea), none, some (.long (givL (S.2.2.1 14) (S.2.2.1 47) (nI man).toInt64 ea (S.2.2.2 19) le i).2), none, some (.int (nI i))] [] := by
    intro r
    induction r with
    | zero =>
      intro i hi M hR
      refine ziload C dX8_gives_26 rfl ?_
      refine zaload_n C dX8_gives_28 rfl ?_
      refine zmgi C hR hf_X8_145 rfl dX8_gives_29 ?_
      rw [show (zsL S 19 (givL (S.2.2.1 14) (S.2.2.1 47) (nI man).toInt64 ea (S.2.2.2 19) le i).1).1 13 = S.1 13 from rfl]
      refine zicmp_ge (tgt := 87) C dX8_gives_32 (by decide) (fun h32 => ?_) (fun h32 => by first | exact absurd (nI_le (by omega) (by omega)) h32 | exact absurd h32 (nI_le (by omega) (by omega)))
      exact zend_v C hE dX8_gives_87 (by omega) (by omega) ⟨_, by rw [givesS, ← ee, ← el, show S.1 13 = i by omega], hR⟩
    | succ r ih =>
      intro i hi M hR
      refine ziload C dX8_gives_26 rfl ?_
      refine zaload_n C dX8_gives_28 rfl ?_
      refine zmgi C hR hf_X8_145 rfl dX8_gives_29 ?_
      rw [show (zsL S 19 (givL (S.2.2.1 14) (S.2.2.1 47) (nI man).toInt64 ea (S.2.2.2 19) le i).1).1 13 = S.1 13 from rfl]
      refine zicmp_ge (tgt := 87) C dX8_gives_32 (by decide) (fun h32 => by first | exact absurd h32 (nI_ge (by omega) (by omega)) | exact absurd (nI_ge (by omega) (by omega)) h32) (fun h32 => ?_)
      refine zaload_n C dX8_gives_35 rfl ?_
      refine zmga C hR hf_X8_127 rfl dX8_gives_36 ?_
      refine ziload C dX8_gives_39 rfl ?_
      refine zmza C hR rfl rfl rfl (show _ < 40 from by omega) dX8_gives_41 ?_
      refine zif_eq (tgt := 81) C dX8_gives_42 (by decide) (fun h42 => ?_) (fun h42 => ?_)
      · replace h42 : S.2.2.1 47 i = 0 := h42
        refine ziinc (L1 := [_, _, _, _, _, _, _, _, _]) (v := nI (i + 1)) C dX8_gives_81 rfl (nI_1 i) rfl ?_
        refine zgoto (tgt := 26) C dX8_gives_84 (by decide) ?_
        refine zcg (ih (i + 1) (by omega) M (hR.eqv (by simp [givL, h42, zsL_L, zsL_g]))) (by simp [zk1, zk2, givL, h42])
      · replace h42 : ¬ S.2.2.1 47 i = 0 := h42
        refine zaload_n C dX8_gives_45 rfl ?_
        refine zmga C hR hf_X8_50 rfl dX8_gives_46 ?_
        refine ziload C dX8_gives_49 rfl ?_
        refine zdup2_11 C dX8_gives_51 rfl rfl ?_
        refine zmla C hR rfl rfl rfl (show _ < 40 from by omega) dX8_gives_52 ?_
        refine zjnL 73 (fun x => x = if S.2.2.1 14 i = 0 then ea else (nI man).toInt64 * ea) (fun J53_2 => ?_) (fun x53 hx53 => ?_)
        · refine zaload_n C dX8_gives_53 rfl ?_
          refine zmga C hR hf_X8_34 rfl dX8_gives_54 ?_
          refine ziload C dX8_gives_57 rfl ?_
          refine zmza C hR rfl rfl rfl (show _ < 40 from by omega) dX8_gives_59 ?_
          refine zif_eq (tgt := 71) C dX8_gives_60 (by decide) (fun h60 => ?_) (fun h60 => ?_)
          · replace h60 : S.2.2.1 14 i = 0 := h60
            refine zlload C dX8_gives_71 rfl ?_
            exact J53_2 _ (by simp [h60])
          · replace h60 : ¬ S.2.2.1 14 i = 0 := h60
            refine ziload_n C dX8_gives_63 rfl ?_
            refine zi2l C dX8_gives_64 ?_
            refine zlload C dX8_gives_65 rfl ?_
            refine zlmul C dX8_gives_67 ?_
            refine zgoto (tgt := 73) C dX8_gives_68 (by decide) ?_
            exact J53_2 _ (by simp [h60])
        · subst hx53
          refine zlload C dX8_gives_73 rfl ?_
          refine zladd C dX8_gives_75 ?_
          refine zladd C dX8_gives_76 ?_
          refine zmls C hR rfl rfl rfl (show _ < 40 from by omega) dX8_gives_77 (fun M hR => ?_)
          refine zlconst (v := 0) C dX8_gives_78 rfl ?_
          refine zlstore (L1 := [_, _, _, _, _, _, _, _, _]) C dX8_gives_79 rfl (Nat.le_of_ble_eq_true rfl) ?_
          refine ziinc (L1 := [_, _, _, _, _, _, _, _, _]) (v := nI (i + 1)) C dX8_gives_81 rfl (nI_1 i) rfl ?_
          refine zgoto (tgt := 26) C dX8_gives_84 (by decide) ?_
          refine zcg (ih (i + 1) (by omega) M (hR.eqv (by simp [givL, h42, zsL_L, zsL_g]))) (by simp [zk1, zk2, givL, h42])
  refine zlload_n C dX8_gives_0 rfl ?_
  refine zaload_n C dX8_gives_1 rfl ?_
  refine ziload_n C dX8_gives_2 rfl ?_
  refine zcallV C (m_units man hb13 M hR) hy_X8_units hv_X8_units hl_X8_232 hR.1 rfl rfl rfl rfl (by decide) (by decide) (by omega) (by omega) rfl (by exact Nat.le_of_ble_eq_true rfl) dX8_gives_3 (fun v3 M hp3 => ?_)
  obtain ⟨S1, ⟨rfl, hs⟩, hR⟩ := hp3
  rw [hs] at hR
  clear hs
  refine zi2l C dX8_gives_6 ?_
  refine zldiv C dX8_gives_7 (units_ne hu hu8) ?_
  refine zlstore (L1 := [_, _, _, _, _, _, _, _, _]) C dX8_gives_8 rfl (Nat.le_of_ble_eq_true rfl) ?_
  refine zlload_n C dX8_gives_10 rfl ?_
  refine zlload C dX8_gives_11 rfl ?_
  refine zaload_n C dX8_gives_13 rfl ?_
  refine ziload_n C dX8_gives_14 rfl ?_
  refine zcallV C (m_units man hb13 M hR) hy_X8_units hv_X8_units hl_X8_232 hR.1 rfl rfl rfl rfl (by decide) (by decide) (by omega) (by omega) rfl (by exact Nat.le_of_ble_eq_true rfl) dX8_gives_15 (fun v15 M hp15 => ?_)
  obtain ⟨S1, ⟨rfl, hs⟩, hR⟩ := hp15
  rw [hs] at hR
  clear hs
  refine zi2l C dX8_gives_18 ?_
  refine zlmul C dX8_gives_19 ?_
  refine zlsub C dX8_gives_20 ?_
  refine zlstore (L1 := [_, _, _, _, _, _, _, _, _]) C dX8_gives_21 rfl (Nat.le_of_ble_eq_true rfl) ?_
  refine zconst (v := 0) C dX8_gives_23 (by decide) ?_
  refine zistore (L1 := [_, _, _, _, _, _, _, _, _]) C dX8_gives_24 rfl (Nat.le_of_ble_eq_true rfl) ?_
  exact zcg (loop (S.1 13) 0 (by omega) M (hR.eqv (zsL_id S 19).symm)) (by simp [zk1, zk2, givL, ee, el, eachOf, leftOf, nI_0])
set_option maxRecDepth 100000 in
set_option maxHeartbeats 1000000 in
theorem m_findsWidows {g : zGh} {M0 : zM} {mo : Nat} {ad : Nat → Nat} {S : zS} (dead : Nat) (bars : Bool) (hi : iB S) (hd : dead < S.1 13) (hT : ∀ p, p < S.1 13 → iT S p) (hM : ∀ m, m < S.1 25 → iM S m) : zMc g M0 mo ad yX8_findsWidows cX8_findsWidows 6 none 2 46 mkV [.int (nI dead), .int (b2i bars)] S (fun v S1 => S1 = widS S dead bars) := by
  intro M hR
  refine zof [some (.ref mo), some (.int (nI dead)), some (.int (b2i bars)), none, none, none] (by decide +kernel) rfl rfl (Nat.le_of_ble_eq_true rfl) ?_
  intro X C hE hnm
  have C : zC g X RX8 cX8_findsWidows 6 2 46 0 0 := C
  obtain ⟨hb1, hb2, hb4, hb9, hb13, hb25, hb33⟩ := id hi
  have loop2 : ∀ (r i : Nat), i + r = S.1 25 → ∀ M, zR g M0 mo ad (zsA S 47 (widL S dead bars (clrL (S.2.2.1 47) (S.1 13)) i)) M → zG g X M 0 0 25 [some (.ref mo), some (.int (nI dead)), some (.int (b2i bars)), some (.int (nI i)), none, none] [] := by
    intro r
    induction r with
    | zero =>
      intro i hi M hR
      refine ziload_n C dX8_findsWidows_25 rfl ?_
      refine zaload_n C dX8_findsWidows_26 rfl ?_
      refine zmgi C hR hf_X8_148 rfl dX8_findsWidows_27 ?_
      rw [show (zsA S 47 (widL S dead bars (clrL (S.2.2.1 47) (S.1 13)) i)).1 25 = S.1 25 from rfl]
      refine zicmp_ge (tgt := 140) C dX8_findsWidows_30 (by decide) (fun h30 => ?_) (fun h30 => by first | exact absurd (nI_le (by omega) (by omega)) h30 | exact absurd h30 (nI_le (by omega) (by omega)))
      exact zend_v C hE dX8_findsWidows_140 (by omega) (by omega) ⟨_, by rw [widS, show S.1 25 = i by omega], hR⟩
    | succ r ih =>
      intro i hi M hR
      have hi2 : i < S.1 25 := by omega
      obtain ⟨h, w, hh, hw, eh, ew⟩ := hM i hi2
      have ehn := nI_clamp (show h < 2 ^ 31 by omega)
      have ewn := nI_clamp (show w < 2 ^ 31 by omega)
      obtain ⟨o, eo⟩ : ∃ x, x = otherOf S i dead := ⟨_, rfl⟩
      have ho : o < S.1 13 := by rw [eo]; unfold otherOf; split <;> simp [eh, ew, ehn, ewn, hh, hw]
      refine ziload_n C dX8_findsWidows_25 rfl ?_
      refine zaload_n C dX8_findsWidows_26 rfl ?_
      refine zmgi C hR hf_X8_148 rfl dX8_findsWidows_27 ?_
      rw [show (zsA S 47 (widL S dead bars (clrL (S.2.2.1 47) (S.1 13)) i)).1 25 = S.1 25 from rfl]
      refine zicmp_ge (tgt := 140) C dX8_findsWidows_30 (by decide) (fun h30 => by first | exact absurd h30 (nI_ge (by omega) (by omega)) | exact absurd (nI_ge (by omega) (by omega)) h30) (fun h30 => ?_)
      refine zjn 58 (fun x => x = nI o) (fun J33_1 => ?_) (fun x33 hx33 => ?_)
      · refine zaload_n C dX8_findsWidows_33 rfl ?_
        refine zmga C hR hf_X8_70 rfl dX8_findsWidows_34 ?_
        refine ziload_n C dX8_findsWidows_37 rfl ?_
        refine zmia C hR rfl rfl rfl (show _ < 30 from by omega) dX8_findsWidows_38 ?_
        refine ziload_n C dX8_findsWidows_39 rfl ?_
        refine zicmp_ne (tgt := 52) C dX8_findsWidows_40 (by decide) (fun h40 => ?_) (fun h40 => ?_)
        · replace h40 : ¬ S.2.2.1 26 i = nI dead := h40
          refine zaload_n C dX8_findsWidows_52 rfl ?_
          refine zmga C hR hf_X8_70 rfl dX8_findsWidows_53 ?_
          refine ziload_n C dX8_findsWidows_56 rfl ?_
          refine zmia C hR rfl rfl rfl (show _ < 30 from by omega) dX8_findsWidows_57 ?_
          exact J33_1 _ (by rw [eo]; first | (rw [show otherOf S i dead = h from by rw [otherOf, if_neg h40, eh, ehn]]; exact eh) | (rw [show otherOf S i dead = w from by rw [otherOf, if_pos h40, ew, ewn]]; exact ew))
        · replace h40 : S.2.2.1 26 i = nI dead := h40
          refine zaload_n C dX8_findsWidows_43 rfl ?_
          refine zmga C hR hf_X8_73 rfl dX8_findsWidows_44 ?_
          refine ziload_n C dX8_findsWidows_47 rfl ?_
          refine zmia C hR rfl rfl rfl (show _ < 30 from by omega) dX8_findsWidows_48 ?_
          refine zgoto (tgt := 58) C dX8_findsWidows_49 (by decide) ?_
          exact J33_1 _ (by rw [eo]; first | (rw [show otherOf S i dead = h from by rw [otherOf, if_neg h40, eh, ehn]]; exact eh) | (rw [show otherOf S i dead = w from by rw [otherOf, if_pos h40, ew, ewn]]; exact ew))
      · subst hx33
        refine zistore (L1 := [_, _, _, _, _, _]) C dX8_findsWidows_58 rfl (Nat.le_of_ble_eq_true rfl) ?_
        refine zjnM 105 (fun x => x = b2i (isWid S i dead bars)) hR (fun J60_3 => ?_) (fun M x60 hR hx60 => ?_)
        · refine zaload_n C dX8_findsWidows_60 rfl ?_
          refine zmga C hR hf_X8_76 rfl dX8_findsWidows_61 ?_
          refine ziload_n C dX8_findsWidows_64 rfl ?_
          refine zmia C hR rfl rfl rfl (show _ < 30 from by omega) dX8_findsWidows_65 ?_
          refine zif_ne (tgt := 104) C dX8_findsWidows_66 (by decide) (fun h66 => ?_) (fun h66 => ?_)
          · replace h66 : ¬ S.2.2.1 28 i = 0 := h66
            refine zconst (v := 0) C dX8_findsWidows_104 (by decide) ?_
            exact J60_3 _ _ hR (by simp [isWid, lastsFor, ← eo, b2i, h66])
          · replace h66 : S.2.2.1 28 i = 0 := h66
            refine zaload_n C dX8_findsWidows_69 rfl ?_
            refine zmga C hR hf_X8_70 rfl dX8_findsWidows_70 ?_
            refine ziload_n C dX8_findsWidows_73 rfl ?_
            refine zmia C hR rfl rfl rfl (show _ < 30 from by omega) dX8_findsWidows_74 ?_
            refine ziload_n C dX8_findsWidows_75 rfl ?_
            refine zicmp_eq (tgt := 89) C dX8_findsWidows_76 (by decide) (fun h76 => ?_) (fun h76 => ?_)
            · replace h76 : S.2.2.1 26 i = nI dead := h76
              refine zaload_n C dX8_findsWidows_89 rfl ?_
              refine ziload C dX8_findsWidows_90 rfl ?_
              refine ziload_n C dX8_findsWidows_92 rfl ?_
              refine ziload_n C dX8_findsWidows_93 rfl ?_
              refine zcallV C (m_isBarred (S := (zsA S 47 (widL S dead bars (clrL (S.2.2.1 47) (S.1 13)) i))) o dead bars (by omega) (by omega) (hT o ho) (hT dead hd) M hR) hy_X8_isBarred hv_X8_isBarred hl_X8_235 hR.1 rfl rfl rfl rfl (by decide) (by decide) (by omega) (by omega) rfl (by exact Nat.le_of_ble_eq_true rfl) dX8_findsWidows_94 (fun v94 M hp94 => ?_)
              obtain ⟨S1, ⟨hv, hs⟩, hR⟩ := hp94
              have hv : v94 = b2i (isBarred S o dead bars) := hv
              subst hv
              rw [hs] at hR
              clear hs
              refine zif_ne (tgt := 104) C dX8_findsWidows_97 (by decide) (fun h97 => ?_) (fun h97 => ?_)
              · replace h97 := b2i_n0.mp h97
                refine zconst (v := 0) C dX8_findsWidows_104 (by decide) ?_
                exact J60_3 _ _ hR (by simp [isWid, lastsFor, ← eo, b2i, h66, h76, h97])
              · replace h97 := b2i_0.mp h97
                refine zconst (v := 1) C dX8_findsWidows_100 (by decide) ?_
                refine zgoto (tgt := 105) C dX8_findsWidows_101 (by decide) ?_
                exact J60_3 _ _ hR (by simp [isWid, lastsFor, ← eo, b2i, h66, h76, h97])
            · replace h76 : ¬ S.2.2.1 26 i = nI dead := h76
              refine zaload_n C dX8_findsWidows_79 rfl ?_
              refine zmga C hR hf_X8_73 rfl dX8_findsWidows_80 ?_
              refine ziload_n C dX8_findsWidows_83 rfl ?_
              refine zmia C hR rfl rfl rfl (show _ < 30 from by omega) dX8_findsWidows_84 ?_
              refine ziload_n C dX8_findsWidows_85 rfl ?_
              refine zicmp_ne (tgt := 104) C dX8_findsWidows_86 (by decide) (fun h86 => ?_) (fun h86 => ?_)
              · replace h86 : ¬ S.2.2.1 27 i = nI dead := h86
                refine zconst (v := 0) C dX8_findsWidows_104 (by decide) ?_
                exact J60_3 _ _ hR (by simp [isWid, lastsFor, ← eo, b2i, h66, h76, h86])
              · replace h86 : S.2.2.1 27 i = nI dead := h86
                refine zaload_n C dX8_findsWidows_89 rfl ?_
                refine ziload C dX8_findsWidows_90 rfl ?_
                refine ziload_n C dX8_findsWidows_92 rfl ?_
                refine ziload_n C dX8_findsWidows_93 rfl ?_
                refine zcallV C (m_isBarred (S := (zsA S 47 (widL S dead bars (clrL (S.2.2.1 47) (S.1 13)) i))) o dead bars (by omega) (by omega) (hT o ho) (hT dead hd) M hR) hy_X8_isBarred hv_X8_isBarred hl_X8_235 hR.1 rfl rfl rfl rfl (by decide) (by decide) (by omega) (by omega) rfl (by exact Nat.le_of_ble_eq_true rfl) dX8_findsWidows_94 (fun v94 M hp94 => ?_)
                obtain ⟨S1, ⟨hv, hs⟩, hR⟩ := hp94
                have hv : v94 = b2i (isBarred S o dead bars) := hv
                subst hv
                rw [hs] at hR
                clear hs
                refine zif_ne (tgt := 104) C dX8_findsWidows_97 (by decide) (fun h97 => ?_) (fun h97 => ?_)
                · replace h97 := b2i_n0.mp h97
                  refine zconst (v := 0) C dX8_findsWidows_104 (by decide) ?_
                  exact J60_3 _ _ hR (by simp [isWid, lastsFor, ← eo, b2i, h66, h76, h86, h97])
                · replace h97 := b2i_0.mp h97
                  refine zconst (v := 1) C dX8_findsWidows_100 (by decide) ?_
                  refine zgoto (tgt := 105) C dX8_findsWidows_101 (by decide) ?_
                  exact J60_3 _ _ hR (by simp [isWid, lastsFor, ← eo, b2i, h66, h76, h86, h97])
        · subst hx60
          refine zistore (L1 := [_, _, _, _, _, _]) C dX8_findsWidows_105 rfl (Nat.le_of_ble_eq_true rfl) ?_
          refine zaload_n C dX8_findsWidows_107 rfl ?_
          refine zmga C hR hf_X8_127 rfl dX8_findsWidows_108 ?_
          refine ziload C dX8_findsWidows_111 rfl ?_
          refine zjn 133 (fun x => x = b2i (decide ((widL S dead bars (clrL (S.2.2.1 47) (S.1 13)) i) o ≠ 0) || isWid S i dead bars)) (fun J113_5 => ?_) (fun x113 hx113 => ?_)
          · refine zaload_n C dX8_findsWidows_113 rfl ?_
            refine zmga C hR hf_X8_127 rfl dX8_findsWidows_114 ?_
            refine ziload C dX8_findsWidows_117 rfl ?_
            refine zmza C hR rfl rfl rfl (show _ < 40 from by omega) dX8_findsWidows_119 ?_
            refine zif_ne (tgt := 128) C dX8_findsWidows_120 (by decide) (fun h120 => ?_) (fun h120 => ?_)
            · replace h120 : ¬ (widL S dead bars (clrL (S.2.2.1 47) (S.1 13)) i) o = 0 := h120
              refine zconst (v := 1) C dX8_findsWidows_128 (by decide) ?_
              refine zgoto (tgt := 133) C dX8_findsWidows_129 (by decide) ?_
              exact J113_5 _ (by simp [b2i, h120])
            · replace h120 : (widL S dead bars (clrL (S.2.2.1 47) (S.1 13)) i) o = 0 := h120
              refine ziload C dX8_findsWidows_123 rfl ?_
              refine zif_eq (tgt := 132) C dX8_findsWidows_125 (by decide) (fun h125 => ?_) (fun h125 => ?_)
              · replace h125 := b2i_0.mp h125
                refine zconst (v := 0) C dX8_findsWidows_132 (by decide) ?_
                exact J113_5 _ (by simp [b2i, h120, h125])
              · replace h125 := b2i_n0.mp h125
                refine zconst (v := 1) C dX8_findsWidows_128 (by decide) ?_
                refine zgoto (tgt := 133) C dX8_findsWidows_129 (by decide) ?_
                exact J113_5 _ (by simp [b2i, h120, h125])
          · subst hx113
            refine zmzs C hR rfl rfl rfl (show _ < 40 from by omega) (b2i_b _) dX8_findsWidows_133 (fun M hR => ?_)
            refine ziinc (L1 := [_, _, _, _, _, _]) (v := nI (i + 1)) C dX8_findsWidows_134 rfl (nI_1 i) rfl ?_
            refine zgoto (tgt := 25) C dX8_findsWidows_137 (by decide) ?_
            refine zfor [true, true, true, true, false, false] (L1 := [_, _, _, _, _, _]) rfl ?_
            exact zcg (ih (i + 1) (by omega) M (hR.eqv (by rw [zsA_A]; simp [widL, eo, zsA_g]))) (by simp [zk1])
  have L2 : ∀ M, zR g M0 mo ad (zsA S 47 (clrL (S.2.2.1 47) (S.1 13))) M → zG g X M 0 0 23 [some (.ref mo), some (.int (nI dead)), some (.int (b2i bars)), some (.int (nI (S.1 13))), none, none] [] := by
    intro M hR
    refine zconst (v := 0) C dX8_findsWidows_23 (by decide) ?_
    refine zistore_n (L1 := [_, _, _, _, _, _]) C dX8_findsWidows_24 rfl (Nat.le_of_ble_eq_true rfl) ?_
    exact zcg (loop2 (S.1 25) 0 (by omega) M hR) (by simp [zk1, nI_0])
  have loop1 : ∀ (r i : Nat), i + r = S.1 13 → ∀ M, zR g M0 mo ad (zsA S 47 (clrL (S.2.2.1 47) i)) M → zG g X M 0 0 2 [some (.ref mo), some (.int (nI dead)), some (.int (b2i bars)), some (.int (nI i)), none, none] [] := by
    intro r
    induction r with
    | zero =>
      intro i hi M hR
      refine ziload_n C dX8_findsWidows_2 rfl ?_
      refine zaload_n C dX8_findsWidows_3 rfl ?_
      refine zmgi C hR hf_X8_145 rfl dX8_findsWidows_4 ?_
      rw [show (zsA S 47 (clrL (S.2.2.1 47) i)).1 13 = S.1 13 from rfl]
      refine zicmp_ge (tgt := 23) C dX8_findsWidows_7 (by decide) (fun h7 => ?_) (fun h7 => by first | exact absurd (nI_le (by omega) (by omega)) h7 | exact absurd h7 (nI_le (by omega) (by omega)))
      refine zcg (L2 M (hR.eqv (by rw [show S.1 13 = i by omega]))) (by rw [show S.1 13 = i by omega])
    | succ r ih =>
      intro i hi M hR
      refine ziload_n C dX8_findsWidows_2 rfl ?_
      refine zaload_n C dX8_findsWidows_3 rfl ?_
      refine zmgi C hR hf_X8_145 rfl dX8_findsWidows_4 ?_
      rw [show (zsA S 47 (clrL (S.2.2.1 47) i)).1 13 = S.1 13 from rfl]
      refine zicmp_ge (tgt := 23) C dX8_findsWidows_7 (by decide) (fun h7 => by first | exact absurd h7 (nI_ge (by omega) (by omega)) | exact absurd (nI_ge (by omega) (by omega)) h7) (fun h7 => ?_)
      refine zaload_n C dX8_findsWidows_10 rfl ?_
      refine zmga C hR hf_X8_127 rfl dX8_findsWidows_11 ?_
      refine ziload_n C dX8_findsWidows_14 rfl ?_
      refine zconst (v := 0) C dX8_findsWidows_15 (by decide) ?_
      refine zmzs C hR rfl rfl rfl (show _ < 40 from by omega) (by decide) dX8_findsWidows_16 (fun M hR => ?_)
      refine ziinc (L1 := [_, _, _, _, _, _]) (v := nI (i + 1)) C dX8_findsWidows_17 rfl (nI_1 i) rfl ?_
      refine zgoto (tgt := 2) C dX8_findsWidows_20 (by decide) ?_
      refine ih (i + 1) (by omega) M (hR.eqv (by simp [clrL, zsA_A, zsA_g]))
  refine zconst (v := 0) C dX8_findsWidows_0 (by decide) ?_
  refine zistore_n (L1 := [_, _, _, _, _, _]) C dX8_findsWidows_1 rfl (Nat.le_of_ble_eq_true rfl) ?_
  exact zcg (loop1 (S.1 13) 0 (by omega) M (hR.eqv (zsA_id S 47).symm)) (by simp [zk1, nI_0])
