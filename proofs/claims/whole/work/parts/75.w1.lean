theorem hcw_community : Cond.codeWith yL_community cL_community 3 (some .int) [(0, 8, 11, 13)] ∈ GW ∧ Cond.static yL_community ∈ GW := ⟨zGWin (List.mem_of_getElem? (i := 219) (by decide +kernel)) (by decide +kernel), zGWin (List.mem_of_getElem? (i := 218) (by decide +kernel)) (by decide +kernel)⟩
set_option maxRecDepth 100000 in
set_option maxHeartbeats 1000000 in
theorem w_community {g : zGh} {M : zM} {x o mc ms : Nat} {f : Nat → Int64} {fs : List Value} {P : Int32 → zM → Prop} {PX : String → zM → Prop} (hM : zCt g yX7_community cX7_community 1 (some .int) 7 171 mkI [.ref x] M mc ms P PX) (hx : M x = some (zob 8 fs)) (ho : ∀ v M1, P v M1 → M1 o = some (zaj g 1 f)) (hX : ∀ E M1, PX E M1 → E = eIS) : zCw g yL_community cL_community 3 [(0, 8, 11, 13)] 8 191 [.ref x, .ref o] M mc ms (fun w M2 => (w = 0 ∧ ∃ v M1, P v M1 ∧ M2 = zup M1 o (zaj g 1 (vp_updL f 0 v.toInt64))) ∨ (w = 1 ∧ PX eIS M2)) := by
  refine zofw [some (.ref x), some (.ref o), none] (by decide +kernel) rfl rfl (Nat.le_of_ble_eq_true rfl) ?_
  intro X C hE
  have C : zC g X RL cL_community 3 8 191 mc ms := C
  refine zaload_n C dL_community_0 rfl ?_
  refine zconst (v := 0) C dL_community_1 (by decide) ?_
  refine zaload_n C dL_community_2 rfl ?_
  refine zcallVX C hM hy_X7_community hv_X7_community hl_L_7 hx rfl rfl rfl rfl (by decide) (by decide) (by omega) (by omega) rfl (by exact Nat.le_of_ble_eq_true rfl) dL_community_3 (fun E M1 he => ?_) (fun v M hp => ?_)
  · have hEx := hX _ _ he
    subst hEx
    refine zcatch C hE [] (0, 8, 11, 13) [] rfl (fun z hz => absurd hz List.not_mem_nil) (by decide) (by decide) (by decide) hc_L_13 (fun q => ?_)
    refine zastore_n (L1 := [_, _, _]) C dL_community_11 rfl (Nat.le_of_ble_eq_true rfl) ?_
    refine zconst (v := 1) C dL_community_12 (by decide) ?_
    exact zend_w C hE dL_community_13 (by omega) (by omega) (Or.inr (⟨rfl, he⟩))
  · refine zi2l C dL_community_6 ?_
    refine zrjast (i0 := 0) C (ho _ _ hp) rfl (by decide) (by decide) dL_community_7 ?_
    refine zgoto (tgt := 14) C dL_community_8 (by decide) ?_
    refine zconst (v := 0) C dL_community_14 (by decide) ?_
    exact zend_w C hE dL_community_15 (by omega) (by omega) (Or.inl ⟨rfl, _, _, hp, rfl⟩)
theorem hcw_recognise : Cond.codeWith yL_recognise cL_recognise 5 (some .int) [(0, 17, 20, 19)] ∈ GW ∧ Cond.static yL_recognise ∈ GW := ⟨zGWin (List.mem_of_getElem? (i := 374) (by decide +kernel)) (by decide +kernel), zGWin (List.mem_of_getElem? (i := 373) (by decide +kernel)) (by decide +kernel)⟩
set_option maxRecDepth 100000 in
set_option maxHeartbeats 1000000 in
theorem w_recognise {g : zGh} {M : zM} {x o mc ms : Nat} {f : Nat → Int64} {fs : List Value} {a0 a1 : Int32} {P : Int32 → zM → Prop} {PX : String → zM → Prop} (hM : zCt g yX7_recognise cX7_recognise 5 (some .boolean) 7 111 mkI [.ref x, .int a0, .int a1] M mc ms P PX) (hx : M x = some (zob 8 fs)) (ho : ∀ v M1, P v M1 → M1 o = some (zaj g 1 f)) (hX : ∀ E M1, PX E M1 → E = eIO) : zCw g yL_recognise cL_recognise 5 [(0, 17, 20, 19)] 8 135 [.ref x, .int a0, .int a1, .ref o] M mc ms (fun w M2 => (w = 0 ∧ ∃ v M1, P v M1 ∧ M2 = zup M1 o (zaj g 1 (vp_updL f 0 (if v = 0 then 0 else 1)))) ∨ (w = 1 ∧ PX eIO M2)) := by
  refine zofw [some (.ref x), some (.int a0), some (.int a1), some (.ref o), none] (by decide +kernel) rfl rfl (Nat.le_of_ble_eq_true rfl) ?_
  intro X C hE
  have C : zC g X RL cL_recognise 5 8 135 mc ms := C
  refine zaload_n C dL_recognise_0 rfl ?_
  refine zconst (v := 0) C dL_recognise_1 (by decide) ?_
  refine zaload_n C dL_recognise_2 rfl ?_
  refine ziload_n C dL_recognise_3 rfl ?_
  refine ziload_n C dL_recognise_4 rfl ?_
  refine zcallVX C hM hy_X7_recognise hv_X7_recognise hl_L_15 hx rfl rfl rfl rfl (by decide) (by decide) (by omega) (by omega) rfl (by exact Nat.le_of_ble_eq_true rfl) dL_recognise_5 (fun E M1 he => ?_) (fun v M hp => ?_)
  · have hEx := hX _ _ he
    subst hEx
    refine zcatch C hE [] (0, 17, 20, 19) [] rfl (fun z hz => absurd hz List.not_mem_nil) (by decide) (by decide) (by decide) hc_L_19 (fun q => ?_)
    refine zastore (L1 := [_, _, _, _, _]) C dL_recognise_20 rfl (Nat.le_of_ble_eq_true rfl) ?_
    refine zconst (v := 1) C dL_recognise_22 (by decide) ?_
    exact zend_w C hE dL_recognise_23 (by omega) (by omega) (Or.inr (⟨rfl, he⟩))
  · refine zif_eq (tgt := 15) C dL_recognise_8 (by decide) (fun h8 => ?_) (fun h8 => ?_)
    · refine zlconst (v := 0) C dL_recognise_15 rfl ?_
      refine zrjast (i0 := 0) C (ho _ _ hp) rfl (by decide) (by decide) dL_recognise_16 ?_
      refine zgoto (tgt := 24) C dL_recognise_17 (by decide) ?_
      refine zconst (v := 0) C dL_recognise_24 (by decide) ?_
      exact zend_w C hE dL_recognise_25 (by omega) (by omega) (Or.inl ⟨rfl, _, _, hp, by simp only [h8, if_true, if_false]⟩)
    · refine zlconst (v := 1) C dL_recognise_11 rfl ?_
      refine zgoto (tgt := 16) C dL_recognise_12 (by decide) ?_
      refine zrjast (i0 := 0) C (ho _ _ hp) rfl (by decide) (by decide) dL_recognise_16 ?_
      refine zgoto (tgt := 24) C dL_recognise_17 (by decide) ?_
      refine zconst (v := 0) C dL_recognise_24 (by decide) ?_
      exact zend_w C hE dL_recognise_25 (by omega) (by omega) (Or.inl ⟨rfl, _, _, hp, by simp only [h8, if_true, if_false]⟩)
theorem hcw_decree : Cond.codeWith yL_decree cL_decree 6 (some .int) [(0, 12, 15, 19), (0, 12, 19, 25), (0, 12, 23, 13)] ∈ GW ∧ Cond.static yL_decree ∈ GW := ⟨zGWin (List.mem_of_getElem? (i := 424) (by decide +kernel)) (by decide +kernel), zGWin (List.mem_of_getElem? (i := 423) (by decide +kernel)) (by decide +kernel)⟩
set_option maxRecDepth 100000 in
set_option maxHeartbeats 1000000 in
theorem w_decree {g : zGh} {M : zM} {x o mc ms : Nat} {f : Nat → Int64} {fs : List Value} {a0 a1 a2 : Int32} {P : Int32 → zM → Prop} {PX : String → zM → Prop} (hM : zCt g yX7_decree cX7_decree 6 (some .int) 8 132 mkI [.ref x, .int a0, .int a1, .int a2] M mc ms P PX) (hx : M x = some (zob 8 fs)) (ho : ∀ v M1, P v M1 → M1 o = some (zaj g 1 f)) (hX : ∀ E M1, PX E M1 → E = eIO ∨ E = eIA ∨ E = eIS) : zCw g yL_decree cL_decree 6 [(0, 12, 15, 19), (0, 12, 19, 25), (0, 12, 23, 13)] 9 157 [.ref x, .int a0, .int a1, .int a2, .ref o] M mc ms (fun w M2 => (w = 0 ∧ ∃ v M1, P v M1 ∧ M2 = zup M1 o (zaj g 1 (vp_updL f 0 v.toInt64))) ∨ (w = 1 ∧ PX eIO M2) ∨ (w = 2 ∧ PX eIA M2) ∨ (w = 3 ∧ PX eIS M2)) := by
  refine zofw [some (.ref x), some (.int a0), some (.int a1), some (.int a2), some (.ref o), none] (by decide +kernel) rfl rfl (Nat.le_of_ble_eq_true rfl) ?_
  intro X C hE
  have C : zC g X RL cL_decree 6 9 157 mc ms := C
  refine zaload C dL_decree_0 rfl ?_
  refine zconst (v := 0) C dL_decree_2 (by decide) ?_
  refine zaload_n C dL_decree_3 rfl ?_
  refine ziload_n C dL_decree_4 rfl ?_
  refine ziload_n C dL_decree_5 rfl ?_
  refine ziload_n C dL_decree_6 rfl ?_
  refine zcallVX C hM hy_X7_decree hv_X7_decree hl_L_21 hx rfl rfl rfl rfl (by decide) (by decide) (by omega) (by omega) rfl (by exact Nat.le_of_ble_eq_true rfl) dL_decree_7 (fun E M1 he => ?_) (fun v M hp => ?_)
  · have hEx := hX _ _ he
    rcases hEx with rfl | rfl | rfl
    · refine zcatch C hE [] (0, 12, 15, 19) [(0, 12, 19, 25), (0, 12, 23, 13)] rfl (fun z hz => absurd hz List.not_mem_nil) (by decide) (by decide) (by decide) hc_L_19 (fun q => ?_)
      refine zastore (L1 := [_, _, _, _, _, _]) C dL_decree_15 rfl (Nat.le_of_ble_eq_true rfl) ?_
      refine zconst (v := 1) C dL_decree_17 (by decide) ?_
      exact zend_w C hE dL_decree_18 (by omega) (by omega) (Or.inr (Or.inl ⟨rfl, he⟩))
    · refine zcatch C hE [(0, 12, 15, 19)] (0, 12, 19, 25) [(0, 12, 23, 13)] rfl (List.forall_mem_cons.mpr ⟨⟨by decide, eIO, by decide, by decide, hc_L_19⟩, fun z hz => absurd hz List.not_mem_nil⟩) (by decide) (by decide) (by decide) hc_L_25 (fun q => ?_)
      refine zastore (L1 := [_, _, _, _, _, _]) C dL_decree_19 rfl (Nat.le_of_ble_eq_true rfl) ?_
      refine zconst (v := 2) C dL_decree_21 (by decide) ?_
      exact zend_w C hE dL_decree_22 (by omega) (by omega) (Or.inr (Or.inr (Or.inl ⟨rfl, he⟩)))
    · refine zcatch C hE [(0, 12, 15, 19), (0, 12, 19, 25)] (0, 12, 23, 13) [] rfl (List.forall_mem_cons.mpr ⟨⟨by decide, eIO, by decide, by decide, hc_L_19⟩, List.forall_mem_cons.mpr ⟨⟨by decide, eIA, by decide, by decide, hc_L_25⟩, fun z hz => absurd hz List.not_mem_nil⟩⟩) (by decide) (by decide) (by decide) hc_L_13 (fun q => ?_)
      refine zastore (L1 := [_, _, _, _, _, _]) C dL_decree_23 rfl (Nat.le_of_ble_eq_true rfl) ?_
      refine zconst (v := 3) C dL_decree_25 (by decide) ?_
      exact zend_w C hE dL_decree_26 (by omega) (by omega) (Or.inr (Or.inr (Or.inr (⟨rfl, he⟩))))
  · refine zi2l C dL_decree_10 ?_
    refine zrjast (i0 := 0) C (ho _ _ hp) rfl (by decide) (by decide) dL_decree_11 ?_
    refine zgoto (tgt := 27) C dL_decree_12 (by decide) ?_
    refine zconst (v := 0) C dL_decree_27 (by decide) ?_
    exact zend_w C hE dL_decree_28 (by omega) (by omega) (Or.inl ⟨rfl, _, _, hp, rfl⟩)
theorem hcw_rule : Cond.codeWith yL_rule cL_rule 5 (some .int) [(0, 10, 13, 25), (0, 10, 17, 13)] ∈ GW ∧ Cond.static yL_rule ∈ GW := ⟨zGWin (List.mem_of_getElem? (i := 469) (by decide +kernel)) (by decide +kernel), zGWin (List.mem_of_getElem? (i := 468) (by decide +kernel)) (by decide +kernel)⟩
set_option maxRecDepth 100000 in
set_option maxHeartbeats 1000000 in
theorem w_rule {g : zGh} {M : zM} {x o mc ms : Nat} {f : Nat → Int64} {fs : List Value} {a0 a1 : Int32} {P : Int32 → zM → Prop} {PX : String → zM → Prop} (hM : zCt g yX7_rule cX7_rule 4 (some .int) 7 112 mkI [.ref x, .int a0, .int a1] M mc ms P PX) (hx : M x = some (zob 8 fs)) (ho : ∀ v M1, P v M1 → M1 o = some (zaj g 1 f)) (hX : ∀ E M1, PX E M1 → E = eIA ∨ E = eIS) : zCw g yL_rule cL_rule 5 [(0, 10, 13, 25), (0, 10, 17, 13)] 8 135 [.ref x, .int a0, .int a1, .ref o] M mc ms (fun w M2 => (w = 0 ∧ ∃ v M1, P v M1 ∧ M2 = zup M1 o (zaj g 1 (vp_updL f 0 v.toInt64))) ∨ (w = 1 ∧ PX eIA M2) ∨ (w = 2 ∧ PX eIS M2)) := by
  refine zofw [some (.ref x), some (.int a0), some (.int a1), some (.ref o), none] (by decide +kernel) rfl rfl (Nat.le_of_ble_eq_true rfl) ?_
  intro X C hE
  have C : zC g X RL cL_rule 5 8 135 mc ms := C
  refine zaload_n C dL_rule_0 rfl ?_
  refine zconst (v := 0) C dL_rule_1 (by decide) ?_
  refine zaload_n C dL_rule_2 rfl ?_
  refine ziload_n C dL_rule_3 rfl ?_
  refine ziload_n C dL_rule_4 rfl ?_
  refine zcallVX C hM hy_X7_rule hv_X7_rule hl_L_27 hx rfl rfl rfl rfl (by decide) (by decide) (by omega) (by omega) rfl (by exact Nat.le_of_ble_eq_true rfl) dL_rule_5 (fun E M1 he => ?_) (fun v M hp => ?_)
  · have hEx := hX _ _ he
    rcases hEx with rfl | rfl
    · refine zcatch C hE [] (0, 10, 13, 25) [(0, 10, 17, 13)] rfl (fun z hz => absurd hz List.not_mem_nil) (by decide) (by decide) (by decide) hc_L_25 (fun q => ?_)
      refine zastore (L1 := [_, _, _, _, _]) C dL_rule_13 rfl (Nat.le_of_ble_eq_true rfl) ?_
      refine zconst (v := 1) C dL_rule_15 (by decide) ?_
      exact zend_w C hE dL_rule_16 (by omega) (by omega) (Or.inr (Or.inl ⟨rfl, he⟩))
    · refine zcatch C hE [(0, 10, 13, 25)] (0, 10, 17, 13) [] rfl (List.forall_mem_cons.mpr ⟨⟨by decide, eIA, by decide, by decide, hc_L_25⟩, fun z hz => absurd hz List.not_mem_nil⟩) (by decide) (by decide) (by decide) hc_L_13 (fun q => ?_)
      refine zastore (L1 := [_, _, _, _, _]) C dL_rule_17 rfl (Nat.le_of_ble_eq_true rfl) ?_
      refine zconst (v := 2) C dL_rule_19 (by decide) ?_
      exact zend_w C hE dL_rule_20 (by omega) (by omega) (Or.inr (Or.inr (⟨rfl, he⟩)))
  · refine zi2l C dL_rule_8 ?_
    refine zrjast (i0 := 0) C (ho _ _ hp) rfl (by decide) (by decide) dL_rule_9 ?_
    refine zgoto (tgt := 21) C dL_rule_10 (by decide) ?_
    refine zconst (v := 0) C dL_rule_21 (by decide) ?_
    exact zend_w C hE dL_rule_22 (by omega) (by omega) (Or.inl ⟨rfl, _, _, hp, rfl⟩)
theorem hcw_law : Cond.codeWith yL_law cL_law 6 (some .int) [(0, 12, 15, 19), (0, 12, 19, 25)] ∈ GW ∧ Cond.static yL_law ∈ GW := ⟨zGWin (List.mem_of_getElem? (i := 477) (by decide +kernel)) (by decide +kernel), zGWin (List.mem_of_getElem? (i := 476) (by decide +kernel)) (by decide +kernel)⟩
set_option maxRecDepth 100000 in
set_option maxHeartbeats 1000000 in
theorem w_law {g : zGh} {M : zM} {x o mc ms : Nat} {f : Nat → Int64} {fs : List Value} {a0 a1 a2 : Int32} {P : Int32 → zM → Prop} {PX : String → zM → Prop} (hM : zCt g yX7_law cX7_law 5 (some .int) 8 132 mkI [.ref x, .int a0, .int a1, .int a2] M mc ms P PX) (hx : M x = some (zob 8 fs)) (ho : ∀ v M1, P v M1 → M1 o = some (zaj g 1 f)) (hX : ∀ E M1, PX E M1 → E = eIO ∨ E = eIA) : zCw g yL_law cL_law 6 [(0, 12, 15, 19), (0, 12, 19, 25)] 9 156 [.ref x, .int a0, .int a1, .int a2, .ref o] M mc ms (fun w M2 => (w = 0 ∧ ∃ v M1, P v M1 ∧ M2 = zup M1 o (zaj g 1 (vp_updL f 0 v.toInt64))) ∨ (w = 1 ∧ PX eIO M2) ∨ (w = 2 ∧ PX eIA M2)) := by
  refine zofw [some (.ref x), some (.int a0), some (.int a1), some (.int a2), some (.ref o), none] (by decide +kernel) rfl rfl (Nat.le_of_ble_eq_true rfl) ?_
  intro X C hE
  have C : zC g X RL cL_law 6 9 156 mc ms := C
  refine zaload C dL_law_0 rfl ?_
  refine zconst (v := 0) C dL_law_2 (by decide) ?_
  refine zaload_n C dL_law_3 rfl ?_
  refine ziload_n C dL_law_4 rfl ?_
  refine ziload_n C dL_law_5 rfl ?_
  refine ziload_n C dL_law_6 rfl ?_
  refine zcallVX C hM hy_X7_law hv_X7_law hl_L_31 hx rfl rfl rfl rfl (by decide) (by decide) (by omega) (by omega) rfl (by exact Nat.le_of_ble_eq_true rfl) dL_law_7 (fun E M1 he => ?_) (fun v M hp => ?_)
  · have hEx := hX _ _ he
    rcases hEx with rfl | rfl
    · refine zcatch C hE [] (0, 12, 15, 19) [(0, 12, 19, 25)] rfl (fun z hz => absurd hz List.not_mem_nil) (by decide) (by decide) (by decide) hc_L_19 (fun q => ?_)
      refine zastore (L1 := [_, _, _, _, _, _]) C dL_law_15 rfl (Nat.le_of_ble_eq_true rfl) ?_
      refine zconst (v := 1) C dL_law_17 (by decide) ?_
      exact zend_w C hE dL_law_18 (by omega) (by omega) (Or.inr (Or.inl ⟨rfl, he⟩))
    · refine zcatch C hE [(0, 12, 15, 19)] (0, 12, 19, 25) [] rfl (List.forall_mem_cons.mpr ⟨⟨by decide, eIO, by decide, by decide, hc_L_19⟩, fun z hz => absurd hz List.not_mem_nil⟩) (by decide) (by decide) (by decide) hc_L_25 (fun q => ?_)
      refine zastore (L1 := [_, _, _, _, _, _]) C dL_law_19 rfl (Nat.le_of_ble_eq_true rfl) ?_
      refine zconst (v := 2) C dL_law_21 (by decide) ?_
      exact zend_w C hE dL_law_22 (by omega) (by omega) (Or.inr (Or.inr (⟨rfl, he⟩)))
  · refine zi2l C dL_law_10 ?_
    refine zrjast (i0 := 0) C (ho _ _ hp) rfl (by decide) (by decide) dL_law_11 ?_
    refine zgoto (tgt := 23) C dL_law_12 (by decide) ?_
    refine zconst (v := 0) C dL_law_23 (by decide) ?_
    exact zend_w C hE dL_law_24 (by omega) (by omega) (Or.inl ⟨rfl, _, _, hp, rfl⟩)
theorem hcw_court : Cond.codeWith yL_court cL_court 7 (some .int) [(0, 14, 17, 19), (0, 14, 21, 25)] ∈ GW ∧ Cond.static yL_court ∈ GW := ⟨zGWin (List.mem_of_getElem? (i := 484) (by decide +kernel)) (by decide +kernel), zGWin (List.mem_of_getElem? (i := 483) (by decide +kernel)) (by decide +kernel)⟩
set_option maxRecDepth 100000 in
set_option maxHeartbeats 1000000 in
theorem w_court {g : zGh} {M : zM} {x o mc ms : Nat} {f : Nat → Int64} {fs : List Value} {a0 a1 a2 a3 : Int32} {P : Int32 → zM → Prop} {PX : String → zM → Prop} (hM : zCt g yX7_court cX7_court 7 (some .int) 8 136 mkI [.ref x, .int a0, .int a1, .int a2, .int a3] M mc ms P PX) (hx : M x = some (zob 8 fs)) (ho : ∀ v M1, P v M1 → M1 o = some (zaj g 1 f)) (hX : ∀ E M1, PX E M1 → E = eIO ∨ E = eIA) : zCw g yL_court cL_court 7 [(0, 14, 17, 19), (0, 14, 21, 25)] 9 162 [.ref x, .int a0, .int a1, .int a2, .int a3, .ref o] M mc ms (fun w M2 => (w = 0 ∧ ∃ v M1, P v M1 ∧ M2 = zup M1 o (zaj g 1 (vp_updL f 0 v.toInt64))) ∨ (w = 1 ∧ PX eIO M2) ∨ (w = 2 ∧ PX eIA M2)) := by
  refine zofw [some (.ref x), some (.int a0), some (.int a1), some (.int a2), some (.int a3), some (.ref o), none] (by decide +kernel) rfl rfl (Nat.le_of_ble_eq_true rfl) ?_
  intro X C hE
  have C : zC g X RL cL_court 7 9 162 mc ms := C
  refine zaload C dL_court_0 rfl ?_
  refine zconst (v := 0) C dL_court_2 (by decide) ?_
  refine zaload_n C dL_court_3 rfl ?_
  refine ziload_n C dL_court_4 rfl ?_
  refine ziload_n C dL_court_5 rfl ?_
  refine ziload_n C dL_court_6 rfl ?_
  refine ziload C dL_court_7 rfl ?_
  refine zcallVX C hM hy_X7_court hv_X7_court hl_L_34 hx rfl rfl rfl rfl (by decide) (by decide) (by omega) (by omega) rfl (by exact Nat.le_of_ble_eq_true rfl) dL_court_9 (fun E M1 he => ?_) (fun v M hp => ?_)
  · have hEx := hX _ _ he
    rcases hEx with rfl | rfl
    · refine zcatch C hE [] (0, 14, 17, 19) [(0, 14, 21, 25)] rfl (fun z hz => absurd hz List.not_mem_nil) (by decide) (by decide) (by decide) hc_L_19 (fun q => ?_)
      refine zastore (L1 := [_, _, _, _, _, _, _]) C dL_court_17 rfl (Nat.le_of_ble_eq_true rfl) ?_
      refine zconst (v := 1) C dL_court_19 (by decide) ?_
      exact zend_w C hE dL_court_20 (by omega) (by omega) (Or.inr (Or.inl ⟨rfl, he⟩))
    · refine zcatch C hE [(0, 14, 17, 19)] (0, 14, 21, 25) [] rfl (List.forall_mem_cons.mpr ⟨⟨by decide, eIO, by decide, by decide, hc_L_19⟩, fun z hz => absurd hz List.not_mem_nil⟩) (by decide) (by decide) (by decide) hc_L_25 (fun q => ?_)
      refine zastore (L1 := [_, _, _, _, _, _, _]) C dL_court_21 rfl (Nat.le_of_ble_eq_true rfl) ?_
      refine zconst (v := 2) C dL_court_23 (by decide) ?_
      exact zend_w C hE dL_court_24 (by omega) (by omega) (Or.inr (Or.inr (⟨rfl, he⟩)))
  · refine zi2l C dL_court_12 ?_
    refine zrjast (i0 := 0) C (ho _ _ hp) rfl (by decide) (by decide) dL_court_13 ?_
    refine zgoto (tgt := 25) C dL_court_14 (by decide) ?_
    refine zconst (v := 0) C dL_court_25 (by decide) ?_
    exact zend_w C hE dL_court_26 (by omega) (by omega) (Or.inl ⟨rfl, _, _, hp, rfl⟩)
theorem hcw_person : Cond.codeWith yL_person cL_person 7 (some .int) [(0, 14, 17, 19), (0, 14, 21, 25), (0, 14, 25, 13)] ∈ GW ∧ Cond.static yL_person ∈ GW := ⟨zGWin (List.mem_of_getElem? (i := 505) (by decide +kernel)) (by decide +kernel), zGWin (List.mem_of_getElem? (i := 504) (by decide +kernel)) (by decide +kernel)⟩
set_option maxRecDepth 100000 in
set_option maxHeartbeats 1000000 in
theorem w_person {g : zGh} {M : zM} {x o mc ms : Nat} {f : Nat → Int64} {fs : List Value} {a0 a1 a2 a3 : Int32} {P : Int32 → zM → Prop} {PX : String → zM → Prop} (hM : zCt g yX7_person cX7_person 10 (some .int) 8 171 mkI [.ref x, .int a0, .int a1, .int a2, .int a3] M mc ms P PX) (hx : M x = some (zob 8 fs)) (ho : ∀ v M1, P v M1 → M1 o = some (zaj g 1 f)) (hX : ∀ E M1, PX E M1 → E = eIO ∨ E = eIA ∨ E = eIS) : zCw g yL_person cL_person 7 [(0, 14, 17, 19), (0, 14, 21, 25), (0, 14, 25, 13)] 9 200 [.ref x, .int a0, .int a1, .int a2, .int a3, .ref o] M mc ms (fun w M2 => (w = 0 ∧ ∃ v M1, P v M1 ∧ M2 = zup M1 o (zaj g 1 (vp_updL f 0 v.toInt64))) ∨ (w = 1 ∧ PX eIO M2) ∨ (w = 2 ∧ PX eIA M2) ∨ (w = 3 ∧ PX eIS M2)) := by
  refine zofw [some (.ref x), some (.int a0), some (.int a1), some (.int a2), some (.int a3), some (.ref o), none] (by decide +kernel) rfl rfl (Nat.le_of_ble_eq_true rfl) ?_
  intro X C hE
  have C : zC g X RL cL_person 7 9 200 mc ms := C
  refine zaload C dL_person_0 rfl ?_
  refine zconst (v := 0) C dL_person_2 (by decide) ?_
  refine zaload_n C dL_person_3 rfl ?_
  refine ziload_n C dL_person_4 rfl ?_
  refine ziload_n C dL_person_5 rfl ?_
  refine ziload_n C dL_person_6 rfl ?_
  refine ziload C dL_person_7 rfl ?_
  refine zcallVX C hM hy_X7_person hv_X7_person hl_L_38 hx rfl rfl rfl rfl (by decide) (by decide) (by omega) (by omega) rfl (by exact Nat.le_of_ble_eq_true rfl) dL_person_9 (fun E M1 he => ?_) (fun v M hp => ?_)
  · have hEx := hX _ _ he
    rcases hEx with rfl | rfl | rfl
    · refine zcatch C hE [] (0, 14, 17, 19) [(0, 14, 21, 25), (0, 14, 25, 13)] rfl (fun z hz => absurd hz List.not_mem_nil) (by decide) (by decide) (by decide) hc_L_19 (fun q => ?_)
      refine zastore (L1 := [_, _, _, _, _, _, _]) C dL_person_17 rfl (Nat.le_of_ble_eq_true rfl) ?_
      refine zconst (v := 1) C dL_person_19 (by decide) ?_
      exact zend_w C hE dL_person_20 (by omega) (by omega) (Or.inr (Or.inl ⟨rfl, he⟩))
    · refine zcatch C hE [(0, 14, 17, 19)] (0, 14, 21, 25) [(0, 14, 25, 13)] rfl (List.forall_mem_cons.mpr ⟨⟨by decide, eIO, by decide, by decide, hc_L_19⟩, fun z hz => absurd hz List.not_mem_nil⟩) (by decide) (by decide) (by decide) hc_L_25 (fun q => ?_)
      refine zastore (L1 := [_, _, _, _, _, _, _]) C dL_person_21 rfl (Nat.le_of_ble_eq_true rfl) ?_
      refine zconst (v := 2) C dL_person_23 (by decide) ?_
      exact zend_w C hE dL_person_24 (by omega) (by omega) (Or.inr (Or.inr (Or.inl ⟨rfl, he⟩)))
    · refine zcatch C hE [(0, 14, 17, 19), (0, 14, 21, 25)] (0, 14, 25, 13) [] rfl (List.forall_mem_cons.mpr ⟨⟨by decide, eIO, by decide, by decide, hc_L_19⟩, List.forall_mem_cons.mpr ⟨⟨by decide, eIA, by decide, by decide, hc_L_25⟩, fun z hz => absurd hz List.not_mem_nil⟩⟩) (by decide) (by decide) (by decide) hc_L_13 (fun q => ?_)
      refine zastore (L1 := [_, _, _, _, _, _, _]) C dL_person_25 rfl (Nat.le_of_ble_eq_true rfl) ?_
      refine zconst (v := 3) C dL_person_27 (by decide) ?_
      exact zend_w C hE dL_person_28 (by omega) (by omega) (Or.inr (Or.inr (Or.inr (⟨rfl, he⟩))))
  · refine zi2l C dL_person_12 ?_
    refine zrjast (i0 := 0) C (ho _ _ hp) rfl (by decide) (by decide) dL_person_13 ?_
    refine zgoto (tgt := 29) C dL_person_14 (by decide) ?_
    refine zconst (v := 0) C dL_person_29 (by decide) ?_
    exact zend_w C hE dL_person_30 (by omega) (by omega) (Or.inl ⟨rfl, _, _, hp, rfl⟩)
theorem hcw_turn : Cond.codeWith yL_turn cL_turn 7 (some .int) [(0, 14, 17, 19), (0, 14, 21, 25), (0, 14, 25, 13)] ∈ GW ∧ Cond.static yL_turn ∈ GW := ⟨zGWin (List.mem_of_getElem? (i := 579) (by decide +kernel)) (by decide +kernel), zGWin (List.mem_of_getElem? (i := 578) (by decide +kernel)) (by decide +kernel)⟩
set_option maxRecDepth 100000 in
set_option maxHeartbeats 1000000 in
theorem w_turn {g : zGh} {M : zM} {x o mc ms : Nat} {f : Nat → Int64} {fs : List Value} {a0 a1 a2 a3 : Int32} {P : Int32 → zM → Prop} {PX : String → zM → Prop} (hM : zCt g yX7_turn cX7_turn 8 (some .int) 7 111 mkI [.ref x, .int a0, .int a1, .int a2, .int a3] M mc ms P PX) (hx : M x = some (zob 8 fs)) (ho : ∀ v M1, P v M1 → M1 o = some (zaj g 1 f)) (hX : ∀ E M1, PX E M1 → E = eIO ∨ E = eIA ∨ E = eIS) : zCw g yL_turn cL_turn 7 [(0, 14, 17, 19), (0, 14, 21, 25), (0, 14, 25, 13)] 8 138 [.ref x, .int a0, .int a1, .int a2, .int a3, .ref o] M mc ms (fun w M2 => (w = 0 ∧ ∃ v M1, P v M1 ∧ M2 = zup M1 o (zaj g 1 (vp_updL f 0 v.toInt64))) ∨ (w = 1 ∧ PX eIO M2) ∨ (w = 2 ∧ PX eIA M2) ∨ (w = 3 ∧ PX eIS M2)) := by
  refine zofw [some (.ref x), some (.int a0), some (.int a1), some (.int a2), some (.int a3), some (.ref o), none] (by decide +kernel) rfl rfl (Nat.le_of_ble_eq_true rfl) ?_
  intro X C hE
  have C : zC g X RL cL_turn 7 8 138 mc ms := C
  refine zaload C dL_turn_0 rfl ?_
  refine zconst (v := 0) C dL_turn_2 (by decide) ?_
  refine zaload_n C dL_turn_3 rfl ?_
  refine ziload_n C dL_turn_4 rfl ?_
  refine ziload_n C dL_turn_5 rfl ?_
  refine ziload_n C dL_turn_6 rfl ?_
  refine ziload C dL_turn_7 rfl ?_
  refine zcallVX C hM hy_X7_turn hv_X7_turn hl_L_42 hx rfl rfl rfl rfl (by decide) (by decide) (by omega) (by omega) rfl (by exact Nat.le_of_ble_eq_true rfl) dL_turn_9 (fun E M1 he => ?_) (fun v M hp => ?_)
  · have hEx := hX _ _ he
    rcases hEx with rfl | rfl | rfl
    · refine zcatch C hE [] (0, 14, 17, 19) [(0, 14, 21, 25), (0, 14, 25, 13)] rfl (fun z hz => absurd hz List.not_mem_nil) (by decide) (by decide) (by decide) hc_L_19 (fun q => ?_)
      refine zastore (L1 := [_, _, _, _, _, _, _]) C dL_turn_17 rfl (Nat.le_of_ble_eq_true rfl) ?_
      refine zconst (v := 1) C dL_turn_19 (by decide) ?_
      exact zend_w C hE dL_turn_20 (by omega) (by omega) (Or.inr (Or.inl ⟨rfl, he⟩))
    · refine zcatch C hE [(0, 14, 17, 19)] (0, 14, 21, 25) [(0, 14, 25, 13)] rfl (List.forall_mem_cons.mpr ⟨⟨by decide, eIO, by decide, by decide, hc_L_19⟩, fun z hz => absurd hz List.not_mem_nil⟩) (by decide) (by decide) (by decide) hc_L_25 (fun q => ?_)
      refine zastore (L1 := [_, _, _, _, _, _, _]) C dL_turn_21 rfl (Nat.le_of_ble_eq_true rfl) ?_
      refine zconst (v := 2) C dL_turn_23 (by decide) ?_
      exact zend_w C hE dL_turn_24 (by omega) (by omega) (Or.inr (Or.inr (Or.inl ⟨rfl, he⟩)))
    · refine zcatch C hE [(0, 14, 17, 19), (0, 14, 21, 25)] (0, 14, 25, 13) [] rfl (List.forall_mem_cons.mpr ⟨⟨by decide, eIO, by decide, by decide, hc_L_19⟩, List.forall_mem_cons.mpr ⟨⟨by decide, eIA, by decide, by decide, hc_L_25⟩, fun z hz => absurd hz List.not_mem_nil⟩⟩) (by decide) (by decide) (by decide) hc_L_13 (fun q => ?_)
      refine zastore (L1 := [_, _, _, _, _, _, _]) C dL_turn_25 rfl (Nat.le_of_ble_eq_true rfl) ?_
      refine zconst (v := 3) C dL_turn_27 (by decide) ?_
      exact zend_w C hE dL_turn_28 (by omega) (by omega) (Or.inr (Or.inr (Or.inr (⟨rfl, he⟩))))
  · refine zi2l C dL_turn_12 ?_
    refine zrjast (i0 := 0) C (ho _ _ hp) rfl (by decide) (by decide) dL_turn_13 ?_
    refine zgoto (tgt := 29) C dL_turn_14 (by decide) ?_
    refine zconst (v := 0) C dL_turn_29 (by decide) ?_
    exact zend_w C hE dL_turn_30 (by omega) (by omega) (Or.inl ⟨rfl, _, _, hp, rfl⟩)
theorem hcw_recant : Cond.codeWith yL_recant cL_recant 4 (some .int) [(0, 9, 12, 19), (0, 9, 15, 13)] ∈ GW ∧ Cond.static yL_recant ∈ GW := ⟨zGWin (List.mem_of_getElem? (i := 605) (by decide +kernel)) (by decide +kernel), zGWin (List.mem_of_getElem? (i := 604) (by decide +kernel)) (by decide +kernel)⟩
set_option maxRecDepth 100000 in
set_option maxHeartbeats 1000000 in
theorem w_recant {g : zGh} {M : zM} {x o mc ms : Nat} {f : Nat → Int64} {fs : List Value} {a0 : Int32} {P : Int32 → zM → Prop} {PX : String → zM → Prop} (hM : zCt g yX7_recant cX7_recant 4 (some .int) 7 111 mkI [.ref x, .int a0] M mc ms P PX) (hx : M x = some (zob 8 fs)) (ho : ∀ v M1, P v M1 → M1 o = some (zaj g 1 f)) (hX : ∀ E M1, PX E M1 → E = eIO ∨ E = eIS) : zCw g yL_recant cL_recant 4 [(0, 9, 12, 19), (0, 9, 15, 13)] 8 134 [.ref x, .int a0, .ref o] M mc ms (fun w M2 => (w = 0 ∧ ∃ v M1, P v M1 ∧ M2 = zup M1 o (zaj g 1 (vp_updL f 0 v.toInt64))) ∨ (w = 1 ∧ PX eIO M2) ∨ (w = 2 ∧ PX eIS M2)) := by
  refine zofw [some (.ref x), some (.int a0), some (.ref o), none] (by decide +kernel) rfl rfl (Nat.le_of_ble_eq_true rfl) ?_
  intro X C hE
  have C : zC g X RL cL_recant 4 8 134 mc ms := C
  refine zaload_n C dL_recant_0 rfl ?_
  refine zconst (v := 0) C dL_recant_1 (by decide) ?_
  refine zaload_n C dL_recant_2 rfl ?_
  refine ziload_n C dL_recant_3 rfl ?_
  refine zcallVX C hM hy_X7_recant hv_X7_recant hl_L_45 hx rfl rfl rfl rfl (by decide) (by decide) (by omega) (by omega) rfl (by exact Nat.le_of_ble_eq_true rfl) dL_recant_4 (fun E M1 he => ?_) (fun v M hp => ?_)
  · have hEx := hX _ _ he
    rcases hEx with rfl | rfl
    · refine zcatch C hE [] (0, 9, 12, 19) [(0, 9, 15, 13)] rfl (fun z hz => absurd hz List.not_mem_nil) (by decide) (by decide) (by decide) hc_L_19 (fun q => ?_)
      refine zastore_n (L1 := [_, _, _, _]) C dL_recant_12 rfl (Nat.le_of_ble_eq_true rfl) ?_
      refine zconst (v := 1) C dL_recant_13 (by decide) ?_
      exact zend_w C hE dL_recant_14 (by omega) (by omega) (Or.inr (Or.inl ⟨rfl, he⟩))
    · refine zcatch C hE [(0, 9, 12, 19)] (0, 9, 15, 13) [] rfl (List.forall_mem_cons.mpr ⟨⟨by decide, eIO, by decide, by decide, hc_L_19⟩, fun z hz => absurd hz List.not_mem_nil⟩) (by decide) (by decide) (by decide) hc_L_13 (fun q => ?_)
      refine zastore_n (L1 := [_, _, _, _]) C dL_recant_15 rfl (Nat.le_of_ble_eq_true rfl) ?_
      refine zconst (v := 2) C dL_recant_16 (by decide) ?_
      exact zend_w C hE dL_recant_17 (by omega) (by omega) (Or.inr (Or.inr (⟨rfl, he⟩)))
  · refine zi2l C dL_recant_7 ?_
    refine zrjast (i0 := 0) C (ho _ _ hp) rfl (by decide) (by decide) dL_recant_8 ?_
    refine zgoto (tgt := 18) C dL_recant_9 (by decide) ?_
    refine zconst (v := 0) C dL_recant_18 (by decide) ?_
    exact zend_w C hE dL_recant_19 (by omega) (by omega) (Or.inl ⟨rfl, _, _, hp, rfl⟩)
theorem hcw_faith : Cond.codeWith yL_faith cL_faith 5 (some .int) [(0, 10, 13, 19), (0, 10, 17, 25)] ∈ GW ∧ Cond.static yL_faith ∈ GW := ⟨zGWin (List.mem_of_getElem? (i := 617) (by decide +kernel)) (by decide +kernel), zGWin (List.mem_of_getElem? (i := 616) (by decide +kernel)) (by decide +kernel)⟩
set_option maxRecDepth 100000 in
set_option maxHeartbeats 1000000 in
theorem w_faith {g : zGh} {M : zM} {x o mc ms : Nat} {f : Nat → Int64} {fs : List Value} {a0 a1 : Int32} {P : Int32 → zM → Prop} {PX : String → zM → Prop} (hM : zCt g yX7_faith cX7_faith 4 (some .int) 7 112 mkI [.ref x, .int a0, .int a1] M mc ms P PX) (hx : M x = some (zob 8 fs)) (ho : ∀ v M1, P v M1 → M1 o = some (zaj g 1 f)) (hX : ∀ E M1, PX E M1 → E = eIO ∨ E = eIA) : zCw g yL_faith cL_faith 5 [(0, 10, 13, 19), (0, 10, 17, 25)] 8 135 [.ref x, .int a0, .int a1, .ref o] M mc ms (fun w M2 => (w = 0 ∧ ∃ v M1, P v M1 ∧ M2 = zup M1 o (zaj g 1 (vp_updL f 0 v.toInt64))) ∨ (w = 1 ∧ PX eIO M2) ∨ (w = 2 ∧ PX eIA M2)) := by
  refine zofw [some (.ref x), some (.int a0), some (.int a1), some (.ref o), none] (by decide +kernel) rfl rfl (Nat.le_of_ble_eq_true rfl) ?_
  intro X C hE
  have C : zC g X RL cL_faith 5 8 135 mc ms := C
  refine zaload_n C dL_faith_0 rfl ?_
  refine zconst (v := 0) C dL_faith_1 (by decide) ?_
  refine zaload_n C dL_faith_2 rfl ?_
  refine ziload_n C dL_faith_3 rfl ?_
  refine ziload_n C dL_faith_4 rfl ?_
  refine zcallVX C hM hy_X7_faith hv_X7_faith hl_L_49 hx rfl rfl rfl rfl (by decide) (by decide) (by omega) (by omega) rfl (by exact Nat.le_of_ble_eq_true rfl) dL_faith_5 (fun E M1 he => ?_) (fun v M hp => ?_)
  · have hEx := hX _ _ he
    rcases hEx with rfl | rfl
    · refine zcatch C hE [] (0, 10, 13, 19) [(0, 10, 17, 25)] rfl (fun z hz => absurd hz List.not_mem_nil) (by decide) (by decide) (by decide) hc_L_19 (fun q => ?_)
      refine zastore (L1 := [_, _, _, _, _]) C dL_faith_13 rfl (Nat.le_of_ble_eq_true rfl) ?_
      refine zconst (v := 1) C dL_faith_15 (by decide) ?_
      exact zend_w C hE dL_faith_16 (by omega) (by omega) (Or.inr (Or.inl ⟨rfl, he⟩))
    · refine zcatch C hE [(0, 10, 13, 19)] (0, 10, 17, 25) [] rfl (List.forall_mem_cons.mpr ⟨⟨by decide, eIO, by decide, by decide, hc_L_19⟩, fun z hz => absurd hz List.not_mem_nil⟩) (by decide) (by decide) (by decide) hc_L_25 (fun q => ?_)
      refine zastore (L1 := [_, _, _, _, _]) C dL_faith_17 rfl (Nat.le_of_ble_eq_true rfl) ?_
      refine zconst (v := 2) C dL_faith_19 (by decide) ?_
      exact zend_w C hE dL_faith_20 (by omega) (by omega) (Or.inr (Or.inr (⟨rfl, he⟩)))
  · refine zi2l C dL_faith_8 ?_
    refine zrjast (i0 := 0) C (ho _ _ hp) rfl (by decide) (by decide) dL_faith_9 ?_
    refine zgoto (tgt := 21) C dL_faith_10 (by decide) ?_
    refine zconst (v := 0) C dL_faith_21 (by decide) ?_
    exact zend_w C hE dL_faith_22 (by omega) (by omega) (Or.inl ⟨rfl, _, _, hp, rfl⟩)
theorem hcw_marry : Cond.codeWith yL_marry cL_marry 6 (some .int) [(0, 12, 15, 19), (0, 12, 19, 25), (0, 12, 23, 13)] ∈ GW ∧ Cond.static yL_marry ∈ GW := ⟨zGWin (List.mem_of_getElem? (i := 624) (by decide +kernel)) (by decide +kernel), zGWin (List.mem_of_getElem? (i := 623) (by decide +kernel)) (by decide +kernel)⟩
set_option maxRecDepth 100000 in
set_option maxHeartbeats 1000000 in
theorem w_marry {g : zGh} {M : zM} {x o mc ms : Nat} {f : Nat → Int64} {fs : List Value} {a0 a1 a2 : Int32} {P : Int32 → zM → Prop} {PX : String → zM → Prop} (hM : zCt g yX7_marry cX7_marry 7 (some .int) 8 171 mkI [.ref x, .int a0, .int a1, .int a2] M mc ms P PX) (hx : M x = some (zob 8 fs)) (ho : ∀ v M1, P v M1 → M1 o = some (zaj g 1 f)) (hX : ∀ E M1, PX E M1 → E = eIO ∨ E = eIA ∨ E = eIS) : zCw g yL_marry cL_marry 6 [(0, 12, 15, 19), (0, 12, 19, 25), (0, 12, 23, 13)] 9 197 [.ref x, .int a0, .int a1, .int a2, .ref o] M mc ms (fun w M2 => (w = 0 ∧ ∃ v M1, P v M1 ∧ M2 = zup M1 o (zaj g 1 (vp_updL f 0 v.toInt64))) ∨ (w = 1 ∧ PX eIO M2) ∨ (w = 2 ∧ PX eIA M2) ∨ (w = 3 ∧ PX eIS M2)) := by
  refine zofw [some (.ref x), some (.int a0), some (.int a1), some (.int a2), some (.ref o), none] (by decide +kernel) rfl rfl (Nat.le_of_ble_eq_true rfl) ?_
  intro X C hE
  have C : zC g X RL cL_marry 6 9 197 mc ms := C
  refine zaload C dL_marry_0 rfl ?_
  refine zconst (v := 0) C dL_marry_2 (by decide) ?_
  refine zaload_n C dL_marry_3 rfl ?_
  refine ziload_n C dL_marry_4 rfl ?_
  refine ziload_n C dL_marry_5 rfl ?_
  refine ziload_n C dL_marry_6 rfl ?_
  refine zcallVX C hM hy_X7_marry hv_X7_marry hl_L_52 hx rfl rfl rfl rfl (by decide) (by decide) (by omega) (by omega) rfl (by exact Nat.le_of_ble_eq_true rfl) dL_marry_7 (fun E M1 he => ?_) (fun v M hp => ?_)
  · have hEx := hX _ _ he
    rcases hEx with rfl | rfl | rfl
    · refine zcatch C hE [] (0, 12, 15, 19) [(0, 12, 19, 25), (0, 12, 23, 13)] rfl (fun z hz => absurd hz List.not_mem_nil) (by decide) (by decide) (by decide) hc_L_19 (fun q => ?_)
      refine zastore (L1 := [_, _, _, _, _, _]) C dL_marry_15 rfl (Nat.le_of_ble_eq_true rfl) ?_
      refine zconst (v := 1) C dL_marry_17 (by decide) ?_
      exact zend_w C hE dL_marry_18 (by omega) (by omega) (Or.inr (Or.inl ⟨rfl, he⟩))
    · refine zcatch C hE [(0, 12, 15, 19)] (0, 12, 19, 25) [(0, 12, 23, 13)] rfl (List.forall_mem_cons.mpr ⟨⟨by decide, eIO, by decide, by decide, hc_L_19⟩, fun z hz => absurd hz List.not_mem_nil⟩) (by decide) (by decide) (by decide) hc_L_25 (fun q => ?_)
      refine zastore (L1 := [_, _, _, _, _, _]) C dL_marry_19 rfl (Nat.le_of_ble_eq_true rfl) ?_
      refine zconst (v := 2) C dL_marry_21 (by decide) ?_
      exact zend_w C hE dL_marry_22 (by omega) (by omega) (Or.inr (Or.inr (Or.inl ⟨rfl, he⟩)))
    · refine zcatch C hE [(0, 12, 15, 19), (0, 12, 19, 25)] (0, 12, 23, 13) [] rfl (List.forall_mem_cons.mpr ⟨⟨by decide, eIO, by decide, by decide, hc_L_19⟩, List.forall_mem_cons.mpr ⟨⟨by decide, eIA, by decide, by decide, hc_L_25⟩, fun z hz => absurd hz List.not_mem_nil⟩⟩) (by decide) (by decide) (by decide) hc_L_13 (fun q => ?_)
      refine zastore (L1 := [_, _, _, _, _, _]) C dL_marry_23 rfl (Nat.le_of_ble_eq_true rfl) ?_
      refine zconst (v := 3) C dL_marry_25 (by decide) ?_
      exact zend_w C hE dL_marry_26 (by omega) (by omega) (Or.inr (Or.inr (Or.inr (⟨rfl, he⟩))))
  · refine zi2l C dL_marry_10 ?_
    refine zrjast (i0 := 0) C (ho _ _ hp) rfl (by decide) (by decide) dL_marry_11 ?_
    refine zgoto (tgt := 27) C dL_marry_12 (by decide) ?_
    refine zconst (v := 0) C dL_marry_27 (by decide) ?_
    exact zend_w C hE dL_marry_28 (by omega) (by omega) (Or.inl ⟨rfl, _, _, hp, rfl⟩)
theorem hcw_divorce : Cond.codeWith yL_divorce cL_divorce 5 (some .int) [(0, 17, 20, 19), (0, 17, 24, 13)] ∈ GW ∧ Cond.static yL_divorce ∈ GW := ⟨zGWin (List.mem_of_getElem? (i := 683) (by decide +kernel)) (by decide +kernel), zGWin (List.mem_of_getElem? (i := 682) (by decide +kernel)) (by decide +kernel)⟩
set_option maxRecDepth 100000 in
set_option maxHeartbeats 1000000 in
theorem w_divorce {g : zGh} {M : zM} {x o mc ms : Nat} {f : Nat → Int64} {fs : List Value} {a0 a1 : Int32} {P : Int32 → zM → Prop} {PX : String → zM → Prop} (hM : zCt g yX7_divorce cX7_divorce 5 (some .boolean) 8 136 mkI [.ref x, .int a0, .int a1] M mc ms P PX) (hx : M x = some (zob 8 fs)) (ho : ∀ v M1, P v M1 → M1 o = some (zaj g 1 f)) (hX : ∀ E M1, PX E M1 → E = eIO ∨ E = eIS) : zCw g yL_divorce cL_divorce 5 [(0, 17, 20, 19), (0, 17, 24, 13)] 9 160 [.ref x, .int a0, .int a1, .ref o] M mc ms (fun w M2 => (w = 0 ∧ ∃ v M1, P v M1 ∧ M2 = zup M1 o (zaj g 1 (vp_updL f 0 (if v = 0 then 0 else 1)))) ∨ (w = 1 ∧ PX eIO M2) ∨ (w = 2 ∧ PX eIS M2)) := by
  refine zofw [some (.ref x), some (.int a0), some (.int a1), some (.ref o), none] (by decide +kernel) rfl rfl (Nat.le_of_ble_eq_true rfl) ?_
  intro X C hE
  have C : zC g X RL cL_divorce 5 9 160 mc ms := C
  refine zaload_n C dL_divorce_0 rfl ?_
  refine zconst (v := 0) C dL_divorce_1 (by decide) ?_
  refine zaload_n C dL_divorce_2 rfl ?_
  refine ziload_n C dL_divorce_3 rfl ?_
  refine ziload_n C dL_divorce_4 rfl ?_
  refine zcallVX C hM hy_X7_divorce hv_X7_divorce hl_L_55 hx rfl rfl rfl rfl (by decide) (by decide) (by omega) (by omega) rfl (by exact Nat.le_of_ble_eq_true rfl) dL_divorce_5 (fun E M1 he => ?_) (fun v M hp => ?_)
  · have hEx := hX _ _ he
    rcases hEx with rfl | rfl
    · refine zcatch C hE [] (0, 17, 20, 19) [(0, 17, 24, 13)] rfl (fun z hz => absurd hz List.not_mem_nil) (by decide) (by decide) (by decide) hc_L_19 (fun q => ?_)
      refine zastore (L1 := [_, _, _, _, _]) C dL_divorce_20 rfl (Nat.le_of_ble_eq_true rfl) ?_
      refine zconst (v := 1) C dL_divorce_22 (by decide) ?_
      exact zend_w C hE dL_divorce_23 (by omega) (by omega) (Or.inr (Or.inl ⟨rfl, he⟩))
    · refine zcatch C hE [(0, 17, 20, 19)] (0, 17, 24, 13) [] rfl (List.forall_mem_cons.mpr ⟨⟨by decide, eIO, by decide, by decide, hc_L_19⟩, fun z hz => absurd hz List.not_mem_nil⟩) (by decide) (by decide) (by decide) hc_L_13 (fun q => ?_)
      refine zastore (L1 := [_, _, _, _, _]) C dL_divorce_24 rfl (Nat.le_of_ble_eq_true rfl) ?_
      refine zconst (v := 2) C dL_divorce_26 (by decide) ?_
      exact zend_w C hE dL_divorce_27 (by omega) (by omega) (Or.inr (Or.inr (⟨rfl, he⟩)))
  · refine zif_eq (tgt := 15) C dL_divorce_8 (by decide) (fun h8 => ?_) (fun h8 => ?_)
    · refine zlconst (v := 0) C dL_divorce_15 rfl ?_
      refine zrjast (i0 := 0) C (ho _ _ hp) rfl (by decide) (by decide) dL_divorce_16 ?_
      refine zgoto (tgt := 28) C dL_divorce_17 (by decide) ?_
      refine zconst (v := 0) C dL_divorce_28 (by decide) ?_
      exact zend_w C hE dL_divorce_29 (by omega) (by omega) (Or.inl ⟨rfl, _, _, hp, by simp only [h8, if_true, if_false]⟩)
    · refine zlconst (v := 1) C dL_divorce_11 rfl ?_
      refine zgoto (tgt := 16) C dL_divorce_12 (by decide) ?_
      refine zrjast (i0 := 0) C (ho _ _ hp) rfl (by decide) (by decide) dL_divorce_16 ?_
      refine zgoto (tgt := 28) C dL_divorce_17 (by decide) ?_
      refine zconst (v := 0) C dL_divorce_28 (by decide) ?_
      exact zend_w C hE dL_divorce_29 (by omega) (by omega) (Or.inl ⟨rfl, _, _, hp, by simp only [h8, if_true, if_false]⟩)
theorem hcw_goods : Cond.codeWith yL_goods cL_goods 5 (some .int) [(0, 9, 12, 19), (0, 9, 16, 25), (0, 9, 20, 13)] ∈ GW ∧ Cond.static yL_goods ∈ GW := ⟨zGWin (List.mem_of_getElem? (i := 710) (by decide +kernel)) (by decide +kernel), zGWin (List.mem_of_getElem? (i := 709) (by decide +kernel)) (by decide +kernel)⟩
set_option maxRecDepth 100000 in
set_option maxHeartbeats 1000000 in
theorem w_goods {g : zGh} {M : zM} {x o mc ms : Nat} {f : Nat → Int64} {fs : List Value} {a0 a1 : Int32} {P : Int64 → zM → Prop} {PX : String → zM → Prop} (hM : zCt g yX7_goods cX7_goods 4 (some .long) 7 112 mkL [.ref x, .int a0, .int a1] M mc ms P PX) (hx : M x = some (zob 8 fs)) (ho : ∀ v M1, P v M1 → M1 o = some (zaj g 1 f)) (hX : ∀ E M1, PX E M1 → E = eIO ∨ E = eIA ∨ E = eIS) : zCw g yL_goods cL_goods 5 [(0, 9, 12, 19), (0, 9, 16, 25), (0, 9, 20, 13)] 8 135 [.ref x, .int a0, .int a1, .ref o] M mc ms (fun w M2 => (w = 0 ∧ ∃ v M1, P v M1 ∧ M2 = zup M1 o (zaj g 1 (vp_updL f 0 v))) ∨ (w = 1 ∧ PX eIO M2) ∨ (w = 2 ∧ PX eIA M2) ∨ (w = 3 ∧ PX eIS M2)) := by
  refine zofw [some (.ref x), some (.int a0), some (.int a1), some (.ref o), none] (by decide +kernel) rfl rfl (Nat.le_of_ble_eq_true rfl) ?_
  intro X C hE
  have C : zC g X RL cL_goods 5 8 135 mc ms := C
  refine zaload_n C dL_goods_0 rfl ?_
  refine zconst (v := 0) C dL_goods_1 (by decide) ?_
  refine zaload_n C dL_goods_2 rfl ?_
  refine ziload_n C dL_goods_3 rfl ?_
  refine ziload_n C dL_goods_4 rfl ?_
  refine zcallVX C hM hy_X7_goods hv_X7_goods hl_L_58 hx rfl rfl rfl rfl (by decide) (by decide) (by omega) (by omega) rfl (by exact Nat.le_of_ble_eq_true rfl) dL_goods_5 (fun E M1 he => ?_) (fun v M hp => ?_)
  · have hEx := hX _ _ he
    rcases hEx with rfl | rfl | rfl
    · refine zcatch C hE [] (0, 9, 12, 19) [(0, 9, 16, 25), (0, 9, 20, 13)] rfl (fun z hz => absurd hz List.not_mem_nil) (by decide) (by decide) (by decide) hc_L_19 (fun q => ?_)
      refine zastore (L1 := [_, _, _, _, _]) C dL_goods_12 rfl (Nat.le_of_ble_eq_true rfl) ?_
      refine zconst (v := 1) C dL_goods_14 (by decide) ?_
      exact zend_w C hE dL_goods_15 (by omega) (by omega) (Or.inr (Or.inl ⟨rfl, he⟩))
    · refine zcatch C hE [(0, 9, 12, 19)] (0, 9, 16, 25) [(0, 9, 20, 13)] rfl (List.forall_mem_cons.mpr ⟨⟨by decide, eIO, by decide, by decide, hc_L_19⟩, fun z hz => absurd hz List.not_mem_nil⟩) (by decide) (by decide) (by decide) hc_L_25 (fun q => ?_)
      refine zastore (L1 := [_, _, _, _, _]) C dL_goods_16 rfl (Nat.le_of_ble_eq_true rfl) ?_
      refine zconst (v := 2) C dL_goods_18 (by decide) ?_
      exact zend_w C hE dL_goods_19 (by omega) (by omega) (Or.inr (Or.inr (Or.inl ⟨rfl, he⟩)))
    · refine zcatch C hE [(0, 9, 12, 19), (0, 9, 16, 25)] (0, 9, 20, 13) [] rfl (List.forall_mem_cons.mpr ⟨⟨by decide, eIO, by decide, by decide, hc_L_19⟩, List.forall_mem_cons.mpr ⟨⟨by decide, eIA, by decide, by decide, hc_L_25⟩, fun z hz => absurd hz List.not_mem_nil⟩⟩) (by decide) (by decide) (by decide) hc_L_13 (fun q => ?_)
      refine zastore (L1 := [_, _, _, _, _]) C dL_goods_20 rfl (Nat.le_of_ble_eq_true rfl) ?_
      refine zconst (v := 3) C dL_goods_22 (by decide) ?_
      exact zend_w C hE dL_goods_23 (by omega) (by omega) (Or.inr (Or.inr (Or.inr (⟨rfl, he⟩))))
  · refine zrjast (i0 := 0) C (ho _ _ hp) rfl (by decide) (by decide) dL_goods_8 ?_
    refine zgoto (tgt := 24) C dL_goods_9 (by decide) ?_
    refine zconst (v := 0) C dL_goods_24 (by decide) ?_
    exact zend_w C hE dL_goods_25 (by omega) (by omega) (Or.inl ⟨rfl, _, _, hp, rfl⟩)
theorem hcw_dies : Cond.codeWith yL_dies cL_dies 4 (some .int) [(0, 8, 11, 19), (0, 8, 14, 13)] ∈ GW ∧ Cond.static yL_dies ∈ GW := ⟨zGWin (List.mem_of_getElem? (i := 718) (by decide +kernel)) (by decide +kernel), zGWin (List.mem_of_getElem? (i := 717) (by decide +kernel)) (by decide +kernel)⟩
set_option maxRecDepth 100000 in
set_option maxHeartbeats 1000000 in
theorem w_dies {g : zGh} {M : zM} {x o mc ms : Nat} {f : Nat → Int64} {fs : List Value} {a0 : Int32} {P : Int64 → zM → Prop} {PX : String → zM → Prop} (hM : zCt g yX7_dies cX7_dies 6 (some .long) 8 195 mkL [.ref x, .int a0] M mc ms P PX) (hx : M x = some (zob 8 fs)) (ho : ∀ v M1, P v M1 → M1 o = some (zaj g 1 f)) (hX : ∀ E M1, PX E M1 → E = eIO ∨ E = eIS) : zCw g yL_dies cL_dies 4 [(0, 8, 11, 19), (0, 8, 14, 13)] 9 220 [.ref x, .int a0, .ref o] M mc ms (fun w M2 => (w = 0 ∧ ∃ v M1, P v M1 ∧ M2 = zup M1 o (zaj g 1 (vp_updL f 0 v))) ∨ (w = 1 ∧ PX eIO M2) ∨ (w = 2 ∧ PX eIS M2)) := by
  refine zofw [some (.ref x), some (.int a0), some (.ref o), none] (by decide +kernel) rfl rfl (Nat.le_of_ble_eq_true rfl) ?_
  intro X C hE
  have C : zC g X RL cL_dies 4 9 220 mc ms := C
  refine zaload_n C dL_dies_0 rfl ?_
  refine zconst (v := 0) C dL_dies_1 (by decide) ?_
  refine zaload_n C dL_dies_2 rfl ?_
  refine ziload_n C dL_dies_3 rfl ?_
  refine zcallVX C hM hy_X7_dies hv_X7_dies hl_L_62 hx rfl rfl rfl rfl (by decide) (by decide) (by omega) (by omega) rfl (by exact Nat.le_of_ble_eq_true rfl) dL_dies_4 (fun E M1 he => ?_) (fun v M hp => ?_)
  · have hEx := hX _ _ he
    rcases hEx with rfl | rfl
    · refine zcatch C hE [] (0, 8, 11, 19) [(0, 8, 14, 13)] rfl (fun z hz => absurd hz List.not_mem_nil) (by decide) (by decide) (by decide) hc_L_19 (fun q => ?_)
      refine zastore_n (L1 := [_, _, _, _]) C dL_dies_11 rfl (Nat.le_of_ble_eq_true rfl) ?_
      refine zconst (v := 1) C dL_dies_12 (by decide) ?_
      exact zend_w C hE dL_dies_13 (by omega) (by omega) (Or.inr (Or.inl ⟨rfl, he⟩))
    · refine zcatch C hE [(0, 8, 11, 19)] (0, 8, 14, 13) [] rfl (List.forall_mem_cons.mpr ⟨⟨by decide, eIO, by decide, by decide, hc_L_19⟩, fun z hz => absurd hz List.not_mem_nil⟩) (by decide) (by decide) (by decide) hc_L_13 (fun q => ?_)
      refine zastore_n (L1 := [_, _, _, _]) C dL_dies_14 rfl (Nat.le_of_ble_eq_true rfl) ?_
      refine zconst (v := 2) C dL_dies_15 (by decide) ?_
      exact zend_w C hE dL_dies_16 (by omega) (by omega) (Or.inr (Or.inr (⟨rfl, he⟩)))
  · refine zrjast (i0 := 0) C (ho _ _ hp) rfl (by decide) (by decide) dL_dies_7 ?_
    refine zgoto (tgt := 17) C dL_dies_8 (by decide) ?_
    refine zconst (v := 0) C dL_dies_17 (by decide) ?_
    exact zend_w C hE dL_dies_18 (by omega) (by omega) (Or.inl ⟨rfl, _, _, hp, rfl⟩)
theorem hcw_sue : Cond.codeWith yL_sue cL_sue 7 (some .int) [(0, 14, 17, 19), (0, 14, 21, 25), (0, 14, 25, 13)] ∈ GW ∧ Cond.static yL_sue ∈ GW := ⟨zGWin (List.mem_of_getElem? (i := 768) (by decide +kernel)) (by decide +kernel), zGWin (List.mem_of_getElem? (i := 767) (by decide +kernel)) (by decide +kernel)⟩
set_option maxRecDepth 100000 in
set_option maxHeartbeats 1000000 in
theorem w_sue {g : zGh} {M : zM} {x o mc ms : Nat} {f : Nat → Int64} {fs : List Value} {a0 a1 a2 a3 : Int32} {P : Int32 → zM → Prop} {PX : String → zM → Prop} (hM : zCt g yX7_sue cX7_sue 8 (some .int) 8 171 mkI [.ref x, .int a0, .int a1, .int a2, .int a3] M mc ms P PX) (hx : M x = some (zob 8 fs)) (ho : ∀ v M1, P v M1 → M1 o = some (zaj g 1 f)) (hX : ∀ E M1, PX E M1 → E = eIO ∨ E = eIA ∨ E = eIS) : zCw g yL_sue cL_sue 7 [(0, 14, 17, 19), (0, 14, 21, 25), (0, 14, 25, 13)] 9 198 [.ref x, .int a0, .int a1, .int a2, .int a3, .ref o] M mc ms (fun w M2 => (w = 0 ∧ ∃ v M1, P v M1 ∧ M2 = zup M1 o (zaj g 1 (vp_updL f 0 v.toInt64))) ∨ (w = 1 ∧ PX eIO M2) ∨ (w = 2 ∧ PX eIA M2) ∨ (w = 3 ∧ PX eIS M2)) := by
  refine zofw [some (.ref x), some (.int a0), some (.int a1), some (.int a2), some (.int a3), some (.ref o), none] (by decide +kernel) rfl rfl (Nat.le_of_ble_eq_true rfl) ?_
  intro X C hE
  have C : zC g X RL cL_sue 7 9 198 mc ms := C
  refine zaload C dL_sue_0 rfl ?_
  refine zconst (v := 0) C dL_sue_2 (by decide) ?_
  refine zaload_n C dL_sue_3 rfl ?_
  refine ziload_n C dL_sue_4 rfl ?_
  refine ziload_n C dL_sue_5 rfl ?_
  refine ziload_n C dL_sue_6 rfl ?_
  refine ziload C dL_sue_7 rfl ?_
  refine zcallVX C hM hy_X7_sue hv_X7_sue hl_L_66 hx rfl rfl rfl rfl (by decide) (by decide) (by omega) (by omega) rfl (by exact Nat.le_of_ble_eq_true rfl) dL_sue_9 (fun E M1 he => ?_) (fun v M hp => ?_)
  · have hEx := hX _ _ he
    rcases hEx with rfl | rfl | rfl
    · refine zcatch C hE [] (0, 14, 17, 19) [(0, 14, 21, 25), (0, 14, 25, 13)] rfl (fun z hz => absurd hz List.not_mem_nil) (by decide) (by decide) (by decide) hc_L_19 (fun q => ?_)
      refine zastore (L1 := [_, _, _, _, _, _, _]) C dL_sue_17 rfl (Nat.le_of_ble_eq_true rfl) ?_
      refine zconst (v := 1) C dL_sue_19 (by decide) ?_
      exact zend_w C hE dL_sue_20 (by omega) (by omega) (Or.inr (Or.inl ⟨rfl, he⟩))
    · refine zcatch C hE [(0, 14, 17, 19)] (0, 14, 21, 25) [(0, 14, 25, 13)] rfl (List.forall_mem_cons.mpr ⟨⟨by decide, eIO, by decide, by decide, hc_L_19⟩, fun z hz => absurd hz List.not_mem_nil⟩) (by decide) (by decide) (by decide) hc_L_25 (fun q => ?_)
      refine zastore (L1 := [_, _, _, _, _, _, _]) C dL_sue_21 rfl (Nat.le_of_ble_eq_true rfl) ?_
      refine zconst (v := 2) C dL_sue_23 (by decide) ?_
      exact zend_w C hE dL_sue_24 (by omega) (by omega) (Or.inr (Or.inr (Or.inl ⟨rfl, he⟩)))
    · refine zcatch C hE [(0, 14, 17, 19), (0, 14, 21, 25)] (0, 14, 25, 13) [] rfl (List.forall_mem_cons.mpr ⟨⟨by decide, eIO, by decide, by decide, hc_L_19⟩, List.forall_mem_cons.mpr ⟨⟨by decide, eIA, by decide, by decide, hc_L_25⟩, fun z hz => absurd hz List.not_mem_nil⟩⟩) (by decide) (by decide) (by decide) hc_L_13 (fun q => ?_)
      refine zastore (L1 := [_, _, _, _, _, _, _]) C dL_sue_25 rfl (Nat.le_of_ble_eq_true rfl) ?_
      refine zconst (v := 3) C dL_sue_27 (by decide) ?_
      exact zend_w C hE dL_sue_28 (by omega) (by omega) (Or.inr (Or.inr (Or.inr (⟨rfl, he⟩))))
  · refine zi2l C dL_sue_12 ?_
    refine zrjast (i0 := 0) C (ho _ _ hp) rfl (by decide) (by decide) dL_sue_13 ?_
    refine zgoto (tgt := 29) C dL_sue_14 (by decide) ?_
    refine zconst (v := 0) C dL_sue_29 (by decide) ?_
    exact zend_w C hE dL_sue_30 (by omega) (by omega) (Or.inl ⟨rfl, _, _, hp, rfl⟩)
theorem hcw_appear : Cond.codeWith yL_appear cL_appear 4 (some .int) [(0, 16, 19, 19), (0, 16, 22, 13)] ∈ GW ∧ Cond.static yL_appear ∈ GW := ⟨zGWin (List.mem_of_getElem? (i := 835) (by decide +kernel)) (by decide +kernel), zGWin (List.mem_of_getElem? (i := 834) (by decide +kernel)) (by decide +kernel)⟩
set_option maxRecDepth 100000 in
set_option maxHeartbeats 1000000 in
theorem w_appear {g : zGh} {M : zM} {x o mc ms : Nat} {f : Nat → Int64} {fs : List Value} {a0 : Int32} {P : Int32 → zM → Prop} {PX : String → zM → Prop} (hM : zCt g yX7_appear cX7_appear 4 (some .boolean) 7 111 mkI [.ref x, .int a0] M mc ms P PX) (hx : M x = some (zob 8 fs)) (ho : ∀ v M1, P v M1 → M1 o = some (zaj g 1 f)) (hX : ∀ E M1, PX E M1 → E = eIO ∨ E = eIS) : zCw g yL_appear cL_appear 4 [(0, 16, 19, 19), (0, 16, 22, 13)] 8 134 [.ref x, .int a0, .ref o] M mc ms (fun w M2 => (w = 0 ∧ ∃ v M1, P v M1 ∧ M2 = zup M1 o (zaj g 1 (vp_updL f 0 (if v = 0 then 0 else 1)))) ∨ (w = 1 ∧ PX eIO M2) ∨ (w = 2 ∧ PX eIS M2)) := by
  refine zofw [some (.ref x), some (.int a0), some (.ref o), none] (by decide +kernel) rfl rfl (Nat.le_of_ble_eq_true rfl) ?_
  intro X C hE
  have C : zC g X RL cL_appear 4 8 134 mc ms := C
  refine zaload_n C dL_appear_0 rfl ?_
  refine zconst (v := 0) C dL_appear_1 (by decide) ?_
  refine zaload_n C dL_appear_2 rfl ?_
  refine ziload_n C dL_appear_3 rfl ?_
  refine zcallVX C hM hy_X7_appear hv_X7_appear hl_L_69 hx rfl rfl rfl rfl (by decide) (by decide) (by omega) (by omega) rfl (by exact Nat.le_of_ble_eq_true rfl) dL_appear_4 (fun E M1 he => ?_) (fun v M hp => ?_)
  · have hEx := hX _ _ he
    rcases hEx with rfl | rfl
    · refine zcatch C hE [] (0, 16, 19, 19) [(0, 16, 22, 13)] rfl (fun z hz => absurd hz List.not_mem_nil) (by decide) (by decide) (by decide) hc_L_19 (fun q => ?_)
      refine zastore_n (L1 := [_, _, _, _]) C dL_appear_19 rfl (Nat.le_of_ble_eq_true rfl) ?_
      refine zconst (v := 1) C dL_appear_20 (by decide) ?_
      exact zend_w C hE dL_appear_21 (by omega) (by omega) (Or.inr (Or.inl ⟨rfl, he⟩))
    · refine zcatch C hE [(0, 16, 19, 19)] (0, 16, 22, 13) [] rfl (List.forall_mem_cons.mpr ⟨⟨by decide, eIO, by decide, by decide, hc_L_19⟩, fun z hz => absurd hz List.not_mem_nil⟩) (by decide) (by decide) (by decide) hc_L_13 (fun q => ?_)
      refine zastore_n (L1 := [_, _, _, _]) C dL_appear_22 rfl (Nat.le_of_ble_eq_true rfl) ?_
      refine zconst (v := 2) C dL_appear_23 (by decide) ?_
      exact zend_w C hE dL_appear_24 (by omega) (by omega) (Or.inr (Or.inr (⟨rfl, he⟩)))
  · refine zif_eq (tgt := 14) C dL_appear_7 (by decide) (fun h7 => ?_) (fun h7 => ?_)
    · refine zlconst (v := 0) C dL_appear_14 rfl ?_
      refine zrjast (i0 := 0) C (ho _ _ hp) rfl (by decide) (by decide) dL_appear_15 ?_
      refine zgoto (tgt := 25) C dL_appear_16 (by decide) ?_
      refine zconst (v := 0) C dL_appear_25 (by decide) ?_
      exact zend_w C hE dL_appear_26 (by omega) (by omega) (Or.inl ⟨rfl, _, _, hp, by simp only [h7, if_true, if_false]⟩)
    · refine zlconst (v := 1) C dL_appear_10 rfl ?_
      refine zgoto (tgt := 15) C dL_appear_11 (by decide) ?_
      refine zrjast (i0 := 0) C (ho _ _ hp) rfl (by decide) (by decide) dL_appear_15 ?_
      refine zgoto (tgt := 25) C dL_appear_16 (by decide) ?_
      refine zconst (v := 0) C dL_appear_25 (by decide) ?_
      exact zend_w C hE dL_appear_26 (by omega) (by omega) (Or.inl ⟨rfl, _, _, hp, by simp only [h7, if_true, if_false]⟩)
theorem hcw_testify : Cond.codeWith yL_testify cL_testify 6 (some .int) [(0, 12, 15, 19), (0, 12, 19, 13)] ∈ GW ∧ Cond.static yL_testify ∈ GW := ⟨zGWin (List.mem_of_getElem? (i := 852) (by decide +kernel)) (by decide +kernel), zGWin (List.mem_of_getElem? (i := 851) (by decide +kernel)) (by decide +kernel)⟩
set_option maxRecDepth 100000 in
set_option maxHeartbeats 1000000 in
theorem w_testify {g : zGh} {M : zM} {x o mc ms : Nat} {f : Nat → Int64} {fs : List Value} {a0 a1 a2 : Int32} {P : Int32 → zM → Prop} {PX : String → zM → Prop} (hM : zCt g yX7_testify cX7_testify 6 (some .int) 7 171 mkI [.ref x, .int a0, .int a1, .int a2] M mc ms P PX) (hx : M x = some (zob 8 fs)) (ho : ∀ v M1, P v M1 → M1 o = some (zaj g 1 f)) (hX : ∀ E M1, PX E M1 → E = eIO ∨ E = eIS) : zCw g yL_testify cL_testify 6 [(0, 12, 15, 19), (0, 12, 19, 13)] 8 196 [.ref x, .int a0, .int a1, .int a2, .ref o] M mc ms (fun w M2 => (w = 0 ∧ ∃ v M1, P v M1 ∧ M2 = zup M1 o (zaj g 1 (vp_updL f 0 v.toInt64))) ∨ (w = 1 ∧ PX eIO M2) ∨ (w = 2 ∧ PX eIS M2)) := by
  refine zofw [some (.ref x), some (.int a0), some (.int a1), some (.int a2), some (.ref o), none] (by decide +kernel) rfl rfl (Nat.le_of_ble_eq_true rfl) ?_
  intro X C hE
  have C : zC g X RL cL_testify 6 8 196 mc ms := C
  refine zaload C dL_testify_0 rfl ?_
  refine zconst (v := 0) C dL_testify_2 (by decide) ?_
  refine zaload_n C dL_testify_3 rfl ?_
  refine ziload_n C dL_testify_4 rfl ?_
  refine ziload_n C dL_testify_5 rfl ?_
  refine ziload_n C dL_testify_6 rfl ?_
  refine zcallVX C hM hy_X7_testify hv_X7_testify hl_L_73 hx rfl rfl rfl rfl (by decide) (by decide) (by omega) (by omega) rfl (by exact Nat.le_of_ble_eq_true rfl) dL_testify_7 (fun E M1 he => ?_) (fun v M hp => ?_)
  · have hEx := hX _ _ he
    rcases hEx with rfl | rfl
    · refine zcatch C hE [] (0, 12, 15, 19) [(0, 12, 19, 13)] rfl (fun z hz => absurd hz List.not_mem_nil) (by decide) (by decide) (by decide) hc_L_19 (fun q => ?_)
      refine zastore (L1 := [_, _, _, _, _, _]) C dL_testify_15 rfl (Nat.le_of_ble_eq_true rfl) ?_
      refine zconst (v := 1) C dL_testify_17 (by decide) ?_
      exact zend_w C hE dL_testify_18 (by omega) (by omega) (Or.inr (Or.inl ⟨rfl, he⟩))
    · refine zcatch C hE [(0, 12, 15, 19)] (0, 12, 19, 13) [] rfl (List.forall_mem_cons.mpr ⟨⟨by decide, eIO, by decide, by decide, hc_L_19⟩, fun z hz => absurd hz List.not_mem_nil⟩) (by decide) (by decide) (by decide) hc_L_13 (fun q => ?_)
      refine zastore (L1 := [_, _, _, _, _, _]) C dL_testify_19 rfl (Nat.le_of_ble_eq_true rfl) ?_
      refine zconst (v := 2) C dL_testify_21 (by decide) ?_
      exact zend_w C hE dL_testify_22 (by omega) (by omega) (Or.inr (Or.inr (⟨rfl, he⟩)))
  · refine zi2l C dL_testify_10 ?_
    refine zrjast (i0 := 0) C (ho _ _ hp) rfl (by decide) (by decide) dL_testify_11 ?_
    refine zgoto (tgt := 23) C dL_testify_12 (by decide) ?_
    refine zconst (v := 0) C dL_testify_23 (by decide) ?_
    exact zend_w C hE dL_testify_24 (by omega) (by omega) (Or.inl ⟨rfl, _, _, hp, rfl⟩)
theorem hcw_judge : Cond.codeWith yL_judge cL_judge 4 (some .int) [(0, 16, 19, 19), (0, 16, 22, 13)] ∈ GW ∧ Cond.static yL_judge ∈ GW := ⟨zGWin (List.mem_of_getElem? (i := 883) (by decide +kernel)) (by decide +kernel), zGWin (List.mem_of_getElem? (i := 882) (by decide +kernel)) (by decide +kernel)⟩
set_option maxRecDepth 100000 in
set_option maxHeartbeats 1000000 in
theorem w_judge {g : zGh} {M : zM} {x o mc ms : Nat} {f : Nat → Int64} {fs : List Value} {a0 : Int32} {P : Int32 → zM → Prop} {PX : String → zM → Prop} (hM : zCt g yX7_judge cX7_judge 4 (some .boolean) 8 132 mkI [.ref x, .int a0] M mc ms P PX) (hx : M x = some (zob 8 fs)) (ho : ∀ v M1, P v M1 → M1 o = some (zaj g 1 f)) (hX : ∀ E M1, PX E M1 → E = eIO ∨ E = eIS) : zCw g yL_judge cL_judge 4 [(0, 16, 19, 19), (0, 16, 22, 13)] 9 155 [.ref x, .int a0, .ref o] M mc ms (fun w M2 => (w = 0 ∧ ∃ v M1, P v M1 ∧ M2 = zup M1 o (zaj g 1 (vp_updL f 0 (if v = 0 then 0 else 1)))) ∨ (w = 1 ∧ PX eIO M2) ∨ (w = 2 ∧ PX eIS M2)) := by
  refine zofw [some (.ref x), some (.int a0), some (.ref o), none] (by decide +kernel) rfl rfl (Nat.le_of_ble_eq_true rfl) ?_
  intro X C hE
  have C : zC g X RL cL_judge 4 9 155 mc ms := C
  refine zaload_n C dL_judge_0 rfl ?_
  refine zconst (v := 0) C dL_judge_1 (by decide) ?_
  refine zaload_n C dL_judge_2 rfl ?_
  refine ziload_n C dL_judge_3 rfl ?_
  refine zcallVX C hM hy_X7_judge hv_X7_judge hl_L_77 hx rfl rfl rfl rfl (by decide) (by decide) (by omega) (by omega) rfl (by exact Nat.le_of_ble_eq_true rfl) dL_judge_4 (fun E M1 he => ?_) (fun v M hp => ?_)
  · have hEx := hX _ _ he
    rcases hEx with rfl | rfl
    · refine zcatch C hE [] (0, 16, 19, 19) [(0, 16, 22, 13)] rfl (fun z hz => absurd hz List.not_mem_nil) (by decide) (by decide) (by decide) hc_L_19 (fun q => ?_)
      refine zastore_n (L1 := [_, _, _, _]) C dL_judge_19 rfl (Nat.le_of_ble_eq_true rfl) ?_
      refine zconst (v := 1) C dL_judge_20 (by decide) ?_
      exact zend_w C hE dL_judge_21 (by omega) (by omega) (Or.inr (Or.inl ⟨rfl, he⟩))
    · refine zcatch C hE [(0, 16, 19, 19)] (0, 16, 22, 13) [] rfl (List.forall_mem_cons.mpr ⟨⟨by decide, eIO, by decide, by decide, hc_L_19⟩, fun z hz => absurd hz List.not_mem_nil⟩) (by decide) (by decide) (by decide) hc_L_13 (fun q => ?_)
      refine zastore_n (L1 := [_, _, _, _]) C dL_judge_22 rfl (Nat.le_of_ble_eq_true rfl) ?_
      refine zconst (v := 2) C dL_judge_23 (by decide) ?_
      exact zend_w C hE dL_judge_24 (by omega) (by omega) (Or.inr (Or.inr (⟨rfl, he⟩)))
  · refine zif_eq (tgt := 14) C dL_judge_7 (by decide) (fun h7 => ?_) (fun h7 => ?_)
    · refine zlconst (v := 0) C dL_judge_14 rfl ?_
      refine zrjast (i0 := 0) C (ho _ _ hp) rfl (by decide) (by decide) dL_judge_15 ?_
      refine zgoto (tgt := 25) C dL_judge_16 (by decide) ?_
      refine zconst (v := 0) C dL_judge_25 (by decide) ?_
      exact zend_w C hE dL_judge_26 (by omega) (by omega) (Or.inl ⟨rfl, _, _, hp, by simp only [h7, if_true, if_false]⟩)
    · refine zlconst (v := 1) C dL_judge_10 rfl ?_
      refine zgoto (tgt := 15) C dL_judge_11 (by decide) ?_
      refine zrjast (i0 := 0) C (ho _ _ hp) rfl (by decide) (by decide) dL_judge_15 ?_
      refine zgoto (tgt := 25) C dL_judge_16 (by decide) ?_
      refine zconst (v := 0) C dL_judge_25 (by decide) ?_
      exact zend_w C hE dL_judge_26 (by omega) (by omega) (Or.inl ⟨rfl, _, _, hp, by simp only [h7, if_true, if_false]⟩)
theorem hcw_appeal : Cond.codeWith yL_appeal cL_appeal 4 (some .int) [(0, 16, 19, 19), (0, 16, 22, 13)] ∈ GW ∧ Cond.static yL_appeal ∈ GW := ⟨zGWin (List.mem_of_getElem? (i := 899) (by decide +kernel)) (by decide +kernel), zGWin (List.mem_of_getElem? (i := 898) (by decide +kernel)) (by decide +kernel)⟩
set_option maxRecDepth 100000 in
set_option maxHeartbeats 1000000 in
theorem w_appeal {g : zGh} {M : zM} {x o mc ms : Nat} {f : Nat → Int64} {fs : List Value} {a0 : Int32} {P : Int32 → zM → Prop} {PX : String → zM → Prop} (hM : zCt g yX7_appeal cX7_appeal 5 (some .boolean) 7 111 mkI [.ref x, .int a0] M mc ms P PX) (hx : M x = some (zob 8 fs)) (ho : ∀ v M1, P v M1 → M1 o = some (zaj g 1 f)) (hX : ∀ E M1, PX E M1 → E = eIO ∨ E = eIS) : zCw g yL_appeal cL_appeal 4 [(0, 16, 19, 19), (0, 16, 22, 13)] 8 135 [.ref x, .int a0, .ref o] M mc ms (fun w M2 => (w = 0 ∧ ∃ v M1, P v M1 ∧ M2 = zup M1 o (zaj g 1 (vp_updL f 0 (if v = 0 then 0 else 1)))) ∨ (w = 1 ∧ PX eIO M2) ∨ (w = 2 ∧ PX eIS M2)) := by
  refine zofw [some (.ref x), some (.int a0), some (.ref o), none] (by decide +kernel) rfl rfl (Nat.le_of_ble_eq_true rfl) ?_
  intro X C hE
  have C : zC g X RL cL_appeal 4 8 135 mc ms := C
  refine zaload_n C dL_appeal_0 rfl ?_
  refine zconst (v := 0) C dL_appeal_1 (by decide) ?_
  refine zaload_n C dL_appeal_2 rfl ?_
  refine ziload_n C dL_appeal_3 rfl ?_
  refine zcallVX C hM hy_X7_appeal hv_X7_appeal hl_L_80 hx rfl rfl rfl rfl (by decide) (by decide) (by omega) (by omega) rfl (by exact Nat.le_of_ble_eq_true rfl) dL_appeal_4 (fun E M1 he => ?_) (fun v M hp => ?_)
  · have hEx := hX _ _ he
    rcases hEx with rfl | rfl
    · refine zcatch C hE [] (0, 16, 19, 19) [(0, 16, 22, 13)] rfl (fun z hz => absurd hz List.not_mem_nil) (by decide) (by decide) (by decide) hc_L_19 (fun q => ?_)
      refine zastore_n (L1 := [_, _, _, _]) C dL_appeal_19 rfl (Nat.le_of_ble_eq_true rfl) ?_
      refine zconst (v := 1) C dL_appeal_20 (by decide) ?_
      exact zend_w C hE dL_appeal_21 (by omega) (by omega) (Or.inr (Or.inl ⟨rfl, he⟩))
    · refine zcatch C hE [(0, 16, 19, 19)] (0, 16, 22, 13) [] rfl (List.forall_mem_cons.mpr ⟨⟨by decide, eIO, by decide, by decide, hc_L_19⟩, fun z hz => absurd hz List.not_mem_nil⟩) (by decide) (by decide) (by decide) hc_L_13 (fun q => ?_)
      refine zastore_n (L1 := [_, _, _, _]) C dL_appeal_22 rfl (Nat.le_of_ble_eq_true rfl) ?_
      refine zconst (v := 2) C dL_appeal_23 (by decide) ?_
      exact zend_w C hE dL_appeal_24 (by omega) (by omega) (Or.inr (Or.inr (⟨rfl, he⟩)))
  · refine zif_eq (tgt := 14) C dL_appeal_7 (by decide) (fun h7 => ?_) (fun h7 => ?_)
    · refine zlconst (v := 0) C dL_appeal_14 rfl ?_
      refine zrjast (i0 := 0) C (ho _ _ hp) rfl (by decide) (by decide) dL_appeal_15 ?_
      refine zgoto (tgt := 25) C dL_appeal_16 (by decide) ?_
      refine zconst (v := 0) C dL_appeal_25 (by decide) ?_
      exact zend_w C hE dL_appeal_26 (by omega) (by omega) (Or.inl ⟨rfl, _, _, hp, by simp only [h7, if_true, if_false]⟩)
    · refine zlconst (v := 1) C dL_appeal_10 rfl ?_
      refine zgoto (tgt := 15) C dL_appeal_11 (by decide) ?_
      refine zrjast (i0 := 0) C (ho _ _ hp) rfl (by decide) (by decide) dL_appeal_15 ?_
      refine zgoto (tgt := 25) C dL_appeal_16 (by decide) ?_
      refine zconst (v := 0) C dL_appeal_25 (by decide) ?_
      exact zend_w C hE dL_appeal_26 (by omega) (by omega) (Or.inl ⟨rfl, _, _, hp, by simp only [h7, if_true, if_false]⟩)
theorem hcw_execute : Cond.codeWith yL_execute cL_execute 4 (some .int) [(0, 8, 11, 19), (0, 8, 14, 13)] ∈ GW ∧ Cond.static yL_execute ∈ GW := ⟨zGWin (List.mem_of_getElem? (i := 917) (by decide +kernel)) (by decide +kernel), zGWin (List.mem_of_getElem? (i := 916) (by decide +kernel)) (by decide +kernel)⟩
set_option maxRecDepth 100000 in
set_option maxHeartbeats 1000000 in
theorem w_execute {g : zGh} {M : zM} {x o mc ms : Nat} {f : Nat → Int64} {fs : List Value} {a0 : Int32} {P : Int64 → zM → Prop} {PX : String → zM → Prop} (hM : zCt g yX7_execute cX7_execute 4 (some .long) 7 111 mkL [.ref x, .int a0] M mc ms P PX) (hx : M x = some (zob 8 fs)) (ho : ∀ v M1, P v M1 → M1 o = some (zaj g 1 f)) (hX : ∀ E M1, PX E M1 → E = eIO ∨ E = eIS) : zCw g yL_execute cL_execute 4 [(0, 8, 11, 19), (0, 8, 14, 13)] 8 134 [.ref x, .int a0, .ref o] M mc ms (fun w M2 => (w = 0 ∧ ∃ v M1, P v M1 ∧ M2 = zup M1 o (zaj g 1 (vp_updL f 0 v))) ∨ (w = 1 ∧ PX eIO M2) ∨ (w = 2 ∧ PX eIS M2)) := by
  refine zofw [some (.ref x), some (.int a0), some (.ref o), none] (by decide +kernel) rfl rfl (Nat.le_of_ble_eq_true rfl) ?_
  intro X C hE
  have C : zC g X RL cL_execute 4 8 134 mc ms := C
  refine zaload_n C dL_execute_0 rfl ?_
  refine zconst (v := 0) C dL_execute_1 (by decide) ?_
  refine zaload_n C dL_execute_2 rfl ?_
  refine ziload_n C dL_execute_3 rfl ?_
  refine zcallVX C hM hy_X7_execute hv_X7_execute hl_L_83 hx rfl rfl rfl rfl (by decide) (by decide) (by omega) (by omega) rfl (by exact Nat.le_of_ble_eq_true rfl) dL_execute_4 (fun E M1 he => ?_) (fun v M hp => ?_)
  · have hEx := hX _ _ he
    rcases hEx with rfl | rfl
    · refine zcatch C hE [] (0, 8, 11, 19) [(0, 8, 14, 13)] rfl (fun z hz => absurd hz List.not_mem_nil) (by decide) (by decide) (by decide) hc_L_19 (fun q => ?_)
      refine zastore_n (L1 := [_, _, _, _]) C dL_execute_11 rfl (Nat.le_of_ble_eq_true rfl) ?_
      refine zconst (v := 1) C dL_execute_12 (by decide) ?_
      exact zend_w C hE dL_execute_13 (by omega) (by omega) (Or.inr (Or.inl ⟨rfl, he⟩))
    · refine zcatch C hE [(0, 8, 11, 19)] (0, 8, 14, 13) [] rfl (List.forall_mem_cons.mpr ⟨⟨by decide, eIO, by decide, by decide, hc_L_19⟩, fun z hz => absurd hz List.not_mem_nil⟩) (by decide) (by decide) (by decide) hc_L_13 (fun q => ?_)
      refine zastore_n (L1 := [_, _, _, _]) C dL_execute_14 rfl (Nat.le_of_ble_eq_true rfl) ?_
      refine zconst (v := 2) C dL_execute_15 (by decide) ?_
      exact zend_w C hE dL_execute_16 (by omega) (by omega) (Or.inr (Or.inr (⟨rfl, he⟩)))
  · refine zrjast (i0 := 0) C (ho _ _ hp) rfl (by decide) (by decide) dL_execute_7 ?_
    refine zgoto (tgt := 17) C dL_execute_8 (by decide) ?_
    refine zconst (v := 0) C dL_execute_17 (by decide) ?_
    exact zend_w C hE dL_execute_18 (by omega) (by omega) (Or.inl ⟨rfl, _, _, hp, rfl⟩)
theorem hcw_wins : Cond.codeWith yL_wins cL_wins 5 (some .int) [(0, 17, 20, 19)] ∈ GW ∧ Cond.static yL_wins ∈ GW := ⟨zGWin (List.mem_of_getElem? (i := 928) (by decide +kernel)) (by decide +kernel), zGWin (List.mem_of_getElem? (i := 927) (by decide +kernel)) (by decide +kernel)⟩
set_option maxRecDepth 100000 in
set_option maxHeartbeats 1000000 in
theorem w_wins {g : zGh} {M : zM} {x o mc ms : Nat} {f : Nat → Int64} {fs : List Value} {a0 a1 : Int32} {P : Int32 → zM → Prop} {PX : String → zM → Prop} (hM : zCt g yX7_wins cX7_wins 4 (some .boolean) 8 132 mkI [.ref x, .int a0, .int a1] M mc ms P PX) (hx : M x = some (zob 8 fs)) (ho : ∀ v M1, P v M1 → M1 o = some (zaj g 1 f)) (hX : ∀ E M1, PX E M1 → E = eIO) : zCw g yL_wins cL_wins 5 [(0, 17, 20, 19)] 9 155 [.ref x, .int a0, .int a1, .ref o] M mc ms (fun w M2 => (w = 0 ∧ ∃ v M1, P v M1 ∧ M2 = zup M1 o (zaj g 1 (vp_updL f 0 (if v = 0 then 0 else 1)))) ∨ (w = 1 ∧ PX eIO M2)) := by
  refine zofw [some (.ref x), some (.int a0), some (.int a1), some (.ref o), none] (by decide +kernel) rfl rfl (Nat.le_of_ble_eq_true rfl) ?_
  intro X C hE
  have C : zC g X RL cL_wins 5 9 155 mc ms := C
  refine zaload_n C dL_wins_0 rfl ?_
  refine zconst (v := 0) C dL_wins_1 (by decide) ?_
  refine zaload_n C dL_wins_2 rfl ?_
  refine ziload_n C dL_wins_3 rfl ?_
  refine ziload_n C dL_wins_4 rfl ?_
  refine zcallVX C hM hy_X7_wins hv_X7_wins hl_L_86 hx rfl rfl rfl rfl (by decide) (by decide) (by omega) (by omega) rfl (by exact Nat.le_of_ble_eq_true rfl) dL_wins_5 (fun E M1 he => ?_) (fun v M hp => ?_)
  · have hEx := hX _ _ he
    subst hEx
    refine zcatch C hE [] (0, 17, 20, 19) [] rfl (fun z hz => absurd hz List.not_mem_nil) (by decide) (by decide) (by decide) hc_L_19 (fun q => ?_)
    refine zastore (L1 := [_, _, _, _, _]) C dL_wins_20 rfl (Nat.le_of_ble_eq_true rfl) ?_
    refine zconst (v := 1) C dL_wins_22 (by decide) ?_
    exact zend_w C hE dL_wins_23 (by omega) (by omega) (Or.inr (⟨rfl, he⟩))
  · refine zif_eq (tgt := 15) C dL_wins_8 (by decide) (fun h8 => ?_) (fun h8 => ?_)
    · refine zlconst (v := 0) C dL_wins_15 rfl ?_
      refine zrjast (i0 := 0) C (ho _ _ hp) rfl (by decide) (by decide) dL_wins_16 ?_
      refine zgoto (tgt := 24) C dL_wins_17 (by decide) ?_
      refine zconst (v := 0) C dL_wins_24 (by decide) ?_
      exact zend_w C hE dL_wins_25 (by omega) (by omega) (Or.inl ⟨rfl, _, _, hp, by simp only [h8, if_true, if_false]⟩)
    · refine zlconst (v := 1) C dL_wins_11 rfl ?_
      refine zgoto (tgt := 16) C dL_wins_12 (by decide) ?_
      refine zrjast (i0 := 0) C (ho _ _ hp) rfl (by decide) (by decide) dL_wins_16 ?_
      refine zgoto (tgt := 24) C dL_wins_17 (by decide) ?_
      refine zconst (v := 0) C dL_wins_24 (by decide) ?_
      exact zend_w C hE dL_wins_25 (by omega) (by omega) (Or.inl ⟨rfl, _, _, hp, by simp only [h8, if_true, if_false]⟩)
theorem hcw_ofPerson : Cond.codeWith yL_ofPerson cL_ofPerson 5 (some .int) [(0, 9, 12, 19), (0, 9, 16, 25)] ∈ GW ∧ Cond.static yL_ofPerson ∈ GW := ⟨zGWin (List.mem_of_getElem? (i := 935) (by decide +kernel)) (by decide +kernel), zGWin (List.mem_of_getElem? (i := 934) (by decide +kernel)) (by decide +kernel)⟩
set_option maxRecDepth 100000 in
set_option maxHeartbeats 1000000 in
theorem w_ofPerson {g : zGh} {M : zM} {x o mc ms : Nat} {f : Nat → Int64} {fs : List Value} {a0 a1 : Int32} {P : Int64 → zM → Prop} {PX : String → zM → Prop} (hM : zCt g yX7_ofPerson cX7_ofPerson 4 (some .long) 7 111 mkL [.ref x, .int a0, .int a1] M mc ms P PX) (hx : M x = some (zob 8 fs)) (ho : ∀ v M1, P v M1 → M1 o = some (zaj g 1 f)) (hX : ∀ E M1, PX E M1 → E = eIO ∨ E = eIA) : zCw g yL_ofPerson cL_ofPerson 5 [(0, 9, 12, 19), (0, 9, 16, 25)] 8 134 [.ref x, .int a0, .int a1, .ref o] M mc ms (fun w M2 => (w = 0 ∧ ∃ v M1, P v M1 ∧ M2 = zup M1 o (zaj g 1 (vp_updL f 0 v))) ∨ (w = 1 ∧ PX eIO M2) ∨ (w = 2 ∧ PX eIA M2)) := by
  refine zofw [some (.ref x), some (.int a0), some (.int a1), some (.ref o), none] (by decide +kernel) rfl rfl (Nat.le_of_ble_eq_true rfl) ?_
  intro X C hE
  have C : zC g X RL cL_ofPerson 5 8 134 mc ms := C
  refine zaload_n C dL_ofPerson_0 rfl ?_
  refine zconst (v := 0) C dL_ofPerson_1 (by decide) ?_
  refine zaload_n C dL_ofPerson_2 rfl ?_
  refine ziload_n C dL_ofPerson_3 rfl ?_
  refine ziload_n C dL_ofPerson_4 rfl ?_
  refine zcallVX C hM hy_X7_ofPerson hv_X7_ofPerson hl_L_90 hx rfl rfl rfl rfl (by decide) (by decide) (by omega) (by omega) rfl (by exact Nat.le_of_ble_eq_true rfl) dL_ofPerson_5 (fun E M1 he => ?_) (fun v M hp => ?_)
  · have hEx := hX _ _ he
    rcases hEx with rfl | rfl
    · refine zcatch C hE [] (0, 9, 12, 19) [(0, 9, 16, 25)] rfl (fun z hz => absurd hz List.not_mem_nil) (by decide) (by decide) (by decide) hc_L_19 (fun q => ?_)
      refine zastore (L1 := [_, _, _, _, _]) C dL_ofPerson_12 rfl (Nat.le_of_ble_eq_true rfl) ?_
      refine zconst (v := 1) C dL_ofPerson_14 (by decide) ?_
      exact zend_w C hE dL_ofPerson_15 (by omega) (by omega) (Or.inr (Or.inl ⟨rfl, he⟩))
    · refine zcatch C hE [(0, 9, 12, 19)] (0, 9, 16, 25) [] rfl (List.forall_mem_cons.mpr ⟨⟨by decide, eIO, by decide, by decide, hc_L_19⟩, fun z hz => absurd hz List.not_mem_nil⟩) (by decide) (by decide) (by decide) hc_L_25 (fun q => ?_)
      refine zastore (L1 := [_, _, _, _, _]) C dL_ofPerson_16 rfl (Nat.le_of_ble_eq_true rfl) ?_
      refine zconst (v := 2) C dL_ofPerson_18 (by decide) ?_
      exact zend_w C hE dL_ofPerson_19 (by omega) (by omega) (Or.inr (Or.inr (⟨rfl, he⟩)))
  · refine zrjast (i0 := 0) C (ho _ _ hp) rfl (by decide) (by decide) dL_ofPerson_8 ?_
    refine zgoto (tgt := 20) C dL_ofPerson_9 (by decide) ?_
    refine zconst (v := 0) C dL_ofPerson_20 (by decide) ?_
    exact zend_w C hE dL_ofPerson_21 (by omega) (by omega) (Or.inl ⟨rfl, _, _, hp, rfl⟩)
theorem hcw_ofMarriage : Cond.codeWith yL_ofMarriage cL_ofMarriage 5 (some .int) [(0, 10, 13, 19), (0, 10, 17, 25)] ∈ GW ∧ Cond.static yL_ofMarriage ∈ GW := ⟨zGWin (List.mem_of_getElem? (i := 951) (by decide +kernel)) (by decide +kernel), zGWin (List.mem_of_getElem? (i := 950) (by decide +kernel)) (by decide +kernel)⟩
set_option maxRecDepth 100000 in
set_option maxHeartbeats 1000000 in
theorem w_ofMarriage {g : zGh} {M : zM} {x o mc ms : Nat} {f : Nat → Int64} {fs : List Value} {a0 a1 : Int32} {P : Int32 → zM → Prop} {PX : String → zM → Prop} (hM : zCt g yX7_ofMarriage cX7_ofMarriage 4 (some .int) 7 111 mkI [.ref x, .int a0, .int a1] M mc ms P PX) (hx : M x = some (zob 8 fs)) (ho : ∀ v M1, P v M1 → M1 o = some (zaj g 1 f)) (hX : ∀ E M1, PX E M1 → E = eIO ∨ E = eIA) : zCw g yL_ofMarriage cL_ofMarriage 5 [(0, 10, 13, 19), (0, 10, 17, 25)] 8 134 [.ref x, .int a0, .int a1, .ref o] M mc ms (fun w M2 => (w = 0 ∧ ∃ v M1, P v M1 ∧ M2 = zup M1 o (zaj g 1 (vp_updL f 0 v.toInt64))) ∨ (w = 1 ∧ PX eIO M2) ∨ (w = 2 ∧ PX eIA M2)) := by
  refine zofw [some (.ref x), some (.int a0), some (.int a1), some (.ref o), none] (by decide +kernel) rfl rfl (Nat.le_of_ble_eq_true rfl) ?_
  intro X C hE
  have C : zC g X RL cL_ofMarriage 5 8 134 mc ms := C
  refine zaload_n C dL_ofMarriage_0 rfl ?_
  refine zconst (v := 0) C dL_ofMarriage_1 (by decide) ?_
  refine zaload_n C dL_ofMarriage_2 rfl ?_
  refine ziload_n C dL_ofMarriage_3 rfl ?_
  refine ziload_n C dL_ofMarriage_4 rfl ?_
  refine zcallVX C hM hy_X7_ofMarriage hv_X7_ofMarriage hl_L_93 hx rfl rfl rfl rfl (by decide) (by decide) (by omega) (by omega) rfl (by exact Nat.le_of_ble_eq_true rfl) dL_ofMarriage_5 (fun E M1 he => ?_) (fun v M hp => ?_)
  · have hEx := hX _ _ he
    rcases hEx with rfl | rfl
    · refine zcatch C hE [] (0, 10, 13, 19) [(0, 10, 17, 25)] rfl (fun z hz => absurd hz List.not_mem_nil) (by decide) (by decide) (by decide) hc_L_19 (fun q => ?_)
      refine zastore (L1 := [_, _, _, _, _]) C dL_ofMarriage_13 rfl (Nat.le_of_ble_eq_true rfl) ?_
      refine zconst (v := 1) C dL_ofMarriage_15 (by decide) ?_
      exact zend_w C hE dL_ofMarriage_16 (by omega) (by omega) (Or.inr (Or.inl ⟨rfl, he⟩))
    · refine zcatch C hE [(0, 10, 13, 19)] (0, 10, 17, 25) [] rfl (List.forall_mem_cons.mpr ⟨⟨by decide, eIO, by decide, by decide, hc_L_19⟩, fun z hz => absurd hz List.not_mem_nil⟩) (by decide) (by decide) (by decide) hc_L_25 (fun q => ?_)
      refine zastore (L1 := [_, _, _, _, _]) C dL_ofMarriage_17 rfl (Nat.le_of_ble_eq_true rfl) ?_
      refine zconst (v := 2) C dL_ofMarriage_19 (by decide) ?_
      exact zend_w C hE dL_ofMarriage_20 (by omega) (by omega) (Or.inr (Or.inr (⟨rfl, he⟩)))
  · refine zi2l C dL_ofMarriage_8 ?_
    refine zrjast (i0 := 0) C (ho _ _ hp) rfl (by decide) (by decide) dL_ofMarriage_9 ?_
    refine zgoto (tgt := 21) C dL_ofMarriage_10 (by decide) ?_
    refine zconst (v := 0) C dL_ofMarriage_21 (by decide) ?_
    exact zend_w C hE dL_ofMarriage_22 (by omega) (by omega) (Or.inl ⟨rfl, _, _, hp, rfl⟩)
theorem hcw_ofSuit : Cond.codeWith yL_ofSuit cL_ofSuit 5 (some .int) [(0, 10, 13, 19), (0, 10, 17, 25)] ∈ GW ∧ Cond.static yL_ofSuit ∈ GW := ⟨zGWin (List.mem_of_getElem? (i := 958) (by decide +kernel)) (by decide +kernel), zGWin (List.mem_of_getElem? (i := 957) (by decide +kernel)) (by decide +kernel)⟩
set_option maxRecDepth 100000 in
set_option maxHeartbeats 1000000 in
theorem w_ofSuit {g : zGh} {M : zM} {x o mc ms : Nat} {f : Nat → Int64} {fs : List Value} {a0 a1 : Int32} {P : Int32 → zM → Prop} {PX : String → zM → Prop} (hM : zCt g yX7_ofSuit cX7_ofSuit 4 (some .int) 7 111 mkI [.ref x, .int a0, .int a1] M mc ms P PX) (hx : M x = some (zob 8 fs)) (ho : ∀ v M1, P v M1 → M1 o = some (zaj g 1 f)) (hX : ∀ E M1, PX E M1 → E = eIO ∨ E = eIA) : zCw g yL_ofSuit cL_ofSuit 5 [(0, 10, 13, 19), (0, 10, 17, 25)] 8 134 [.ref x, .int a0, .int a1, .ref o] M mc ms (fun w M2 => (w = 0 ∧ ∃ v M1, P v M1 ∧ M2 = zup M1 o (zaj g 1 (vp_updL f 0 v.toInt64))) ∨ (w = 1 ∧ PX eIO M2) ∨ (w = 2 ∧ PX eIA M2)) := by
  refine zofw [some (.ref x), some (.int a0), some (.int a1), some (.ref o), none] (by decide +kernel) rfl rfl (Nat.le_of_ble_eq_true rfl) ?_
  intro X C hE
  have C : zC g X RL cL_ofSuit 5 8 134 mc ms := C
  refine zaload_n C dL_ofSuit_0 rfl ?_
  refine zconst (v := 0) C dL_ofSuit_1 (by decide) ?_
  refine zaload_n C dL_ofSuit_2 rfl ?_
  refine ziload_n C dL_ofSuit_3 rfl ?_
  refine ziload_n C dL_ofSuit_4 rfl ?_
  refine zcallVX C hM hy_X7_ofSuit hv_X7_ofSuit hl_L_96 hx rfl rfl rfl rfl (by decide) (by decide) (by omega) (by omega) rfl (by exact Nat.le_of_ble_eq_true rfl) dL_ofSuit_5 (fun E M1 he => ?_) (fun v M hp => ?_)
  · have hEx := hX _ _ he
    rcases hEx with rfl | rfl
    · refine zcatch C hE [] (0, 10, 13, 19) [(0, 10, 17, 25)] rfl (fun z hz => absurd hz List.not_mem_nil) (by decide) (by decide) (by decide) hc_L_19 (fun q => ?_)
      refine zastore (L1 := [_, _, _, _, _]) C dL_ofSuit_13 rfl (Nat.le_of_ble_eq_true rfl) ?_
      refine zconst (v := 1) C dL_ofSuit_15 (by decide) ?_
      exact zend_w C hE dL_ofSuit_16 (by omega) (by omega) (Or.inr (Or.inl ⟨rfl, he⟩))
    · refine zcatch C hE [(0, 10, 13, 19)] (0, 10, 17, 25) [] rfl (List.forall_mem_cons.mpr ⟨⟨by decide, eIO, by decide, by decide, hc_L_19⟩, fun z hz => absurd hz List.not_mem_nil⟩) (by decide) (by decide) (by decide) hc_L_25 (fun q => ?_)
      refine zastore (L1 := [_, _, _, _, _]) C dL_ofSuit_17 rfl (Nat.le_of_ble_eq_true rfl) ?_
      refine zconst (v := 2) C dL_ofSuit_19 (by decide) ?_
      exact zend_w C hE dL_ofSuit_20 (by omega) (by omega) (Or.inr (Or.inr (⟨rfl, he⟩)))
  · refine zi2l C dL_ofSuit_8 ?_
    refine zrjast (i0 := 0) C (ho _ _ hp) rfl (by decide) (by decide) dL_ofSuit_9 ?_
    refine zgoto (tgt := 21) C dL_ofSuit_10 (by decide) ?_
    refine zconst (v := 0) C dL_ofSuit_21 (by decide) ?_
    exact zend_w C hE dL_ofSuit_22 (by omega) (by omega) (Or.inl ⟨rfl, _, _, hp, rfl⟩)
theorem hcw_pass : Cond.codeWith yL_pass cL_pass 4 (some .int) [(0, 9, 12, 25), (0, 9, 15, 13)] ∈ GW ∧ Cond.static yL_pass ∈ GW := ⟨zGWin (List.mem_of_getElem? (i := 965) (by decide +kernel)) (by decide +kernel), zGWin (List.mem_of_getElem? (i := 964) (by decide +kernel)) (by decide +kernel)⟩
set_option maxRecDepth 100000 in
set_option maxHeartbeats 1000000 in
theorem w_pass {g : zGh} {M : zM} {x o mc ms : Nat} {f : Nat → Int64} {fs : List Value} {a0 : Int32} {P : Int32 → zM → Prop} {PX : String → zM → Prop} (hM : zCt g yX7_pass cX7_pass 3 (some .int) 7 153 mkI [.ref x, .int a0] M mc ms P PX) (hx : M x = some (zob 8 fs)) (ho : ∀ v M1, P v M1 → M1 o = some (zaj g 1 f)) (hX : ∀ E M1, PX E M1 → E = eIA ∨ E = eIS) : zCw g yL_pass cL_pass 4 [(0, 9, 12, 25), (0, 9, 15, 13)] 8 175 [.ref x, .int a0, .ref o] M mc ms (fun w M2 => (w = 0 ∧ ∃ v M1, P v M1 ∧ M2 = zup M1 o (zaj g 1 (vp_updL f 0 v.toInt64))) ∨ (w = 1 ∧ PX eIA M2) ∨ (w = 2 ∧ PX eIS M2)) := by
  refine zofw [some (.ref x), some (.int a0), some (.ref o), none] (by decide +kernel) rfl rfl (Nat.le_of_ble_eq_true rfl) ?_
  intro X C hE
  have C : zC g X RL cL_pass 4 8 175 mc ms := C
  refine zaload_n C dL_pass_0 rfl ?_
  refine zconst (v := 0) C dL_pass_1 (by decide) ?_
  refine zaload_n C dL_pass_2 rfl ?_
  refine ziload_n C dL_pass_3 rfl ?_
  refine zcallVX C hM hy_X7_pass hv_X7_pass hl_L_99 hx rfl rfl rfl rfl (by decide) (by decide) (by omega) (by omega) rfl (by exact Nat.le_of_ble_eq_true rfl) dL_pass_4 (fun E M1 he => ?_) (fun v M hp => ?_)
  · have hEx := hX _ _ he
    rcases hEx with rfl | rfl
    · refine zcatch C hE [] (0, 9, 12, 25) [(0, 9, 15, 13)] rfl (fun z hz => absurd hz List.not_mem_nil) (by decide) (by decide) (by decide) hc_L_25 (fun q => ?_)
      refine zastore_n (L1 := [_, _, _, _]) C dL_pass_12 rfl (Nat.le_of_ble_eq_true rfl) ?_
      refine zconst (v := 1) C dL_pass_13 (by decide) ?_
      exact zend_w C hE dL_pass_14 (by omega) (by omega) (Or.inr (Or.inl ⟨rfl, he⟩))
    · refine zcatch C hE [(0, 9, 12, 25)] (0, 9, 15, 13) [] rfl (List.forall_mem_cons.mpr ⟨⟨by decide, eIA, by decide, by decide, hc_L_25⟩, fun z hz => absurd hz List.not_mem_nil⟩) (by decide) (by decide) (by decide) hc_L_13 (fun q => ?_)
      refine zastore_n (L1 := [_, _, _, _]) C dL_pass_15 rfl (Nat.le_of_ble_eq_true rfl) ?_
      refine zconst (v := 2) C dL_pass_16 (by decide) ?_
      exact zend_w C hE dL_pass_17 (by omega) (by omega) (Or.inr (Or.inr (⟨rfl, he⟩)))
  · refine zi2l C dL_pass_7 ?_
    refine zrjast (i0 := 0) C (ho _ _ hp) rfl (by decide) (by decide) dL_pass_8 ?_
    refine zgoto (tgt := 18) C dL_pass_9 (by decide) ?_
    refine zconst (v := 0) C dL_pass_18 (by decide) ?_
    exact zend_w C hE dL_pass_19 (by omega) (by omega) (Or.inl ⟨rfl, _, _, hp, rfl⟩)
