theorem zGWall {ws : List Cond} (ps : List Nat) (hp : ws = ps.filterMap (fun i => lw_tbl[i]?)) (h : ws.all goodWord = true) : ∀ w ∈ ws, w ∈ GW := by
  intro w hw
  have h1 := List.all_eq_true.mp h w hw
  rw [hp] at hw
  obtain ⟨i, -, hi⟩ := List.mem_filterMap.mp hw
  exact zGWin (List.mem_of_getElem? hi) h1
theorem hu_Jx4a65c : ∀ w ∈ u_ws RJx4a65c TJx4a65c 3, w ∈ GW := zGWall [115, 111, 113] (by decide +kernel) (by decide +kernel)
theorem hp_Jx4a65c : zFp RJx4a65c TJx4a65c 3 tyJx4a65c := ⟨tyJx4a65c_ok, nmJx4a65c⟩
theorem hu_X0 : ∀ w ∈ u_ws RX0 TX0 3, w ∈ GW := zGWall [79, 81, 83] (by decide +kernel) (by decide +kernel)
theorem hp_X0 : zFp RX0 TX0 3 tyX0 := ⟨tyX0_ok, nmX0⟩
theorem hu_X1 : ∀ w ∈ u_ws RX1 TX1 2, w ∈ GW := zGWall [242, 244] (by decide +kernel) (by decide +kernel)
theorem hp_X1 : zFp RX1 TX1 2 tyX1 := ⟨tyX1_ok, nmX1⟩
theorem hu_X2 : ∀ w ∈ u_ws RX2 TX2 1, w ∈ GW := zGWall [89] (by decide +kernel) (by decide +kernel)
theorem hp_X2 : zFp RX2 TX2 1 tyX2 := ⟨tyX2_ok, nmX2⟩
theorem hu_X3 : ∀ w ∈ u_ws RX3 TX3 7, w ∈ GW := zGWall [643, 645, 647, 649, 651, 653, 655] (by decide +kernel) (by decide +kernel)
theorem hp_X3 : zFp RX3 TX3 7 tyX3 := ⟨tyX3_ok, nmX3⟩
theorem hu_X4 : ∀ w ∈ u_ws RX4 TX4 11, w ∈ GW := zGWall [412, 414, 416, 418, 420, 422, 424, 426, 428, 430, 432] (by decide +kernel) (by decide +kernel)
theorem hp_X4 : zFp RX4 TX4 11 tyX4 := ⟨tyX4_ok, nmX4⟩
theorem hu_X5 : ∀ w ∈ u_ws RX5 TX5 10, w ∈ GW := zGWall [769, 771, 773, 775, 777, 779, 781, 783, 785, 787] (by decide +kernel) (by decide +kernel)
theorem hp_X5 : zFp RX5 TX5 10 tyX5 := ⟨tyX5_ok, nmX5⟩
theorem hu_X6 : ∀ w ∈ u_ws RX6 TX6 2, w ∈ GW := zGWall [835, 837] (by decide +kernel) (by decide +kernel)
theorem hp_X6 : zFp RX6 TX6 2 tyX6 := ⟨tyX6_ok, nmX6⟩
theorem hu_X7 : ∀ w ∈ u_ws RX7 TX7 10, w ∈ GW := zGWall [131, 133, 135, 137, 139, 141, 143, 145, 147, 149] (by decide +kernel) (by decide +kernel)
theorem hp_X7 : zFp RX7 TX7 10 tyX7 := ⟨tyX7_ok, nmX7⟩
theorem hf_X0_7 : zF RX0 7 1 0 RX0 TX0 3 "Milletcourt$Chronicle" := ⟨rfl, by decide, zGWin (List.mem_of_getElem? (i := 76) (by decide +kernel)) (by decide +kernel), hu_X0, Or.inl rfl⟩
theorem hf_X0_13 : zF RX0 13 1 1 RX0 TX0 3 "Milletcourt$Chronicle" := ⟨rfl, by decide, zGWin (List.mem_of_getElem? (i := 77) (by decide +kernel)) (by decide +kernel), hu_X0, Or.inl rfl⟩
theorem hf_X0_16 : zF RX0 16 1 2 RX0 TX0 3 "Milletcourt$Chronicle" := ⟨rfl, by decide, zGWin (List.mem_of_getElem? (i := 78) (by decide +kernel)) (by decide +kernel), hu_X0, Or.inl rfl⟩
theorem hf_X2_17 : zF RX2 17 3 0 RX2 TX2 1 "Milletcourt$Law" := ⟨rfl, by decide, zGWin (List.mem_of_getElem? (i := 87) (by decide +kernel)) (by decide +kernel), hu_X2, Or.inl rfl⟩
theorem hf_X7_118 : zF RX7 118 3 0 RX2 TX2 1 "Milletcourt$Law" := ⟨rfl, by decide, zGWin (List.mem_of_getElem? (i := 88) (by decide +kernel)) (by decide +kernel), hu_X2, Or.inl rfl⟩
theorem hs_Jx4a65c_39 : Cond.fieldLink RJx4a65c 39 "java/util/ArrayList" "DEFAULTCAPACITY_EMPTY_ELEMENTDATA" "[Ljava/lang/Object;" ∈ GW := zGWin (List.mem_of_getElem? (i := 104) (by decide +kernel)) (by decide +kernel)
theorem hf_Jx4a65c_9 : zF RJx4a65c 9 0 1 RJx4a65c TJx4a65c 3 "java/util/ArrayList" := ⟨rfl, by decide, zGWin (List.mem_of_getElem? (i := 106) (by decide +kernel)) (by decide +kernel), hu_Jx4a65c, Or.inl rfl⟩
theorem hf_Jx4a65c_48 : zF RJx4a65c 48 0 2 RJx4a65c TJx4a65c 3 "java/util/ArrayList" := ⟨rfl, by decide, zGWin (List.mem_of_getElem? (i := 107) (by decide +kernel)) (by decide +kernel), hu_Jx4a65c, Or.inl rfl⟩
theorem hs_Jxc12de_7 : Cond.fieldLink RJxc12de 7 "java/util/AbstractList" "modCount" "I" ∈ GW := zGWin (List.mem_of_getElem? (i := 108) (by decide +kernel)) (by decide +kernel)
theorem hf_Jx4a65c_63 : zF RJx4a65c 63 0 0 RJx4a65c TJx4a65c 3 "java/util/ArrayList" := ⟨rfl, by decide, zGWin (List.mem_of_getElem? (i := 109) (by decide +kernel)) (by decide +kernel), hu_Jx4a65c, Or.inr (zGWin (List.mem_of_getElem? (i := 110) (by decide +kernel)) (by decide +kernel))⟩
theorem hs_X7_23 : Cond.fieldLink RX7 23 "Milletcourt" "RULES_AT_FIRST" "[I" ∈ GW := zGWin (List.mem_of_getElem? (i := 118) (by decide +kernel)) (by decide +kernel)
theorem hf_X7_10 : zF RX7 10 8 0 RX7 TX7 10 "Milletcourt" := ⟨rfl, by decide, zGWin (List.mem_of_getElem? (i := 121) (by decide +kernel)) (by decide +kernel), hu_X7, Or.inl rfl⟩
theorem hf_X7_19 : zF RX7 19 8 1 RX7 TX7 10 "Milletcourt" := ⟨rfl, by decide, zGWin (List.mem_of_getElem? (i := 122) (by decide +kernel)) (by decide +kernel), hu_X7, Or.inl rfl⟩
theorem hf_X7_31 : zF RX7 31 8 2 RX7 TX7 10 "Milletcourt" := ⟨rfl, by decide, zGWin (List.mem_of_getElem? (i := 123) (by decide +kernel)) (by decide +kernel), hu_X7, Or.inl rfl⟩
theorem hf_X7_35 : zF RX7 35 8 3 RX7 TX7 10 "Milletcourt" := ⟨rfl, by decide, zGWin (List.mem_of_getElem? (i := 124) (by decide +kernel)) (by decide +kernel), hu_X7, Or.inl rfl⟩
theorem hf_X7_38 : zF RX7 38 8 4 RX7 TX7 10 "Milletcourt" := ⟨rfl, by decide, zGWin (List.mem_of_getElem? (i := 125) (by decide +kernel)) (by decide +kernel), hu_X7, Or.inl rfl⟩
theorem hf_X7_41 : zF RX7 41 8 5 RX7 TX7 10 "Milletcourt" := ⟨rfl, by decide, zGWin (List.mem_of_getElem? (i := 126) (by decide +kernel)) (by decide +kernel), hu_X7, Or.inl rfl⟩
theorem hf_X7_44 : zF RX7 44 8 6 RX7 TX7 10 "Milletcourt" := ⟨rfl, by decide, zGWin (List.mem_of_getElem? (i := 127) (by decide +kernel)) (by decide +kernel), hu_X7, Or.inl rfl⟩
theorem hf_X7_48 : zF RX7 48 8 7 RX7 TX7 10 "Milletcourt" := ⟨rfl, by decide, zGWin (List.mem_of_getElem? (i := 128) (by decide +kernel)) (by decide +kernel), hu_X7, Or.inl rfl⟩
theorem hf_X7_51 : zF RX7 51 8 8 RX7 TX7 10 "Milletcourt" := ⟨rfl, by decide, zGWin (List.mem_of_getElem? (i := 129) (by decide +kernel)) (by decide +kernel), hu_X7, Or.inl rfl⟩
theorem hf_X7_54 : zF RX7 54 8 9 RX7 TX7 10 "Milletcourt" := ⟨rfl, by decide, zGWin (List.mem_of_getElem? (i := 130) (by decide +kernel)) (by decide +kernel), hu_X7, Or.inl rfl⟩
theorem hf_X1_10 : zF RX1 10 2 0 RX1 TX1 2 "Milletcourt$Community" := ⟨rfl, by decide, zGWin (List.mem_of_getElem? (i := 238) (by decide +kernel)) (by decide +kernel), hu_X1, Or.inl rfl⟩
theorem hf_X7_400 : zF RX7 400 2 0 RX1 TX1 2 "Milletcourt$Community" := ⟨rfl, by decide, zGWin (List.mem_of_getElem? (i := 239) (by decide +kernel)) (by decide +kernel), hu_X1, Or.inl rfl⟩
theorem hf_X1_21 : zF RX1 21 2 1 RX1 TX1 2 "Milletcourt$Community" := ⟨rfl, by decide, zGWin (List.mem_of_getElem? (i := 240) (by decide +kernel)) (by decide +kernel), hu_X1, Or.inl rfl⟩
theorem hf_X7_82 : zF RX7 82 2 1 RX1 TX1 2 "Milletcourt$Community" := ⟨rfl, by decide, zGWin (List.mem_of_getElem? (i := 241) (by decide +kernel)) (by decide +kernel), hu_X1, Or.inl rfl⟩
theorem hf_X4_29 : zF RX4 29 5 0 RX4 TX4 11 "Milletcourt$Person" := ⟨rfl, by decide, zGWin (List.mem_of_getElem? (i := 391) (by decide +kernel)) (by decide +kernel), hu_X4, Or.inl rfl⟩
theorem hf_X7_379 : zF RX7 379 5 0 RX4 TX4 11 "Milletcourt$Person" := ⟨rfl, by decide, zGWin (List.mem_of_getElem? (i := 392) (by decide +kernel)) (by decide +kernel), hu_X4, Or.inl rfl⟩
theorem hf_X4_32 : zF RX4 32 5 1 RX4 TX4 11 "Milletcourt$Person" := ⟨rfl, by decide, zGWin (List.mem_of_getElem? (i := 393) (by decide +kernel)) (by decide +kernel), hu_X4, Or.inl rfl⟩
theorem hf_X7_144 : zF RX7 144 5 1 RX4 TX4 11 "Milletcourt$Person" := ⟨rfl, by decide, zGWin (List.mem_of_getElem? (i := 394) (by decide +kernel)) (by decide +kernel), hu_X4, Or.inl rfl⟩
theorem hf_X4_35 : zF RX4 35 5 2 RX4 TX4 11 "Milletcourt$Person" := ⟨rfl, by decide, zGWin (List.mem_of_getElem? (i := 395) (by decide +kernel)) (by decide +kernel), hu_X4, Or.inl rfl⟩
theorem hf_X4_39 : zF RX4 39 5 3 RX4 TX4 11 "Milletcourt$Person" := ⟨rfl, by decide, zGWin (List.mem_of_getElem? (i := 396) (by decide +kernel)) (by decide +kernel), hu_X4, Or.inl rfl⟩
theorem hf_X4_42 : zF RX4 42 5 4 RX4 TX4 11 "Milletcourt$Person" := ⟨rfl, by decide, zGWin (List.mem_of_getElem? (i := 397) (by decide +kernel)) (by decide +kernel), hu_X4, Or.inl rfl⟩
theorem hf_X7_127 : zF RX7 127 5 4 RX4 TX4 11 "Milletcourt$Person" := ⟨rfl, by decide, zGWin (List.mem_of_getElem? (i := 398) (by decide +kernel)) (by decide +kernel), hu_X4, Or.inl rfl⟩
theorem hf_X4_50 : zF RX4 50 5 5 RX4 TX4 11 "Milletcourt$Person" := ⟨rfl, by decide, zGWin (List.mem_of_getElem? (i := 399) (by decide +kernel)) (by decide +kernel), hu_X4, Or.inl rfl⟩
theorem hf_X7_198 : zF RX7 198 5 5 RX4 TX4 11 "Milletcourt$Person" := ⟨rfl, by decide, zGWin (List.mem_of_getElem? (i := 400) (by decide +kernel)) (by decide +kernel), hu_X4, Or.inl rfl⟩
theorem hf_X4_9 : zF RX4 9 5 6 RX4 TX4 11 "Milletcourt$Person" := ⟨rfl, by decide, zGWin (List.mem_of_getElem? (i := 401) (by decide +kernel)) (by decide +kernel), hu_X4, Or.inl rfl⟩
theorem hf_X5_48 : zF RX5 48 5 6 RX4 TX4 11 "Milletcourt$Person" := ⟨rfl, by decide, zGWin (List.mem_of_getElem? (i := 402) (by decide +kernel)) (by decide +kernel), hu_X4, Or.inl rfl⟩
theorem hf_X7_251 : zF RX7 251 5 6 RX4 TX4 11 "Milletcourt$Person" := ⟨rfl, by decide, zGWin (List.mem_of_getElem? (i := 403) (by decide +kernel)) (by decide +kernel), hu_X4, Or.inl rfl⟩
theorem hf_X4_15 : zF RX4 15 5 7 RX4 TX4 11 "Milletcourt$Person" := ⟨rfl, by decide, zGWin (List.mem_of_getElem? (i := 404) (by decide +kernel)) (by decide +kernel), hu_X4, Or.inl rfl⟩
theorem hf_X7_256 : zF RX7 256 5 7 RX4 TX4 11 "Milletcourt$Person" := ⟨rfl, by decide, zGWin (List.mem_of_getElem? (i := 405) (by decide +kernel)) (by decide +kernel), hu_X4, Or.inl rfl⟩
theorem hf_X4_19 : zF RX4 19 5 8 RX4 TX4 11 "Milletcourt$Person" := ⟨rfl, by decide, zGWin (List.mem_of_getElem? (i := 406) (by decide +kernel)) (by decide +kernel), hu_X4, Or.inl rfl⟩
theorem hf_X7_187 : zF RX7 187 5 8 RX4 TX4 11 "Milletcourt$Person" := ⟨rfl, by decide, zGWin (List.mem_of_getElem? (i := 407) (by decide +kernel)) (by decide +kernel), hu_X4, Or.inl rfl⟩
theorem hf_X4_23 : zF RX4 23 5 9 RX4 TX4 11 "Milletcourt$Person" := ⟨rfl, by decide, zGWin (List.mem_of_getElem? (i := 408) (by decide +kernel)) (by decide +kernel), hu_X4, Or.inl rfl⟩
theorem hf_X7_190 : zF RX7 190 5 9 RX4 TX4 11 "Milletcourt$Person" := ⟨rfl, by decide, zGWin (List.mem_of_getElem? (i := 409) (by decide +kernel)) (by decide +kernel), hu_X4, Or.inl rfl⟩
theorem hf_X4_26 : zF RX4 26 5 10 RX4 TX4 11 "Milletcourt$Person" := ⟨rfl, by decide, zGWin (List.mem_of_getElem? (i := 410) (by decide +kernel)) (by decide +kernel), hu_X4, Or.inl rfl⟩
theorem hf_X7_433 : zF RX7 433 5 10 RX4 TX4 11 "Milletcourt$Person" := ⟨rfl, by decide, zGWin (List.mem_of_getElem? (i := 411) (by decide +kernel)) (by decide +kernel), hu_X4, Or.inl rfl⟩
theorem hs_X7_99 : Cond.fieldLink RX7 99 "Milletcourt" "LAWS_AT_FIRST" "[I" ∈ GW := zGWin (List.mem_of_getElem? (i := 537) (by decide +kernel)) (by decide +kernel)
theorem hs_X7_106 : Cond.fieldLink RX7 106 "Milletcourt" "LAWS_LOWEST" "[I" ∈ GW := zGWin (List.mem_of_getElem? (i := 538) (by decide +kernel)) (by decide +kernel)
theorem hs_X7_109 : Cond.fieldLink RX7 109 "Milletcourt" "LAWS_HIGHEST" "[I" ∈ GW := zGWin (List.mem_of_getElem? (i := 540) (by decide +kernel)) (by decide +kernel)
theorem hf_X3_22 : zF RX3 22 4 0 RX3 TX3 7 "Milletcourt$Marriage" := ⟨rfl, by decide, zGWin (List.mem_of_getElem? (i := 629) (by decide +kernel)) (by decide +kernel), hu_X3, Or.inl rfl⟩
theorem hf_X7_237 : zF RX7 237 4 0 RX3 TX3 7 "Milletcourt$Marriage" := ⟨rfl, by decide, zGWin (List.mem_of_getElem? (i := 630) (by decide +kernel)) (by decide +kernel), hu_X3, Or.inl rfl⟩
theorem hf_X3_26 : zF RX3 26 4 1 RX3 TX3 7 "Milletcourt$Marriage" := ⟨rfl, by decide, zGWin (List.mem_of_getElem? (i := 631) (by decide +kernel)) (by decide +kernel), hu_X3, Or.inl rfl⟩
theorem hf_X7_241 : zF RX7 241 4 1 RX3 TX3 7 "Milletcourt$Marriage" := ⟨rfl, by decide, zGWin (List.mem_of_getElem? (i := 632) (by decide +kernel)) (by decide +kernel), hu_X3, Or.inl rfl⟩
theorem hf_X3_32 : zF RX3 32 4 2 RX3 TX3 7 "Milletcourt$Marriage" := ⟨rfl, by decide, zGWin (List.mem_of_getElem? (i := 633) (by decide +kernel)) (by decide +kernel), hu_X3, Or.inl rfl⟩
theorem hf_X7_383 : zF RX7 383 4 2 RX3 TX3 7 "Milletcourt$Marriage" := ⟨rfl, by decide, zGWin (List.mem_of_getElem? (i := 634) (by decide +kernel)) (by decide +kernel), hu_X3, Or.inl rfl⟩
theorem hf_X3_9 : zF RX3 9 4 3 RX3 TX3 7 "Milletcourt$Marriage" := ⟨rfl, by decide, zGWin (List.mem_of_getElem? (i := 635) (by decide +kernel)) (by decide +kernel), hu_X3, Or.inl rfl⟩
theorem hf_X7_226 : zF RX7 226 4 3 RX3 TX3 7 "Milletcourt$Marriage" := ⟨rfl, by decide, zGWin (List.mem_of_getElem? (i := 636) (by decide +kernel)) (by decide +kernel), hu_X3, Or.inl rfl⟩
theorem hf_X3_29 : zF RX3 29 4 4 RX3 TX3 7 "Milletcourt$Marriage" := ⟨rfl, by decide, zGWin (List.mem_of_getElem? (i := 637) (by decide +kernel)) (by decide +kernel), hu_X3, Or.inl rfl⟩
theorem hf_X7_382 : zF RX7 382 4 4 RX3 TX3 7 "Milletcourt$Marriage" := ⟨rfl, by decide, zGWin (List.mem_of_getElem? (i := 638) (by decide +kernel)) (by decide +kernel), hu_X3, Or.inl rfl⟩
theorem hf_X3_15 : zF RX3 15 4 5 RX3 TX3 7 "Milletcourt$Marriage" := ⟨rfl, by decide, zGWin (List.mem_of_getElem? (i := 639) (by decide +kernel)) (by decide +kernel), hu_X3, Or.inl rfl⟩
theorem hf_X7_231 : zF RX7 231 4 5 RX3 TX3 7 "Milletcourt$Marriage" := ⟨rfl, by decide, zGWin (List.mem_of_getElem? (i := 640) (by decide +kernel)) (by decide +kernel), hu_X3, Or.inl rfl⟩
theorem hf_X3_19 : zF RX3 19 4 6 RX3 TX3 7 "Milletcourt$Marriage" := ⟨rfl, by decide, zGWin (List.mem_of_getElem? (i := 641) (by decide +kernel)) (by decide +kernel), hu_X3, Or.inl rfl⟩
theorem hf_X7_234 : zF RX7 234 4 6 RX3 TX3 7 "Milletcourt$Marriage" := ⟨rfl, by decide, zGWin (List.mem_of_getElem? (i := 642) (by decide +kernel)) (by decide +kernel), hu_X3, Or.inl rfl⟩
theorem hf_X5_35 : zF RX5 35 6 0 RX5 TX5 10 "Milletcourt$Suit" := ⟨rfl, by decide, zGWin (List.mem_of_getElem? (i := 749) (by decide +kernel)) (by decide +kernel), hu_X5, Or.inl rfl⟩
theorem hf_X7_360 : zF RX7 360 6 0 RX5 TX5 10 "Milletcourt$Suit" := ⟨rfl, by decide, zGWin (List.mem_of_getElem? (i := 750) (by decide +kernel)) (by decide +kernel), hu_X5, Or.inl rfl⟩
theorem hf_X5_39 : zF RX5 39 6 1 RX5 TX5 10 "Milletcourt$Suit" := ⟨rfl, by decide, zGWin (List.mem_of_getElem? (i := 751) (by decide +kernel)) (by decide +kernel), hu_X5, Or.inl rfl⟩
theorem hf_X7_299 : zF RX7 299 6 1 RX5 TX5 10 "Milletcourt$Suit" := ⟨rfl, by decide, zGWin (List.mem_of_getElem? (i := 752) (by decide +kernel)) (by decide +kernel), hu_X5, Or.inl rfl⟩
theorem hf_X5_42 : zF RX5 42 6 2 RX5 TX5 10 "Milletcourt$Suit" := ⟨rfl, by decide, zGWin (List.mem_of_getElem? (i := 753) (by decide +kernel)) (by decide +kernel), hu_X5, Or.inl rfl⟩
theorem hf_X7_323 : zF RX7 323 6 2 RX5 TX5 10 "Milletcourt$Suit" := ⟨rfl, by decide, zGWin (List.mem_of_getElem? (i := 754) (by decide +kernel)) (by decide +kernel), hu_X5, Or.inl rfl⟩
theorem hf_X5_45 : zF RX5 45 6 3 RX5 TX5 10 "Milletcourt$Suit" := ⟨rfl, by decide, zGWin (List.mem_of_getElem? (i := 755) (by decide +kernel)) (by decide +kernel), hu_X5, Or.inl rfl⟩
theorem hf_X7_334 : zF RX7 334 6 3 RX5 TX5 10 "Milletcourt$Suit" := ⟨rfl, by decide, zGWin (List.mem_of_getElem? (i := 756) (by decide +kernel)) (by decide +kernel), hu_X5, Or.inl rfl⟩
theorem hf_X5_12 : zF RX5 12 6 4 RX5 TX5 10 "Milletcourt$Suit" := ⟨rfl, by decide, zGWin (List.mem_of_getElem? (i := 757) (by decide +kernel)) (by decide +kernel), hu_X5, Or.inl rfl⟩
theorem hf_X7_313 : zF RX7 313 6 4 RX5 TX5 10 "Milletcourt$Suit" := ⟨rfl, by decide, zGWin (List.mem_of_getElem? (i := 758) (by decide +kernel)) (by decide +kernel), hu_X5, Or.inl rfl⟩
theorem hf_X5_18 : zF RX5 18 6 5 RX5 TX5 10 "Milletcourt$Suit" := ⟨rfl, by decide, zGWin (List.mem_of_getElem? (i := 759) (by decide +kernel)) (by decide +kernel), hu_X5, Or.inl rfl⟩
theorem hf_X7_287 : zF RX7 287 6 5 RX5 TX5 10 "Milletcourt$Suit" := ⟨rfl, by decide, zGWin (List.mem_of_getElem? (i := 760) (by decide +kernel)) (by decide +kernel), hu_X5, Or.inl rfl⟩
theorem hf_X5_22 : zF RX5 22 6 6 RX5 TX5 10 "Milletcourt$Suit" := ⟨rfl, by decide, zGWin (List.mem_of_getElem? (i := 761) (by decide +kernel)) (by decide +kernel), hu_X5, Or.inl rfl⟩
theorem hf_X7_288 : zF RX7 288 6 6 RX5 TX5 10 "Milletcourt$Suit" := ⟨rfl, by decide, zGWin (List.mem_of_getElem? (i := 762) (by decide +kernel)) (by decide +kernel), hu_X5, Or.inl rfl⟩
theorem hf_X5_26 : zF RX5 26 6 7 RX5 TX5 10 "Milletcourt$Suit" := ⟨rfl, by decide, zGWin (List.mem_of_getElem? (i := 763) (by decide +kernel)) (by decide +kernel), hu_X5, Or.inl rfl⟩
theorem hf_X7_337 : zF RX7 337 6 7 RX5 TX5 10 "Milletcourt$Suit" := ⟨rfl, by decide, zGWin (List.mem_of_getElem? (i := 764) (by decide +kernel)) (by decide +kernel), hu_X5, Or.inl rfl⟩
theorem hf_X5_29 : zF RX5 29 6 8 RX5 TX5 10 "Milletcourt$Suit" := ⟨rfl, by decide, zGWin (List.mem_of_getElem? (i := 765) (by decide +kernel)) (by decide +kernel), hu_X5, Or.inl rfl⟩
theorem hf_X7_345 : zF RX7 345 6 8 RX5 TX5 10 "Milletcourt$Suit" := ⟨rfl, by decide, zGWin (List.mem_of_getElem? (i := 766) (by decide +kernel)) (by decide +kernel), hu_X5, Or.inl rfl⟩
theorem hf_X5_32 : zF RX5 32 6 9 RX5 TX5 10 "Milletcourt$Suit" := ⟨rfl, by decide, zGWin (List.mem_of_getElem? (i := 767) (by decide +kernel)) (by decide +kernel), hu_X5, Or.inl rfl⟩
theorem hf_X7_342 : zF RX7 342 6 9 RX5 TX5 10 "Milletcourt$Suit" := ⟨rfl, by decide, zGWin (List.mem_of_getElem? (i := 768) (by decide +kernel)) (by decide +kernel), hu_X5, Or.inl rfl⟩
theorem hf_X6_7 : zF RX6 7 7 0 RX6 TX6 2 "Milletcourt$Witness" := ⟨rfl, by decide, zGWin (List.mem_of_getElem? (i := 830) (by decide +kernel)) (by decide +kernel), hu_X6, Or.inl rfl⟩
theorem hf_X5_63 : zF RX5 63 7 0 RX6 TX6 2 "Milletcourt$Witness" := ⟨rfl, by decide, zGWin (List.mem_of_getElem? (i := 831) (by decide +kernel)) (by decide +kernel), hu_X6, Or.inl rfl⟩
theorem hf_X7_469 : zF RX7 469 7 0 RX6 TX6 2 "Milletcourt$Witness" := ⟨rfl, by decide, zGWin (List.mem_of_getElem? (i := 832) (by decide +kernel)) (by decide +kernel), hu_X6, Or.inl rfl⟩
theorem hf_X6_13 : zF RX6 13 7 1 RX6 TX6 2 "Milletcourt$Witness" := ⟨rfl, by decide, zGWin (List.mem_of_getElem? (i := 833) (by decide +kernel)) (by decide +kernel), hu_X6, Or.inl rfl⟩
theorem hf_X7_472 : zF RX7 472 7 1 RX6 TX6 2 "Milletcourt$Witness" := ⟨rfl, by decide, zGWin (List.mem_of_getElem? (i := 834) (by decide +kernel)) (by decide +kernel), hu_X6, Or.inl rfl⟩
theorem hy_X7_init : zY yX7_init cX7_init 1 none 0 := ⟨zGWin (List.mem_of_getElem? (i := 54) (by decide +kernel)) (by decide +kernel), zGWin (List.mem_of_getElem? (i := 27) (by decide +kernel)) (by decide +kernel), ⟨by decide +kernel, by decide +kernel⟩, by decide +kernel⟩
theorem hi_X7_init : zYI yX7_init := ⟨zGWin (List.mem_of_getElem? (i := 53) (by decide +kernel)) (by decide +kernel), rfl⟩
theorem hy_X2_init : zY yX2_init cX2_init 1 none 0 := ⟨zGWin (List.mem_of_getElem? (i := 62) (by decide +kernel)) (by decide +kernel), zGWin (List.mem_of_getElem? (i := 28) (by decide +kernel)) (by decide +kernel), ⟨by decide +kernel, by decide +kernel⟩, by decide +kernel⟩
theorem hi_X2_init : zYI yX2_init := ⟨zGWin (List.mem_of_getElem? (i := 61) (by decide +kernel)) (by decide +kernel), rfl⟩
theorem hy_X7_chroniclesFrom : zY yX7_chroniclesFrom cX7_chroniclesFrom 3 (some (.array (.object "Milletcourt$Chronicle"))) 1 := ⟨zGWin (List.mem_of_getElem? (i := 68) (by decide +kernel)) (by decide +kernel), zGWin (List.mem_of_getElem? (i := 27) (by decide +kernel)) (by decide +kernel), ⟨by decide +kernel, by decide +kernel⟩, by decide +kernel⟩
theorem hst_X7_chroniclesFrom : zYS yX7_chroniclesFrom := zGWin (List.mem_of_getElem? (i := 67) (by decide +kernel)) (by decide +kernel)
theorem hy_X0_init : zY yX0_init cX0_init 3 none 2 := ⟨zGWin (List.mem_of_getElem? (i := 74) (by decide +kernel)) (by decide +kernel), zGWin (List.mem_of_getElem? (i := 29) (by decide +kernel)) (by decide +kernel), ⟨by decide +kernel, by decide +kernel⟩, by decide +kernel⟩
theorem hi_X0_init : zYI yX0_init := ⟨zGWin (List.mem_of_getElem? (i := 73) (by decide +kernel)) (by decide +kernel), rfl⟩
theorem hy_Jx4a65c_init_da8c8 : zY yJx4a65c_init_da8c8 cJx4a65c_init_da8c8 1 none 0 := ⟨zGWin (List.mem_of_getElem? (i := 96) (by decide +kernel)) (by decide +kernel), zGWin (List.mem_of_getElem? (i := 32) (by decide +kernel)) (by decide +kernel), ⟨by decide +kernel, by decide +kernel⟩, by decide +kernel⟩
theorem hi_Jx4a65c_init_da8c8 : zYI yJx4a65c_init_da8c8 := ⟨zGWin (List.mem_of_getElem? (i := 95) (by decide +kernel)) (by decide +kernel), rfl⟩
theorem hy_Jxc12de_init_da8c8 : zY yJxc12de_init_da8c8 cJxc12de_init_da8c8 1 none 0 := ⟨zGWin (List.mem_of_getElem? (i := 99) (by decide +kernel)) (by decide +kernel), zGWin (List.mem_of_getElem? (i := 31) (by decide +kernel)) (by decide +kernel), ⟨by decide +kernel, by decide +kernel⟩, by decide +kernel⟩
theorem hi_Jxc12de_init_da8c8 : zYI yJxc12de_init_da8c8 := ⟨zGWin (List.mem_of_getElem? (i := 98) (by decide +kernel)) (by decide +kernel), rfl⟩
theorem hy_Jxa1e45_init_da8c8 : zY yJxa1e45_init_da8c8 cJxa1e45_init_da8c8 1 none 0 := ⟨zGWin (List.mem_of_getElem? (i := 102) (by decide +kernel)) (by decide +kernel), zGWin (List.mem_of_getElem? (i := 30) (by decide +kernel)) (by decide +kernel), ⟨by decide +kernel, by decide +kernel⟩, by decide +kernel⟩
theorem hi_Jxa1e45_init_da8c8 : zYI yJxa1e45_init_da8c8 := ⟨zGWin (List.mem_of_getElem? (i := 101) (by decide +kernel)) (by decide +kernel), rfl⟩
theorem hy_X7_community : zY yX7_community cX7_community 1 (some .int) 0 := ⟨zGWin (List.mem_of_getElem? (i := 155) (by decide +kernel)) (by decide +kernel), zGWin (List.mem_of_getElem? (i := 27) (by decide +kernel)) (by decide +kernel), ⟨by decide +kernel, by decide +kernel⟩, by decide +kernel⟩
theorem hv_X7_community : zYV yX7_community := ⟨zGWin (List.mem_of_getElem? (i := 153) (by decide +kernel)) (by decide +kernel), zGWin (List.mem_of_getElem? (i := 154) (by decide +kernel)) (by decide +kernel)⟩
theorem hy_Jx4a65c_size_8abf5 : zY yJx4a65c_size_8abf5 cJx4a65c_size_8abf5 1 (some .int) 0 := ⟨zGWin (List.mem_of_getElem? (i := 159) (by decide +kernel)) (by decide +kernel), zGWin (List.mem_of_getElem? (i := 32) (by decide +kernel)) (by decide +kernel), ⟨by decide +kernel, by decide +kernel⟩, by decide +kernel⟩
theorem hv_Jx4a65c_size_8abf5 : zYV yJx4a65c_size_8abf5 := ⟨zGWin (List.mem_of_getElem? (i := 157) (by decide +kernel)) (by decide +kernel), zGWin (List.mem_of_getElem? (i := 158) (by decide +kernel)) (by decide +kernel)⟩
theorem hy_X1_init : zY yX1_init cX1_init 2 none 1 := ⟨zGWin (List.mem_of_getElem? (i := 232) (by decide +kernel)) (by decide +kernel), zGWin (List.mem_of_getElem? (i := 37) (by decide +kernel)) (by decide +kernel), ⟨by decide +kernel, by decide +kernel⟩, by decide +kernel⟩
theorem hi_X1_init : zYI yX1_init := ⟨zGWin (List.mem_of_getElem? (i := 231) (by decide +kernel)) (by decide +kernel), rfl⟩
theorem hy_Jx4a65c_add_9ea2d : zY yJx4a65c_add_9ea2d cJx4a65c_add_9ea2d 2 (some .boolean) 1 := ⟨zGWin (List.mem_of_getElem? (i := 250) (by decide +kernel)) (by decide +kernel), zGWin (List.mem_of_getElem? (i := 32) (by decide +kernel)) (by decide +kernel), ⟨by decide +kernel, by decide +kernel⟩, by decide +kernel⟩
theorem hv_Jx4a65c_add_9ea2d : zYV yJx4a65c_add_9ea2d := ⟨zGWin (List.mem_of_getElem? (i := 248) (by decide +kernel)) (by decide +kernel), zGWin (List.mem_of_getElem? (i := 249) (by decide +kernel)) (by decide +kernel)⟩
theorem hy_Jx4a65c_add_72be8 : zY yJx4a65c_add_72be8 cJx4a65c_add_72be8 4 none 3 := ⟨zGWin (List.mem_of_getElem? (i := 254) (by decide +kernel)) (by decide +kernel), zGWin (List.mem_of_getElem? (i := 32) (by decide +kernel)) (by decide +kernel), ⟨by decide +kernel, by decide +kernel⟩, by decide +kernel⟩
theorem hv_Jx4a65c_add_72be8 : zYV yJx4a65c_add_72be8 := ⟨zGWin (List.mem_of_getElem? (i := 253) (by decide +kernel)) (by decide +kernel), zGWin (List.mem_of_getElem? (i := 1) (by decide +kernel)) (by decide +kernel)⟩
theorem hy_Jx4a65c_grow_d5877 : zY yJx4a65c_grow_d5877 cJx4a65c_grow_d5877 1 (some (.array (.object "java/lang/Object"))) 0 := ⟨zGWin (List.mem_of_getElem? (i := 258) (by decide +kernel)) (by decide +kernel), zGWin (List.mem_of_getElem? (i := 32) (by decide +kernel)) (by decide +kernel), ⟨by decide +kernel, by decide +kernel⟩, by decide +kernel⟩
theorem hv_Jx4a65c_grow_d5877 : zYV yJx4a65c_grow_d5877 := ⟨zGWin (List.mem_of_getElem? (i := 257) (by decide +kernel)) (by decide +kernel), zGWin (List.mem_of_getElem? (i := 2) (by decide +kernel)) (by decide +kernel)⟩
theorem hy_Jx4a65c_grow_92f84 : zY yJx4a65c_grow_92f84 cJx4a65c_grow_92f84 4 (some (.array (.object "java/lang/Object"))) 1 := ⟨zGWin (List.mem_of_getElem? (i := 262) (by decide +kernel)) (by decide +kernel), zGWin (List.mem_of_getElem? (i := 32) (by decide +kernel)) (by decide +kernel), ⟨by decide +kernel, by decide +kernel⟩, by decide +kernel⟩
theorem hv_Jx4a65c_grow_92f84 : zYV yJx4a65c_grow_92f84 := ⟨zGWin (List.mem_of_getElem? (i := 261) (by decide +kernel)) (by decide +kernel), zGWin (List.mem_of_getElem? (i := 3) (by decide +kernel)) (by decide +kernel)⟩
theorem hy_J8_newLength_cabcc : zY yJ8_newLength_cabcc cJ8_newLength_cabcc 4 (some .int) 3 := ⟨zGWin (List.mem_of_getElem? (i := 265) (by decide +kernel)) (by decide +kernel), zGWin (List.mem_of_getElem? (i := 38) (by decide +kernel)) (by decide +kernel), ⟨by decide +kernel, by decide +kernel⟩, by decide +kernel⟩
theorem hst_J8_newLength_cabcc : zYS yJ8_newLength_cabcc := zGWin (List.mem_of_getElem? (i := 264) (by decide +kernel)) (by decide +kernel)
theorem hy_J9_max_7cf53 : zY yJ9_max_7cf53 cJ9_max_7cf53 2 (some .int) 2 := ⟨zGWin (List.mem_of_getElem? (i := 268) (by decide +kernel)) (by decide +kernel), zGWin (List.mem_of_getElem? (i := 39) (by decide +kernel)) (by decide +kernel), ⟨by decide +kernel, by decide +kernel⟩, by decide +kernel⟩
theorem hst_J9_max_7cf53 : zYS yJ9_max_7cf53 := zGWin (List.mem_of_getElem? (i := 267) (by decide +kernel)) (by decide +kernel)
theorem hy_J8_hugeLength_7cf53 : zY yJ8_hugeLength_7cf53 cJ8_hugeLength_7cf53 3 (some .int) 2 := ⟨zGWin (List.mem_of_getElem? (i := 272) (by decide +kernel)) (by decide +kernel), zGWin (List.mem_of_getElem? (i := 38) (by decide +kernel)) (by decide +kernel), ⟨by decide +kernel, by decide +kernel⟩, by decide +kernel⟩
theorem hst_J8_hugeLength_7cf53 : zYS yJ8_hugeLength_7cf53 := zGWin (List.mem_of_getElem? (i := 271) (by decide +kernel)) (by decide +kernel)
theorem hy_J7_copyOf_1904c : zY yJ7_copyOf_1904c cJ7_copyOf_1904c 2 (some (.array (.object "java/lang/Object"))) 2 := ⟨zGWin (List.mem_of_getElem? (i := 275) (by decide +kernel)) (by decide +kernel), zGWin (List.mem_of_getElem? (i := 40) (by decide +kernel)) (by decide +kernel), ⟨by decide +kernel, by decide +kernel⟩, by decide +kernel⟩
theorem hst_J7_copyOf_1904c : zYS yJ7_copyOf_1904c := zGWin (List.mem_of_getElem? (i := 274) (by decide +kernel)) (by decide +kernel)
theorem hy_J7_copyOf_6403c : zY yJ7_copyOf_6403c cJ7_copyOf_6403c 4 (some (.array (.object "java/lang/Object"))) 3 := ⟨zGWin (List.mem_of_getElem? (i := 294) (by decide +kernel)) (by decide +kernel), zGWin (List.mem_of_getElem? (i := 40) (by decide +kernel)) (by decide +kernel), ⟨by decide +kernel, by decide +kernel⟩, by decide +kernel⟩
theorem hst_J7_copyOf_6403c : zYS yJ7_copyOf_6403c := zGWin (List.mem_of_getElem? (i := 293) (by decide +kernel)) (by decide +kernel)
theorem hy_J9_min_7cf53 : zY yJ9_min_7cf53 cJ9_min_7cf53 2 (some .int) 2 := ⟨zGWin (List.mem_of_getElem? (i := 300) (by decide +kernel)) (by decide +kernel), zGWin (List.mem_of_getElem? (i := 39) (by decide +kernel)) (by decide +kernel), ⟨by decide +kernel, by decide +kernel⟩, by decide +kernel⟩
theorem hst_J9_min_7cf53 : zYS yJ9_min_7cf53 := zGWin (List.mem_of_getElem? (i := 299) (by decide +kernel)) (by decide +kernel)
theorem hy_X7_person : zY yX7_person cX7_person 10 (some .int) 4 := ⟨zGWin (List.mem_of_getElem? (i := 309) (by decide +kernel)) (by decide +kernel), zGWin (List.mem_of_getElem? (i := 27) (by decide +kernel)) (by decide +kernel), ⟨by decide +kernel, by decide +kernel⟩, by decide +kernel⟩
theorem hv_X7_person : zYV yX7_person := ⟨zGWin (List.mem_of_getElem? (i := 307) (by decide +kernel)) (by decide +kernel), zGWin (List.mem_of_getElem? (i := 308) (by decide +kernel)) (by decide +kernel)⟩
theorem hy_X7_personOrNullAt : zY yX7_personOrNullAt cX7_personOrNullAt 2 (some (.object "Milletcourt$Person")) 1 := ⟨zGWin (List.mem_of_getElem? (i := 313) (by decide +kernel)) (by decide +kernel), zGWin (List.mem_of_getElem? (i := 27) (by decide +kernel)) (by decide +kernel), ⟨by decide +kernel, by decide +kernel⟩, by decide +kernel⟩
