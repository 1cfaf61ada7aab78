theorem hl_X7_86 : Cond.methodLink RX7 86 yX0_newest ∈ GW := zGWin (List.mem_of_getElem? (i := 525) (by decide +kernel)) (by decide +kernel)
theorem hl_L_32 : Cond.methodLink RL 32 yL_bit ∈ GW := zGWin (List.mem_of_getElem? (i := 526) (by decide +kernel)) (by decide +kernel)
theorem hl_L_83 : Cond.methodLink RL 83 yX7_decree ∈ GW := zGWin (List.mem_of_getElem? (i := 529) (by decide +kernel)) (by decide +kernel)
theorem hl_X7_95 : Cond.methodLink RX7 95 yX7_lawAt ∈ GW := zGWin (List.mem_of_getElem? (i := 533) (by decide +kernel)) (by decide +kernel)
theorem hl_X7_114 : Cond.methodLink RX7 114 yX2_numberOn ∈ GW := zGWin (List.mem_of_getElem? (i := 543) (by decide +kernel)) (by decide +kernel)
theorem hl_X2_23 : Cond.methodLink RX2 23 yX0_numberOn ∈ GW := zGWin (List.mem_of_getElem? (i := 547) (by decide +kernel)) (by decide +kernel)
theorem hl_L_87 : Cond.methodLink RL 87 yX7_rule ∈ GW := zGWin (List.mem_of_getElem? (i := 551) (by decide +kernel)) (by decide +kernel)
theorem hl_L_90 : Cond.methodLink RL 90 yX7_law ∈ GW := zGWin (List.mem_of_getElem? (i := 556) (by decide +kernel)) (by decide +kernel)
theorem hl_L_93 : Cond.methodLink RL 93 yX7_court ∈ GW := zGWin (List.mem_of_getElem? (i := 560) (by decide +kernel)) (by decide +kernel)
theorem hl_X7_132 : Cond.methodLink RX7 132 yJ9_max_7cf53 ∈ GW := zGWin (List.mem_of_getElem? (i := 564) (by decide +kernel)) (by decide +kernel)
theorem hl_X7_137 : Cond.methodLink RX7 137 yX7_courtOf ∈ GW := zGWin (List.mem_of_getElem? (i := 565) (by decide +kernel)) (by decide +kernel)
theorem hl_X7_201 : Cond.methodLink RX7 201 yX0_numberOn ∈ GW := zGWin (List.mem_of_getElem? (i := 569) (by decide +kernel)) (by decide +kernel)
theorem hl_X7_413 : Cond.methodLink RX7 413 yX7_faithThatRules ∈ GW := zGWin (List.mem_of_getElem? (i := 570) (by decide +kernel)) (by decide +kernel)
theorem hl_L_100 : Cond.methodLink RL 100 yX7_turn ∈ GW := zGWin (List.mem_of_getElem? (i := 573) (by decide +kernel)) (by decide +kernel)
theorem hl_X7_168 : Cond.methodLink RX7 168 yX4_isGrownOn ∈ GW := zGWin (List.mem_of_getElem? (i := 578) (by decide +kernel)) (by decide +kernel)
theorem hl_X4_58 : Cond.methodLink RX4 58 yX4_isMinorOn ∈ GW := zGWin (List.mem_of_getElem? (i := 582) (by decide +kernel)) (by decide +kernel)
theorem hl_X7_175 : Cond.methodLink RX7 175 yX4_isTurning ∈ GW := zGWin (List.mem_of_getElem? (i := 583) (by decide +kernel)) (by decide +kernel)
theorem hl_X7_181 : Cond.methodLink RX7 181 yX7_canWitnessTurn ∈ GW := zGWin (List.mem_of_getElem? (i := 588) (by decide +kernel)) (by decide +kernel)
theorem hl_L_103 : Cond.methodLink RL 103 yX7_recant ∈ GW := zGWin (List.mem_of_getElem? (i := 593) (by decide +kernel)) (by decide +kernel)
theorem hl_L_106 : Cond.methodLink RL 106 yX7_faith ∈ GW := zGWin (List.mem_of_getElem? (i := 598) (by decide +kernel)) (by decide +kernel)
theorem hl_L_109 : Cond.methodLink RL 109 yX7_marry ∈ GW := zGWin (List.mem_of_getElem? (i := 602) (by decide +kernel)) (by decide +kernel)
theorem hk_X7_206 : Cond.constant RX7 206 (1000000 : Int32) ∈ GW := zGWin (List.mem_of_getElem? (i := 607) (by decide +kernel)) (by decide +kernel)
theorem hl_X7_209 : Cond.methodLink RX7 209 yX7_mayMarry ∈ GW := zGWin (List.mem_of_getElem? (i := 609) (by decide +kernel)) (by decide +kernel)
theorem hl_X7_367 : Cond.methodLink RX7 367 yX7_howManyLast ∈ GW := zGWin (List.mem_of_getElem? (i := 613) (by decide +kernel)) (by decide +kernel)
theorem hc_X7_217 : Cond.classLink RX7 217 "Milletcourt$Marriage" ∈ GW := zGWin (List.mem_of_getElem? (i := 617) (by decide +kernel)) (by decide +kernel)
theorem hl_X7_443 : Cond.methodLink RX7 443 yX3_lastsFor ∈ GW := zGWin (List.mem_of_getElem? (i := 618) (by decide +kernel)) (by decide +kernel)
theorem hl_X7_219 : Cond.methodLink RX7 219 yX3_init ∈ GW := zGWin (List.mem_of_getElem? (i := 625) (by decide +kernel)) (by decide +kernel)
theorem hl_X3_3 : Cond.methodLink RX3 3 objectInit ∈ GW := zGWin (List.mem_of_getElem? (i := 628) (by decide +kernel)) (by decide +kernel)
theorem hl_L_112 : Cond.methodLink RL 112 yX7_divorce ∈ GW := zGWin (List.mem_of_getElem? (i := 658) (by decide +kernel)) (by decide +kernel)
theorem hl_X7_222 : Cond.methodLink RX7 222 yX7_marriageAt ∈ GW := zGWin (List.mem_of_getElem? (i := 662) (by decide +kernel)) (by decide +kernel)
theorem hl_X7_244 : Cond.methodLink RX7 244 yX7_endsByAsking ∈ GW := zGWin (List.mem_of_getElem? (i := 668) (by decide +kernel)) (by decide +kernel)
theorem hl_X7_248 : Cond.methodLink RX7 248 yX3_payDower ∈ GW := zGWin (List.mem_of_getElem? (i := 671) (by decide +kernel)) (by decide +kernel)
theorem hl_X3_35 : Cond.methodLink RX3 35 yX4_payUpTo ∈ GW := zGWin (List.mem_of_getElem? (i := 675) (by decide +kernel)) (by decide +kernel)
theorem hl_X4_62 : Cond.methodLink RX4 62 yJ9_min_f86c9 ∈ GW := zGWin (List.mem_of_getElem? (i := 679) (by decide +kernel)) (by decide +kernel)
theorem hl_L_14 : Cond.methodLink RL 14 yX7_goods ∈ GW := zGWin (List.mem_of_getElem? (i := 682) (by decide +kernel)) (by decide +kernel)
theorem hl_L_20 : Cond.methodLink RL 20 yX7_dies ∈ GW := zGWin (List.mem_of_getElem? (i := 687) (by decide +kernel)) (by decide +kernel)
theorem hl_X7_259 : Cond.methodLink RX7 259 yX7_endMarriagesOf ∈ GW := zGWin (List.mem_of_getElem? (i := 691) (by decide +kernel)) (by decide +kernel)
theorem hl_X7_263 : Cond.methodLink RX7 263 yX7_livingChildrenOf ∈ GW := zGWin (List.mem_of_getElem? (i := 695) (by decide +kernel)) (by decide +kernel)
theorem hl_X7_446 : Cond.methodLink RX7 446 yX4_isLivingChildOf ∈ GW := zGWin (List.mem_of_getElem? (i := 699) (by decide +kernel)) (by decide +kernel)
theorem hl_X7_266 : Cond.methodLink RX7 266 yX7_removeOtherFaiths ∈ GW := zGWin (List.mem_of_getElem? (i := 703) (by decide +kernel)) (by decide +kernel)
theorem hl_X7_449 : Cond.methodLink RX7 449 yJx4a65c_remove_915e3 ∈ GW := zGWin (List.mem_of_getElem? (i := 706) (by decide +kernel)) (by decide +kernel)
theorem hl_Jx4a65c_144 : Cond.methodLink RJx4a65c 144 yJx4a65c_fastRemove_b59b0 ∈ GW := zGWin (List.mem_of_getElem? (i := 710) (by decide +kernel)) (by decide +kernel)
theorem hl_Jx4a65c_112 : Cond.methodLink RJx4a65c 112 ⟨"java/lang/System", "arraycopy", "(Ljava/lang/Object;ILjava/lang/Object;II)V"⟩ ∈ GW := zGWin (List.mem_of_getElem? (i := 714) (by decide +kernel)) (by decide +kernel)
theorem hl_X7_270 : Cond.methodLink RX7 270 yX7_leaveEstate ∈ GW := zGWin (List.mem_of_getElem? (i := 715) (by decide +kernel)) (by decide +kernel)
theorem hl_X7_452 : Cond.methodLink RX7 452 yJx4a65c_isEmpty_aae02 ∈ GW := zGWin (List.mem_of_getElem? (i := 719) (by decide +kernel)) (by decide +kernel)
theorem hk_X7_455 : Cond.constantLong RX7 455 (100 : Int64) ∈ GW := zGWin (List.mem_of_getElem? (i := 723) (by decide +kernel)) (by decide +kernel)
theorem hl_X7_457 : Cond.methodLink RX7 457 yX7_divide ∈ GW := zGWin (List.mem_of_getElem? (i := 724) (by decide +kernel)) (by decide +kernel)
theorem hl_X7_465 : Cond.methodLink RX7 465 yX4_shares ∈ GW := zGWin (List.mem_of_getElem? (i := 727) (by decide +kernel)) (by decide +kernel)
theorem hl_X7_461 : Cond.methodLink RX7 461 yX7_lowestOf ∈ GW := zGWin (List.mem_of_getElem? (i := 731) (by decide +kernel)) (by decide +kernel)
theorem hl_L_24 : Cond.methodLink RL 24 yX7_sue ∈ GW := zGWin (List.mem_of_getElem? (i := 734) (by decide +kernel)) (by decide +kernel)
theorem hc_X7_280 : Cond.classLink RX7 280 "Milletcourt$Suit" ∈ GW := zGWin (List.mem_of_getElem? (i := 741) (by decide +kernel)) (by decide +kernel)
theorem hl_X7_282 : Cond.methodLink RX7 282 yX5_init ∈ GW := zGWin (List.mem_of_getElem? (i := 743) (by decide +kernel)) (by decide +kernel)
theorem hl_X5_3 : Cond.methodLink RX5 3 objectInit ∈ GW := zGWin (List.mem_of_getElem? (i := 746) (by decide +kernel)) (by decide +kernel)
theorem hc_X5_9 : Cond.classLink RX5 9 "java/util/ArrayList" ∈ GW := zGWin (List.mem_of_getElem? (i := 747) (by decide +kernel)) (by decide +kernel)
theorem hl_X5_11 : Cond.methodLink RX5 11 yJx4a65c_init_da8c8 ∈ GW := zGWin (List.mem_of_getElem? (i := 748) (by decide +kernel)) (by decide +kernel)
theorem hl_X7_283 : Cond.methodLink RX7 283 yX7_isSeisedBetween ∈ GW := zGWin (List.mem_of_getElem? (i := 790) (by decide +kernel)) (by decide +kernel)
theorem hl_X7_304 : Cond.methodLink RX7 304 yX5_isBetween ∈ GW := zGWin (List.mem_of_getElem? (i := 794) (by decide +kernel)) (by decide +kernel)
theorem hl_L_28 : Cond.methodLink RL 28 yX7_appear ∈ GW := zGWin (List.mem_of_getElem? (i := 798) (by decide +kernel)) (by decide +kernel)
theorem hl_X7_291 : Cond.methodLink RX7 291 yX7_suitAt ∈ GW := zGWin (List.mem_of_getElem? (i := 802) (by decide +kernel)) (by decide +kernel)
theorem hl_X7_295 : Cond.methodLink RX7 295 yX7_needSeised ∈ GW := zGWin (List.mem_of_getElem? (i := 807) (by decide +kernel)) (by decide +kernel)
theorem hl_L_36 : Cond.methodLink RL 36 yX7_testify ∈ GW := zGWin (List.mem_of_getElem? (i := 812) (by decide +kernel)) (by decide +kernel)
theorem hl_X7_308 : Cond.methodLink RX7 308 yX5_hasHeard ∈ GW := zGWin (List.mem_of_getElem? (i := 816) (by decide +kernel)) (by decide +kernel)
theorem hl_X5_53 : Cond.methodLink RX5 53 yJx4a65c_size_8abf5 ∈ GW := zGWin (List.mem_of_getElem? (i := 820) (by decide +kernel)) (by decide +kernel)
theorem hl_X5_57 : Cond.methodLink RX5 57 yJx4a65c_get_915e3 ∈ GW := zGWin (List.mem_of_getElem? (i := 821) (by decide +kernel)) (by decide +kernel)
theorem hc_X5_61 : Cond.classLink RX5 61 "Milletcourt$Witness" ∈ GW := zGWin (List.mem_of_getElem? (i := 822) (by decide +kernel)) (by decide +kernel)
theorem hc_X7_316 : Cond.classLink RX7 316 "Milletcourt$Witness" ∈ GW := zGWin (List.mem_of_getElem? (i := 824) (by decide +kernel)) (by decide +kernel)
theorem hl_X7_318 : Cond.methodLink RX7 318 yX6_init ∈ GW := zGWin (List.mem_of_getElem? (i := 826) (by decide +kernel)) (by decide +kernel)
theorem hl_X6_1 : Cond.methodLink RX6 1 objectInit ∈ GW := zGWin (List.mem_of_getElem? (i := 829) (by decide +kernel)) (by decide +kernel)
theorem hl_L_40 : Cond.methodLink RL 40 yX7_judge ∈ GW := zGWin (List.mem_of_getElem? (i := 840) (by decide +kernel)) (by decide +kernel)
theorem hl_X7_326 : Cond.methodLink RX7 326 yX7_isWonBefore ∈ GW := zGWin (List.mem_of_getElem? (i := 845) (by decide +kernel)) (by decide +kernel)
theorem hl_X7_330 : Cond.methodLink RX7 330 yX5_settle ∈ GW := zGWin (List.mem_of_getElem? (i := 849) (by decide +kernel)) (by decide +kernel)
theorem hl_L_43 : Cond.methodLink RL 43 yX7_appeal ∈ GW := zGWin (List.mem_of_getElem? (i := 853) (by decide +kernel)) (by decide +kernel)
theorem hl_X7_350 : Cond.methodLink RX7 350 yX5_giveBack ∈ GW := zGWin (List.mem_of_getElem? (i := 859) (by decide +kernel)) (by decide +kernel)
theorem hl_X5_66 : Cond.methodLink RX5 66 yX5_doBothLive ∈ GW := zGWin (List.mem_of_getElem? (i := 863) (by decide +kernel)) (by decide +kernel)
theorem hl_X5_70 : Cond.methodLink RX5 70 yX4_payUpTo ∈ GW := zGWin (List.mem_of_getElem? (i := 867) (by decide +kernel)) (by decide +kernel)
theorem hl_L_46 : Cond.methodLink RL 46 yX7_execute ∈ GW := zGWin (List.mem_of_getElem? (i := 868) (by decide +kernel)) (by decide +kernel)
theorem hl_X7_355 : Cond.methodLink RX7 355 yX5_doBothLive ∈ GW := zGWin (List.mem_of_getElem? (i := 873) (by decide +kernel)) (by decide +kernel)
theorem hl_X7_363 : Cond.methodLink RX7 363 yX4_payUpTo ∈ GW := zGWin (List.mem_of_getElem? (i := 875) (by decide +kernel)) (by decide +kernel)
theorem hl_L_49 : Cond.methodLink RL 49 yX7_wins ∈ GW := zGWin (List.mem_of_getElem? (i := 876) (by decide +kernel)) (by decide +kernel)
theorem hl_L_53 : Cond.methodLink RL 53 yX7_ofPerson ∈ GW := zGWin (List.mem_of_getElem? (i := 880) (by decide +kernel)) (by decide +kernel)
theorem hl_X7_371 : Cond.methodLink RX7 371 yX7_lowestThatLasts ∈ GW := zGWin (List.mem_of_getElem? (i := 884) (by decide +kernel)) (by decide +kernel)
theorem hl_X7_374 : Cond.methodLink RX7 374 yX7_howManyChildrenLive ∈ GW := zGWin (List.mem_of_getElem? (i := 888) (by decide +kernel)) (by decide +kernel)
theorem hl_L_56 : Cond.methodLink RL 56 yX7_ofMarriage ∈ GW := zGWin (List.mem_of_getElem? (i := 893) (by decide +kernel)) (by decide +kernel)
theorem hl_L_60 : Cond.methodLink RL 60 yX7_ofSuit ∈ GW := zGWin (List.mem_of_getElem? (i := 897) (by decide +kernel)) (by decide +kernel)
theorem hk_L_69 : Cond.constantLong RL 69 (-2100000000 : Int64) ∈ GW := zGWin (List.mem_of_getElem? (i := 901) (by decide +kernel)) (by decide +kernel)
theorem hl_L_141 : Cond.methodLink RL 141 yL_areAlike ∈ GW := zGWin (List.mem_of_getElem? (i := 902) (by decide +kernel)) (by decide +kernel)
theorem hl_L_122 : Cond.methodLink RL 122 yX7_treasury ∈ GW := zGWin (List.mem_of_getElem? (i := 905) (by decide +kernel)) (by decide +kernel)
theorem hl_L_145 : Cond.methodLink RL 145 yL_areGoods ∈ GW := zGWin (List.mem_of_getElem? (i := 909) (by decide +kernel)) (by decide +kernel)
theorem hk_L_129 : Cond.constantLong RL 129 (-1 : Int64) ∈ GW := zGWin (List.mem_of_getElem? (i := 912) (by decide +kernel)) (by decide +kernel)
theorem hl_L_149 : Cond.methodLink RL 149 yL_areSuits ∈ GW := zGWin (List.mem_of_getElem? (i := 913) (by decide +kernel)) (by decide +kernel)
theorem hl_L_153 : Cond.methodLink RL 153 yL_isQuiet ∈ GW := zGWin (List.mem_of_getElem? (i := 916) (by decide +kernel)) (by decide +kernel)
theorem hk_L_140 : Cond.constant RL 140 (65535 : Int32) ∈ GW := zGWin (List.mem_of_getElem? (i := 919) (by decide +kernel)) (by decide +kernel)
theorem hoi1 : Cond.instanceMethod objectInit ∈ GW := zGWin (List.mem_of_getElem? (i := 56) (by decide +kernel)) (by decide +kernel)
theorem hoi2 : Cond.code objectInit ⟨#[0xb1]⟩ 1 none ∈ GW := zGWin (List.mem_of_getElem? (i := 57) (by decide +kernel)) (by decide +kernel)
theorem hw_L_15 : zNwC RL 15 8 10 RX7 TX7 tyX7 := ⟨rfl, hu_X7, tyX7_ok, zGWin (List.mem_of_getElem? (i := 50) (by decide +kernel)) (by decide +kernel), zGWin (List.mem_of_getElem? (i := 51) (by decide +kernel)) (by decide +kernel), zGWin (List.mem_of_getElem? (i := 27) (by decide +kernel)) (by decide +kernel)⟩
theorem hw_X7_7 : zNwC RX7 7 3 1 RX2 TX2 tyX2 := ⟨rfl, hu_X2, tyX2_ok, zGWin (List.mem_of_getElem? (i := 58) (by decide +kernel)) (by decide +kernel), zGWin (List.mem_of_getElem? (i := 59) (by decide +kernel)) (by decide +kernel), zGWin (List.mem_of_getElem? (i := 28) (by decide +kernel)) (by decide +kernel)⟩
theorem hw_X7_87 : zNwC RX7 87 1 3 RX0 TX0 tyX0 := ⟨rfl, hu_X0, tyX0_ok, zGWin (List.mem_of_getElem? (i := 69) (by decide +kernel)) (by decide +kernel), zGWin (List.mem_of_getElem? (i := 71) (by decide +kernel)) (by decide +kernel), zGWin (List.mem_of_getElem? (i := 29) (by decide +kernel)) (by decide +kernel)⟩
theorem hw_X7_16 : zNwC RX7 16 0 3 RJx4a65c TJx4a65c tyJx4a65c := ⟨rfl, hu_Jx4a65c, tyJx4a65c_ok, zGWin (List.mem_of_getElem? (i := 92) (by decide +kernel)) (by decide +kernel), zGWin (List.mem_of_getElem? (i := 93) (by decide +kernel)) (by decide +kernel), zGWin (List.mem_of_getElem? (i := 32) (by decide +kernel)) (by decide +kernel)⟩
theorem hw_X7_69 : zNwC RX7 69 2 2 RX1 TX1 tyX1 := ⟨rfl, hu_X1, tyX1_ok, zGWin (List.mem_of_getElem? (i := 228) (by decide +kernel)) (by decide +kernel), zGWin (List.mem_of_getElem? (i := 229) (by decide +kernel)) (by decide +kernel), zGWin (List.mem_of_getElem? (i := 37) (by decide +kernel)) (by decide +kernel)⟩
theorem hw_X1_7 : zNwC RX1 7 3 1 RX2 TX2 tyX2 := ⟨rfl, hu_X2, tyX2_ok, zGWin (List.mem_of_getElem? (i := 234) (by decide +kernel)) (by decide +kernel), zGWin (List.mem_of_getElem? (i := 59) (by decide +kernel)) (by decide +kernel), zGWin (List.mem_of_getElem? (i := 28) (by decide +kernel)) (by decide +kernel)⟩
theorem hw_X1_16 : zNwC RX1 16 1 3 RX0 TX0 tyX0 := ⟨rfl, hu_X0, tyX0_ok, zGWin (List.mem_of_getElem? (i := 236) (by decide +kernel)) (by decide +kernel), zGWin (List.mem_of_getElem? (i := 71) (by decide +kernel)) (by decide +kernel), zGWin (List.mem_of_getElem? (i := 29) (by decide +kernel)) (by decide +kernel)⟩
theorem hw_X7_128 : zNwC RX7 128 5 11 RX4 TX4 tyX4 := ⟨rfl, hu_X4, tyX4_ok, zGWin (List.mem_of_getElem? (i := 348) (by decide +kernel)) (by decide +kernel), zGWin (List.mem_of_getElem? (i := 384) (by decide +kernel)) (by decide +kernel), zGWin (List.mem_of_getElem? (i := 46) (by decide +kernel)) (by decide +kernel)⟩
theorem hw_X4_45 : zNwC RX4 45 1 3 RX0 TX0 tyX0 := ⟨rfl, hu_X0, tyX0_ok, zGWin (List.mem_of_getElem? (i := 389) (by decide +kernel)) (by decide +kernel), zGWin (List.mem_of_getElem? (i := 71) (by decide +kernel)) (by decide +kernel), zGWin (List.mem_of_getElem? (i := 29) (by decide +kernel)) (by decide +kernel)⟩
theorem hw_X7_217 : zNwC RX7 217 4 7 RX3 TX3 tyX3 := ⟨rfl, hu_X3, tyX3_ok, zGWin (List.mem_of_getElem? (i := 617) (by decide +kernel)) (by decide +kernel), zGWin (List.mem_of_getElem? (i := 624) (by decide +kernel)) (by decide +kernel), zGWin (List.mem_of_getElem? (i := 47) (by decide +kernel)) (by decide +kernel)⟩
theorem hw_X7_280 : zNwC RX7 280 6 10 RX5 TX5 tyX5 := ⟨rfl, hu_X5, tyX5_ok, zGWin (List.mem_of_getElem? (i := 741) (by decide +kernel)) (by decide +kernel), zGWin (List.mem_of_getElem? (i := 742) (by decide +kernel)) (by decide +kernel), zGWin (List.mem_of_getElem? (i := 48) (by decide +kernel)) (by decide +kernel)⟩
theorem hw_X5_9 : zNwC RX5 9 0 3 RJx4a65c TJx4a65c tyJx4a65c := ⟨rfl, hu_Jx4a65c, tyJx4a65c_ok, zGWin (List.mem_of_getElem? (i := 747) (by decide +kernel)) (by decide +kernel), zGWin (List.mem_of_getElem? (i := 93) (by decide +kernel)) (by decide +kernel), zGWin (List.mem_of_getElem? (i := 32) (by decide +kernel)) (by decide +kernel)⟩
theorem hw_X5_61 : zNwC RX5 61 7 2 RX6 TX6 tyX6 := ⟨rfl, hu_X6, tyX6_ok, zGWin (List.mem_of_getElem? (i := 822) (by decide +kernel)) (by decide +kernel), zGWin (List.mem_of_getElem? (i := 825) (by decide +kernel)) (by decide +kernel), zGWin (List.mem_of_getElem? (i := 49) (by decide +kernel)) (by decide +kernel)⟩
theorem hw_X7_316 : zNwC RX7 316 7 2 RX6 TX6 tyX6 := ⟨rfl, hu_X6, tyX6_ok, zGWin (List.mem_of_getElem? (i := 824) (by decide +kernel)) (by decide +kernel), zGWin (List.mem_of_getElem? (i := 825) (by decide +kernel)) (by decide +kernel), zGWin (List.mem_of_getElem? (i := 49) (by decide +kernel)) (by decide +kernel)⟩
def zthr_ok (own : String) (ic : Nat) (cls : String) : Bool := (vx_atS own ic cls zXn).all (fun w => decide (w ∈ lw_tbl) && (goodWord w || (zKW w && w.onTables)))
theorem zthr_of {own cls : String} {ic : Nat} (h : zthr_ok own ic cls = true) : ∀ w ∈ vx_atS own ic cls zXn, w ∈ GW ∨ (w ∈ lw_tbl ∧ zKW w = true ∧ w.onTables = true) := by
  intro w hw
  have h1 := List.all_eq_true.mp h w hw
  simp only [Bool.and_eq_true, decide_eq_true_eq, Bool.or_eq_true] at h1
  rcases h1.2 with h2 | h2
  · exact Or.inl (zGWin h1.1 h2)
  · exact Or.inr ⟨h1.1, h2.1, h2.2⟩
theorem htb_X7_66 : zthr_ok RX7 66 "java/lang/IllegalStateException" = true := by decide +kernel
theorem htg_X7_66 : ∀ w ∈ Cond.classLink RX7 62 "java/lang/IllegalStateException" :: Cond.initialized "java/lang/IllegalStateException" :: vx_atS RX7 66 "java/lang/IllegalStateException" zXn, vx_ot w = true := by decide +kernel
theorem ht_X7_64_66 : zThr RX7 62 64 66 "java/lang/IllegalStateException" "there are 6 communities" := ⟨by decide +kernel, hc_X7_62, zGWin (List.mem_of_getElem? (i := 36) (by decide +kernel)) (by decide +kernel), List.mem_of_getElem? (i := 0) (by decide +kernel), zthr_of htb_X7_66, htg_X7_66⟩
theorem htb_X7_152 : zthr_ok RX7 152 "java/lang/IllegalArgumentException" = true := by decide +kernel
theorem htg_X7_152 : ∀ w ∈ Cond.classLink RX7 148 "java/lang/IllegalArgumentException" :: Cond.initialized "java/lang/IllegalArgumentException" :: vx_atS RX7 152 "java/lang/IllegalArgumentException" zXn, vx_ot w = true := by decide +kernel
theorem ht_X7_150_152 : zThr RX7 148 150 152 "java/lang/IllegalArgumentException" "the mother is no woman" := ⟨by decide +kernel, hc_X7_148, zGWin (List.mem_of_getElem? (i := 45) (by decide +kernel)) (by decide +kernel), List.mem_of_getElem? (i := 3) (by decide +kernel), zthr_of htb_X7_152, htg_X7_152⟩
theorem ht_X7_153_152 : zThr RX7 148 153 152 "java/lang/IllegalArgumentException" "the father is no man" := ⟨by decide +kernel, hc_X7_148, zGWin (List.mem_of_getElem? (i := 45) (by decide +kernel)) (by decide +kernel), List.mem_of_getElem? (i := 4) (by decide +kernel), zthr_of htb_X7_152, htg_X7_152⟩
theorem ht_X7_155_152 : zThr RX7 148 155 152 "java/lang/IllegalArgumentException" "a faith is told without mother and father alone" := ⟨by decide +kernel, hc_X7_148, zGWin (List.mem_of_getElem? (i := 45) (by decide +kernel)) (by decide +kernel), List.mem_of_getElem? (i := 5) (by decide +kernel), zthr_of htb_X7_152, htg_X7_152⟩
theorem ht_X7_157_66 : zThr RX7 62 157 66 "java/lang/IllegalStateException" "there are 40 persons" := ⟨by decide +kernel, hc_X7_62, zGWin (List.mem_of_getElem? (i := 36) (by decide +kernel)) (by decide +kernel), List.mem_of_getElem? (i := 6) (by decide +kernel), zthr_of htb_X7_66, htg_X7_66⟩
theorem htb_X7_399 : zthr_ok RX7 399 "java/lang/IndexOutOfBoundsException" = true := by decide +kernel
theorem htg_X7_399 : ∀ w ∈ Cond.classLink RX7 395 "java/lang/IndexOutOfBoundsException" :: Cond.initialized "java/lang/IndexOutOfBoundsException" :: vx_atS RX7 399 "java/lang/IndexOutOfBoundsException" zXn, vx_ot w = true := by decide +kernel
theorem ht_X7_403_399 : zThr RX7 395 403 399 "java/lang/IndexOutOfBoundsException" "there is no such person" := ⟨by decide +kernel, hc_X7_395, zGWin (List.mem_of_getElem? (i := 42) (by decide +kernel)) (by decide +kernel), List.mem_of_getElem? (i := 1) (by decide +kernel), zthr_of htb_X7_399, htg_X7_399⟩
theorem ht_X7_397_399 : zThr RX7 395 397 399 "java/lang/IndexOutOfBoundsException" "there is no such community" := ⟨by decide +kernel, hc_X7_395, zGWin (List.mem_of_getElem? (i := 42) (by decide +kernel)) (by decide +kernel), List.mem_of_getElem? (i := 2) (by decide +kernel), zthr_of htb_X7_399, htg_X7_399⟩
theorem ht_X7_388_66 : zThr RX7 62 388 66 "java/lang/IllegalStateException" "it would be above the day 30000" := ⟨by decide +kernel, hc_X7_62, zGWin (List.mem_of_getElem? (i := 36) (by decide +kernel)) (by decide +kernel), List.mem_of_getElem? (i := 8) (by decide +kernel), zthr_of htb_X7_66, htg_X7_66⟩
theorem ht_X7_393_152 : zThr RX7 148 393 152 "java/lang/IllegalArgumentException" "a number is out of range" := ⟨by decide +kernel, hc_X7_148, zGWin (List.mem_of_getElem? (i := 45) (by decide +kernel)) (by decide +kernel), List.mem_of_getElem? (i := 7) (by decide +kernel), zthr_of htb_X7_152, htg_X7_152⟩
theorem ht_X7_112_66 : zThr RX7 62 112 66 "java/lang/IllegalStateException" "there were 100 decrees" := ⟨by decide +kernel, hc_X7_62, zGWin (List.mem_of_getElem? (i := 36) (by decide +kernel)) (by decide +kernel), List.mem_of_getElem? (i := 9) (by decide +kernel), zthr_of htb_X7_66, htg_X7_66⟩
theorem ht_X7_121_66 : zThr RX7 62 121 66 "java/lang/IllegalStateException" "there were 40 rules" := ⟨by decide +kernel, hc_X7_62, zGWin (List.mem_of_getElem? (i := 36) (by decide +kernel)) (by decide +kernel), List.mem_of_getElem? (i := 10) (by decide +kernel), zthr_of htb_X7_66, htg_X7_66⟩
theorem ht_X7_166_152 : zThr RX7 148 166 152 "java/lang/IllegalArgumentException" "the person and the witnesses are not three" := ⟨by decide +kernel, hc_X7_148, zGWin (List.mem_of_getElem? (i := 45) (by decide +kernel)) (by decide +kernel), List.mem_of_getElem? (i := 11) (by decide +kernel), zthr_of htb_X7_152, htg_X7_152⟩
theorem ht_X7_179_66 : zThr RX7 62 179 66 "java/lang/IllegalStateException" "the person cannot turn to it now" := ⟨by decide +kernel, hc_X7_62, zGWin (List.mem_of_getElem? (i := 36) (by decide +kernel)) (by decide +kernel), List.mem_of_getElem? (i := 12) (by decide +kernel), zthr_of htb_X7_66, htg_X7_66⟩
theorem ht_X7_185_66 : zThr RX7 62 185 66 "java/lang/IllegalStateException" "a witness does not live, is a minor or of another faith" := ⟨by decide +kernel, hc_X7_62, zGWin (List.mem_of_getElem? (i := 36) (by decide +kernel)) (by decide +kernel), List.mem_of_getElem? (i := 13) (by decide +kernel), zthr_of htb_X7_66, htg_X7_66⟩
theorem ht_X7_193_66 : zThr RX7 62 193 66 "java/lang/IllegalStateException" "the person is not turning" := ⟨by decide +kernel, hc_X7_62, zGWin (List.mem_of_getElem? (i := 36) (by decide +kernel)) (by decide +kernel), List.mem_of_getElem? (i := 14) (by decide +kernel), zthr_of htb_X7_66, htg_X7_66⟩
theorem ht_X7_204_152 : zThr RX7 148 204 152 "java/lang/IllegalArgumentException" "the husband is no man, or the wife no woman" := ⟨by decide +kernel, hc_X7_148, zGWin (List.mem_of_getElem? (i := 45) (by decide +kernel)) (by decide +kernel), List.mem_of_getElem? (i := 15) (by decide +kernel), zthr_of htb_X7_152, htg_X7_152⟩
theorem ht_X7_207_66 : zThr RX7 62 207 66 "java/lang/IllegalStateException" "one does not live, or is a minor" := ⟨by decide +kernel, hc_X7_62, zGWin (List.mem_of_getElem? (i := 36) (by decide +kernel)) (by decide +kernel), List.mem_of_getElem? (i := 16) (by decide +kernel), zthr_of htb_X7_66, htg_X7_66⟩
theorem ht_X7_213_66 : zThr RX7 62 213 66 "java/lang/IllegalStateException" "the law does not take it" := ⟨by decide +kernel, hc_X7_62, zGWin (List.mem_of_getElem? (i := 36) (by decide +kernel)) (by decide +kernel), List.mem_of_getElem? (i := 17) (by decide +kernel), zthr_of htb_X7_66, htg_X7_66⟩
theorem ht_X7_215_66 : zThr RX7 62 215 66 "java/lang/IllegalStateException" "there are 30 marriages" := ⟨by decide +kernel, hc_X7_62, zGWin (List.mem_of_getElem? (i := 36) (by decide +kernel)) (by decide +kernel), List.mem_of_getElem? (i := 18) (by decide +kernel), zthr_of htb_X7_66, htg_X7_66⟩
theorem ht_X7_229_66 : zThr RX7 62 229 66 "java/lang/IllegalStateException" "the marriage does not last" := ⟨by decide +kernel, hc_X7_62, zGWin (List.mem_of_getElem? (i := 36) (by decide +kernel)) (by decide +kernel), List.mem_of_getElem? (i := 20) (by decide +kernel), zthr_of htb_X7_66, htg_X7_66⟩
theorem ht_X7_405_399 : zThr RX7 395 405 399 "java/lang/IndexOutOfBoundsException" "there is no such marriage" := ⟨by decide +kernel, hc_X7_395, zGWin (List.mem_of_getElem? (i := 42) (by decide +kernel)) (by decide +kernel), List.mem_of_getElem? (i := 19) (by decide +kernel), zthr_of htb_X7_399, htg_X7_399⟩
theorem ht_X7_254_66 : zThr RX7 62 254 66 "java/lang/IllegalStateException" "the person does not live" := ⟨by decide +kernel, hc_X7_62, zGWin (List.mem_of_getElem? (i := 36) (by decide +kernel)) (by decide +kernel), List.mem_of_getElem? (i := 21) (by decide +kernel), zthr_of htb_X7_66, htg_X7_66⟩
theorem ht_X7_274_152 : zThr RX7 148 274 152 "java/lang/IllegalArgumentException" "both persons are the same" := ⟨by decide +kernel, hc_X7_148, zGWin (List.mem_of_getElem? (i := 45) (by decide +kernel)) (by decide +kernel), List.mem_of_getElem? (i := 22) (by decide +kernel), zthr_of htb_X7_152, htg_X7_152⟩
theorem ht_X7_276_66 : zThr RX7 62 276 66 "java/lang/IllegalStateException" "one does not live" := ⟨by decide +kernel, hc_X7_62, zGWin (List.mem_of_getElem? (i := 36) (by decide +kernel)) (by decide +kernel), List.mem_of_getElem? (i := 23) (by decide +kernel), zthr_of htb_X7_66, htg_X7_66⟩
theorem ht_X7_278_66 : zThr RX7 62 278 66 "java/lang/IllegalStateException" "there are 20 suits" := ⟨by decide +kernel, hc_X7_62, zGWin (List.mem_of_getElem? (i := 36) (by decide +kernel)) (by decide +kernel), List.mem_of_getElem? (i := 24) (by decide +kernel), zthr_of htb_X7_66, htg_X7_66⟩
theorem ht_X7_302_66 : zThr RX7 62 302 66 "java/lang/IllegalStateException" "the defendant does not live" := ⟨by decide +kernel, hc_X7_62, zGWin (List.mem_of_getElem? (i := 36) (by decide +kernel)) (by decide +kernel), List.mem_of_getElem? (i := 27) (by decide +kernel), zthr_of htb_X7_66, htg_X7_66⟩
theorem ht_X7_407_399 : zThr RX7 395 407 399 "java/lang/IndexOutOfBoundsException" "there is no such suit" := ⟨by decide +kernel, hc_X7_395, zGWin (List.mem_of_getElem? (i := 42) (by decide +kernel)) (by decide +kernel), List.mem_of_getElem? (i := 25) (by decide +kernel), zthr_of htb_X7_399, htg_X7_399⟩
theorem ht_X7_409_66 : zThr RX7 62 409 66 "java/lang/IllegalStateException" "the suit is not seised" := ⟨by decide +kernel, hc_X7_62, zGWin (List.mem_of_getElem? (i := 36) (by decide +kernel)) (by decide +kernel), List.mem_of_getElem? (i := 26) (by decide +kernel), zthr_of htb_X7_66, htg_X7_66⟩
theorem ht_X7_311_66 : zThr RX7 62 311 66 "java/lang/IllegalStateException" "the person cannot be a witness in it" := ⟨by decide +kernel, hc_X7_62, zGWin (List.mem_of_getElem? (i := 36) (by decide +kernel)) (by decide +kernel), List.mem_of_getElem? (i := 28) (by decide +kernel), zthr_of htb_X7_66, htg_X7_66⟩
theorem ht_X7_321_66 : zThr RX7 62 321 66 "java/lang/IllegalStateException" "its court cannot judge it" := ⟨by decide +kernel, hc_X7_62, zGWin (List.mem_of_getElem? (i := 36) (by decide +kernel)) (by decide +kernel), List.mem_of_getElem? (i := 29) (by decide +kernel), zthr_of htb_X7_66, htg_X7_66⟩
theorem ht_X7_340_66 : zThr RX7 62 340 66 "java/lang/IllegalStateException" "it is neither won nor lost" := ⟨by decide +kernel, hc_X7_62, zGWin (List.mem_of_getElem? (i := 36) (by decide +kernel)) (by decide +kernel), List.mem_of_getElem? (i := 30) (by decide +kernel), zthr_of htb_X7_66, htg_X7_66⟩
theorem ht_X7_348_66 : zThr RX7 62 348 66 "java/lang/IllegalStateException" "it cannot be appealed any more" := ⟨by decide +kernel, hc_X7_62, zGWin (List.mem_of_getElem? (i := 36) (by decide +kernel)) (by decide +kernel), List.mem_of_getElem? (i := 31) (by decide +kernel), zthr_of htb_X7_66, htg_X7_66⟩
theorem ht_X7_353_66 : zThr RX7 62 353 66 "java/lang/IllegalStateException" "it is not won, or nothing is owed any more" := ⟨by decide +kernel, hc_X7_62, zGWin (List.mem_of_getElem? (i := 36) (by decide +kernel)) (by decide +kernel), List.mem_of_getElem? (i := 32) (by decide +kernel), zthr_of htb_X7_66, htg_X7_66⟩
theorem ht_X7_358_66 : zThr RX7 62 358 66 "java/lang/IllegalStateException" "one of both does not live" := ⟨by decide +kernel, hc_X7_62, zGWin (List.mem_of_getElem? (i := 36) (by decide +kernel)) (by decide +kernel), List.mem_of_getElem? (i := 33) (by decide +kernel), zthr_of htb_X7_66, htg_X7_66⟩
theorem ht_X7_377_152 : zThr RX7 148 377 152 "java/lang/IllegalArgumentException" "what is out of range" := ⟨by decide +kernel, hc_X7_148, zGWin (List.mem_of_getElem? (i := 45) (by decide +kernel)) (by decide +kernel), List.mem_of_getElem? (i := 34) (by decide +kernel), zthr_of htb_X7_152, htg_X7_152⟩
