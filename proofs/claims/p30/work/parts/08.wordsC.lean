theorem hy_X7_isSeisedBetween : zY yX7_isSeisedBetween cX7_isSeisedBetween 5 (some .boolean) 2 := ⟨zGWin (List.mem_of_getElem? (i := 793) (by decide +kernel)) (by decide +kernel), zGWin (List.mem_of_getElem? (i := 27) (by decide +kernel)) (by decide +kernel), ⟨by decide +kernel, by decide +kernel⟩, by decide +kernel⟩
theorem hv_X7_isSeisedBetween : zYV yX7_isSeisedBetween := ⟨zGWin (List.mem_of_getElem? (i := 792) (by decide +kernel)) (by decide +kernel), zGWin (List.mem_of_getElem? (i := 21) (by decide +kernel)) (by decide +kernel)⟩
theorem hy_X5_isBetween : zY yX5_isBetween cX5_isBetween 2 (some .boolean) 1 := ⟨zGWin (List.mem_of_getElem? (i := 797) (by decide +kernel)) (by decide +kernel), zGWin (List.mem_of_getElem? (i := 48) (by decide +kernel)) (by decide +kernel), ⟨by decide +kernel, by decide +kernel⟩, by decide +kernel⟩
theorem hv_X5_isBetween : zYV yX5_isBetween := ⟨zGWin (List.mem_of_getElem? (i := 795) (by decide +kernel)) (by decide +kernel), zGWin (List.mem_of_getElem? (i := 796) (by decide +kernel)) (by decide +kernel)⟩
theorem hy_X7_appear : zY yX7_appear cX7_appear 4 (some .boolean) 1 := ⟨zGWin (List.mem_of_getElem? (i := 801) (by decide +kernel)) (by decide +kernel), zGWin (List.mem_of_getElem? (i := 27) (by decide +kernel)) (by decide +kernel), ⟨by decide +kernel, by decide +kernel⟩, by decide +kernel⟩
theorem hv_X7_appear : zYV yX7_appear := ⟨zGWin (List.mem_of_getElem? (i := 799) (by decide +kernel)) (by decide +kernel), zGWin (List.mem_of_getElem? (i := 800) (by decide +kernel)) (by decide +kernel)⟩
theorem hy_X7_suitAt : zY yX7_suitAt cX7_suitAt 2 (some (.object "Milletcourt$Suit")) 1 := ⟨zGWin (List.mem_of_getElem? (i := 805) (by decide +kernel)) (by decide +kernel), zGWin (List.mem_of_getElem? (i := 27) (by decide +kernel)) (by decide +kernel), ⟨by decide +kernel, by decide +kernel⟩, by decide +kernel⟩
theorem hv_X7_suitAt : zYV yX7_suitAt := ⟨zGWin (List.mem_of_getElem? (i := 804) (by decide +kernel)) (by decide +kernel), zGWin (List.mem_of_getElem? (i := 22) (by decide +kernel)) (by decide +kernel)⟩
theorem hy_X7_needSeised : zY yX7_needSeised cX7_needSeised 1 none 1 := ⟨zGWin (List.mem_of_getElem? (i := 809) (by decide +kernel)) (by decide +kernel), zGWin (List.mem_of_getElem? (i := 27) (by decide +kernel)) (by decide +kernel), ⟨by decide +kernel, by decide +kernel⟩, by decide +kernel⟩
theorem hst_X7_needSeised : zYS yX7_needSeised := zGWin (List.mem_of_getElem? (i := 808) (by decide +kernel)) (by decide +kernel)
theorem hy_X7_testify : zY yX7_testify cX7_testify 6 (some .int) 3 := ⟨zGWin (List.mem_of_getElem? (i := 815) (by decide +kernel)) (by decide +kernel), zGWin (List.mem_of_getElem? (i := 27) (by decide +kernel)) (by decide +kernel), ⟨by decide +kernel, by decide +kernel⟩, by decide +kernel⟩
theorem hv_X7_testify : zYV yX7_testify := ⟨zGWin (List.mem_of_getElem? (i := 813) (by decide +kernel)) (by decide +kernel), zGWin (List.mem_of_getElem? (i := 814) (by decide +kernel)) (by decide +kernel)⟩
theorem hy_X5_hasHeard : zY yX5_hasHeard cX5_hasHeard 3 (some .boolean) 1 := ⟨zGWin (List.mem_of_getElem? (i := 819) (by decide +kernel)) (by decide +kernel), zGWin (List.mem_of_getElem? (i := 48) (by decide +kernel)) (by decide +kernel), ⟨by decide +kernel, by decide +kernel⟩, by decide +kernel⟩
theorem hv_X5_hasHeard : zYV yX5_hasHeard := ⟨zGWin (List.mem_of_getElem? (i := 817) (by decide +kernel)) (by decide +kernel), zGWin (List.mem_of_getElem? (i := 818) (by decide +kernel)) (by decide +kernel)⟩
theorem hy_X6_init : zY yX6_init cX6_init 3 none 2 := ⟨zGWin (List.mem_of_getElem? (i := 828) (by decide +kernel)) (by decide +kernel), zGWin (List.mem_of_getElem? (i := 49) (by decide +kernel)) (by decide +kernel), ⟨by decide +kernel, by decide +kernel⟩, by decide +kernel⟩
theorem hi_X6_init : zYI yX6_init := ⟨zGWin (List.mem_of_getElem? (i := 827) (by decide +kernel)) (by decide +kernel), rfl⟩
theorem hy_X7_judge : zY yX7_judge cX7_judge 4 (some .boolean) 1 := ⟨zGWin (List.mem_of_getElem? (i := 843) (by decide +kernel)) (by decide +kernel), zGWin (List.mem_of_getElem? (i := 27) (by decide +kernel)) (by decide +kernel), ⟨by decide +kernel, by decide +kernel⟩, by decide +kernel⟩
theorem hv_X7_judge : zYV yX7_judge := ⟨zGWin (List.mem_of_getElem? (i := 841) (by decide +kernel)) (by decide +kernel), zGWin (List.mem_of_getElem? (i := 842) (by decide +kernel)) (by decide +kernel)⟩
theorem hy_X7_isWonBefore : zY yX7_isWonBefore cX7_isWonBefore 9 (some .boolean) 2 := ⟨zGWin (List.mem_of_getElem? (i := 848) (by decide +kernel)) (by decide +kernel), zGWin (List.mem_of_getElem? (i := 27) (by decide +kernel)) (by decide +kernel), ⟨by decide +kernel, by decide +kernel⟩, by decide +kernel⟩
theorem hv_X7_isWonBefore : zYV yX7_isWonBefore := ⟨zGWin (List.mem_of_getElem? (i := 847) (by decide +kernel)) (by decide +kernel), zGWin (List.mem_of_getElem? (i := 23) (by decide +kernel)) (by decide +kernel)⟩
theorem hy_X5_settle : zY yX5_settle cX5_settle 3 none 2 := ⟨zGWin (List.mem_of_getElem? (i := 852) (by decide +kernel)) (by decide +kernel), zGWin (List.mem_of_getElem? (i := 48) (by decide +kernel)) (by decide +kernel), ⟨by decide +kernel, by decide +kernel⟩, by decide +kernel⟩
theorem hv_X5_settle : zYV yX5_settle := ⟨zGWin (List.mem_of_getElem? (i := 850) (by decide +kernel)) (by decide +kernel), zGWin (List.mem_of_getElem? (i := 851) (by decide +kernel)) (by decide +kernel)⟩
theorem hy_X7_appeal : zY yX7_appeal cX7_appeal 5 (some .boolean) 1 := ⟨zGWin (List.mem_of_getElem? (i := 856) (by decide +kernel)) (by decide +kernel), zGWin (List.mem_of_getElem? (i := 27) (by decide +kernel)) (by decide +kernel), ⟨by decide +kernel, by decide +kernel⟩, by decide +kernel⟩
theorem hv_X7_appeal : zYV yX7_appeal := ⟨zGWin (List.mem_of_getElem? (i := 854) (by decide +kernel)) (by decide +kernel), zGWin (List.mem_of_getElem? (i := 855) (by decide +kernel)) (by decide +kernel)⟩
theorem hy_X5_giveBack : zY yX5_giveBack cX5_giveBack 1 none 0 := ⟨zGWin (List.mem_of_getElem? (i := 862) (by decide +kernel)) (by decide +kernel), zGWin (List.mem_of_getElem? (i := 48) (by decide +kernel)) (by decide +kernel), ⟨by decide +kernel, by decide +kernel⟩, by decide +kernel⟩
theorem hv_X5_giveBack : zYV yX5_giveBack := ⟨zGWin (List.mem_of_getElem? (i := 860) (by decide +kernel)) (by decide +kernel), zGWin (List.mem_of_getElem? (i := 861) (by decide +kernel)) (by decide +kernel)⟩
theorem hy_X5_doBothLive : zY yX5_doBothLive cX5_doBothLive 1 (some .boolean) 0 := ⟨zGWin (List.mem_of_getElem? (i := 866) (by decide +kernel)) (by decide +kernel), zGWin (List.mem_of_getElem? (i := 48) (by decide +kernel)) (by decide +kernel), ⟨by decide +kernel, by decide +kernel⟩, by decide +kernel⟩
theorem hv_X5_doBothLive : zYV yX5_doBothLive := ⟨zGWin (List.mem_of_getElem? (i := 864) (by decide +kernel)) (by decide +kernel), zGWin (List.mem_of_getElem? (i := 865) (by decide +kernel)) (by decide +kernel)⟩
theorem hy_X7_execute : zY yX7_execute cX7_execute 4 (some .long) 1 := ⟨zGWin (List.mem_of_getElem? (i := 871) (by decide +kernel)) (by decide +kernel), zGWin (List.mem_of_getElem? (i := 27) (by decide +kernel)) (by decide +kernel), ⟨by decide +kernel, by decide +kernel⟩, by decide +kernel⟩
theorem hv_X7_execute : zYV yX7_execute := ⟨zGWin (List.mem_of_getElem? (i := 869) (by decide +kernel)) (by decide +kernel), zGWin (List.mem_of_getElem? (i := 870) (by decide +kernel)) (by decide +kernel)⟩
theorem hy_X7_wins : zY yX7_wins cX7_wins 4 (some .boolean) 2 := ⟨zGWin (List.mem_of_getElem? (i := 879) (by decide +kernel)) (by decide +kernel), zGWin (List.mem_of_getElem? (i := 27) (by decide +kernel)) (by decide +kernel), ⟨by decide +kernel, by decide +kernel⟩, by decide +kernel⟩
theorem hv_X7_wins : zYV yX7_wins := ⟨zGWin (List.mem_of_getElem? (i := 877) (by decide +kernel)) (by decide +kernel), zGWin (List.mem_of_getElem? (i := 878) (by decide +kernel)) (by decide +kernel)⟩
theorem hy_X7_ofPerson : zY yX7_ofPerson cX7_ofPerson 4 (some .long) 2 := ⟨zGWin (List.mem_of_getElem? (i := 883) (by decide +kernel)) (by decide +kernel), zGWin (List.mem_of_getElem? (i := 27) (by decide +kernel)) (by decide +kernel), ⟨by decide +kernel, by decide +kernel⟩, by decide +kernel⟩
theorem hv_X7_ofPerson : zYV yX7_ofPerson := ⟨zGWin (List.mem_of_getElem? (i := 881) (by decide +kernel)) (by decide +kernel), zGWin (List.mem_of_getElem? (i := 882) (by decide +kernel)) (by decide +kernel)⟩
theorem hy_X7_lowestThatLasts : zY yX7_lowestThatLasts cX7_lowestThatLasts 3 (some .int) 1 := ⟨zGWin (List.mem_of_getElem? (i := 887) (by decide +kernel)) (by decide +kernel), zGWin (List.mem_of_getElem? (i := 27) (by decide +kernel)) (by decide +kernel), ⟨by decide +kernel, by decide +kernel⟩, by decide +kernel⟩
theorem hv_X7_lowestThatLasts : zYV yX7_lowestThatLasts := ⟨zGWin (List.mem_of_getElem? (i := 886) (by decide +kernel)) (by decide +kernel), zGWin (List.mem_of_getElem? (i := 24) (by decide +kernel)) (by decide +kernel)⟩
theorem hy_X7_howManyChildrenLive : zY yX7_howManyChildrenLive cX7_howManyChildrenLive 4 (some .int) 1 := ⟨zGWin (List.mem_of_getElem? (i := 891) (by decide +kernel)) (by decide +kernel), zGWin (List.mem_of_getElem? (i := 27) (by decide +kernel)) (by decide +kernel), ⟨by decide +kernel, by decide +kernel⟩, by decide +kernel⟩
theorem hv_X7_howManyChildrenLive : zYV yX7_howManyChildrenLive := ⟨zGWin (List.mem_of_getElem? (i := 890) (by decide +kernel)) (by decide +kernel), zGWin (List.mem_of_getElem? (i := 25) (by decide +kernel)) (by decide +kernel)⟩
theorem hy_X7_ofMarriage : zY yX7_ofMarriage cX7_ofMarriage 4 (some .int) 2 := ⟨zGWin (List.mem_of_getElem? (i := 896) (by decide +kernel)) (by decide +kernel), zGWin (List.mem_of_getElem? (i := 27) (by decide +kernel)) (by decide +kernel), ⟨by decide +kernel, by decide +kernel⟩, by decide +kernel⟩
theorem hv_X7_ofMarriage : zYV yX7_ofMarriage := ⟨zGWin (List.mem_of_getElem? (i := 894) (by decide +kernel)) (by decide +kernel), zGWin (List.mem_of_getElem? (i := 895) (by decide +kernel)) (by decide +kernel)⟩
theorem hy_X7_ofSuit : zY yX7_ofSuit cX7_ofSuit 4 (some .int) 2 := ⟨zGWin (List.mem_of_getElem? (i := 900) (by decide +kernel)) (by decide +kernel), zGWin (List.mem_of_getElem? (i := 27) (by decide +kernel)) (by decide +kernel), ⟨by decide +kernel, by decide +kernel⟩, by decide +kernel⟩
theorem hv_X7_ofSuit : zYV yX7_ofSuit := ⟨zGWin (List.mem_of_getElem? (i := 898) (by decide +kernel)) (by decide +kernel), zGWin (List.mem_of_getElem? (i := 899) (by decide +kernel)) (by decide +kernel)⟩
set_option maxRecDepth 100000 in
theorem hy_L_areAlike : zY yL_areAlike cL_areAlike 8 (some .boolean) 4 := ⟨zGWin (List.mem_of_getElem? (i := 904) rfl) (by decide +kernel), zGWin (List.mem_of_getElem? (i := 26) (by decide +kernel)) (by decide +kernel), ⟨by decide +kernel, by decide +kernel⟩, by decide +kernel⟩
theorem hst_L_areAlike : zYS yL_areAlike := zGWin (List.mem_of_getElem? (i := 903) (by decide +kernel)) (by decide +kernel)
theorem hy_X7_treasury : zY yX7_treasury cX7_treasury 1 (some .long) 0 := ⟨zGWin (List.mem_of_getElem? (i := 908) (by decide +kernel)) (by decide +kernel), zGWin (List.mem_of_getElem? (i := 27) (by decide +kernel)) (by decide +kernel), ⟨by decide +kernel, by decide +kernel⟩, by decide +kernel⟩
theorem hv_X7_treasury : zYV yX7_treasury := ⟨zGWin (List.mem_of_getElem? (i := 906) (by decide +kernel)) (by decide +kernel), zGWin (List.mem_of_getElem? (i := 907) (by decide +kernel)) (by decide +kernel)⟩
set_option maxRecDepth 100000 in
theorem hy_L_areGoods : zY yL_areGoods cL_areGoods 14 (some .boolean) 2 := ⟨zGWin (List.mem_of_getElem? (i := 911) rfl) (by decide +kernel), zGWin (List.mem_of_getElem? (i := 26) (by decide +kernel)) (by decide +kernel), ⟨by decide +kernel, by decide +kernel⟩, by decide +kernel⟩
theorem hst_L_areGoods : zYS yL_areGoods := zGWin (List.mem_of_getElem? (i := 910) (by decide +kernel)) (by decide +kernel)
set_option maxRecDepth 100000 in
theorem hy_L_areSuits : zY yL_areSuits cL_areSuits 6 (some .boolean) 2 := ⟨zGWin (List.mem_of_getElem? (i := 915) rfl) (by decide +kernel), zGWin (List.mem_of_getElem? (i := 26) (by decide +kernel)) (by decide +kernel), ⟨by decide +kernel, by decide +kernel⟩, by decide +kernel⟩
theorem hst_L_areSuits : zYS yL_areSuits := zGWin (List.mem_of_getElem? (i := 914) (by decide +kernel)) (by decide +kernel)
set_option maxRecDepth 100000 in
theorem hy_L_isQuiet : zY yL_isQuiet cL_isQuiet 15 (some .boolean) 4 := ⟨zGWin (List.mem_of_getElem? (i := 918) rfl) (by decide +kernel), zGWin (List.mem_of_getElem? (i := 26) (by decide +kernel)) (by decide +kernel), ⟨by decide +kernel, by decide +kernel⟩, by decide +kernel⟩
theorem hst_L_isQuiet : zYS yL_isQuiet := zGWin (List.mem_of_getElem? (i := 917) (by decide +kernel)) (by decide +kernel)
theorem hc_L_15 : Cond.classLink RL 15 "Milletcourt" ∈ GW := zGWin (List.mem_of_getElem? (i := 50) (by decide +kernel)) (by decide +kernel)
theorem hl_L_131 : Cond.methodLink RL 131 yX7_init ∈ GW := zGWin (List.mem_of_getElem? (i := 52) (by decide +kernel)) (by decide +kernel)
theorem hl_X7_1 : Cond.methodLink RX7 1 objectInit ∈ GW := zGWin (List.mem_of_getElem? (i := 55) (by decide +kernel)) (by decide +kernel)
theorem hc_X7_7 : Cond.classLink RX7 7 "Milletcourt$Law" ∈ GW := zGWin (List.mem_of_getElem? (i := 58) (by decide +kernel)) (by decide +kernel)
theorem hn_X7_9 : Cond.methodLinkNest RX7 9 yX2_init "Milletcourt" ∈ lw_tbl := List.mem_of_getElem? (i := 60) (by decide +kernel)
theorem hl_X2_1 : Cond.methodLink RX2 1 objectInit ∈ GW := zGWin (List.mem_of_getElem? (i := 63) (by decide +kernel)) (by decide +kernel)
theorem hfn_X2_7 : Cond.fieldLinkNest RX2 7 "Milletcourt" "LAWS_AT_FIRST" "[I" "Milletcourt" ∈ lw_tbl := List.mem_of_getElem? (i := 64) (by decide +kernel)
theorem hn_X2_13 : Cond.methodLinkNest RX2 13 yX7_chroniclesFrom "Milletcourt" ∈ lw_tbl := List.mem_of_getElem? (i := 66) (by decide +kernel)
theorem hc_X7_87 : Cond.classLink RX7 87 "Milletcourt$Chronicle" ∈ GW := zGWin (List.mem_of_getElem? (i := 69) (by decide +kernel)) (by decide +kernel)
theorem hl_X7_411 : Cond.methodLink RX7 411 yX0_init ∈ GW := zGWin (List.mem_of_getElem? (i := 72) (by decide +kernel)) (by decide +kernel)
theorem hl_X0_1 : Cond.methodLink RX0 1 objectInit ∈ GW := zGWin (List.mem_of_getElem? (i := 75) (by decide +kernel)) (by decide +kernel)
theorem ha_int : Cond.arrayClass .int ∈ GW := zGWin (List.mem_of_getElem? (i := 86) (by decide +kernel)) (by decide +kernel)
theorem hc_X7_16 : Cond.classLink RX7 16 "java/util/ArrayList" ∈ GW := zGWin (List.mem_of_getElem? (i := 92) (by decide +kernel)) (by decide +kernel)
theorem hl_X7_18 : Cond.methodLink RX7 18 yJx4a65c_init_da8c8 ∈ GW := zGWin (List.mem_of_getElem? (i := 94) (by decide +kernel)) (by decide +kernel)
theorem hl_Jx4a65c_1 : Cond.methodLink RJx4a65c 1 yJxc12de_init_da8c8 ∈ GW := zGWin (List.mem_of_getElem? (i := 97) (by decide +kernel)) (by decide +kernel)
theorem hl_Jxc12de_1 : Cond.methodLink RJxc12de 1 yJxa1e45_init_da8c8 ∈ GW := zGWin (List.mem_of_getElem? (i := 100) (by decide +kernel)) (by decide +kernel)
theorem hl_Jxa1e45_1 : Cond.methodLink RJxa1e45 1 objectInit ∈ GW := zGWin (List.mem_of_getElem? (i := 103) (by decide +kernel)) (by decide +kernel)
theorem hl_X7_27 : Cond.methodLink RX7 27 yX7_chroniclesFrom ∈ GW := zGWin (List.mem_of_getElem? (i := 120) (by decide +kernel)) (by decide +kernel)
theorem hl_L_75 : Cond.methodLink RL 75 yX7_community ∈ GW := zGWin (List.mem_of_getElem? (i := 152) (by decide +kernel)) (by decide +kernel)
theorem hl_X7_58 : Cond.methodLink RX7 58 yJx4a65c_size_8abf5 ∈ GW := zGWin (List.mem_of_getElem? (i := 156) (by decide +kernel)) (by decide +kernel)
theorem hc_X7_62 : Cond.classLink RX7 62 "java/lang/IllegalStateException" ∈ GW := zGWin (List.mem_of_getElem? (i := 160) (by decide +kernel)) (by decide +kernel)
theorem hl_X7_66 : Cond.methodLink RX7 66 ⟨"java/lang/IllegalStateException", "<init>", "(Ljava/lang/String;)V"⟩ ∈ GW := zGWin (List.mem_of_getElem? (i := 202) (by decide +kernel)) (by decide +kernel)
theorem ha_byte : Cond.arrayClass .byte ∈ GW := zGWin (List.mem_of_getElem? (i := 227) (by decide +kernel)) (by decide +kernel)
theorem hc_X7_69 : Cond.classLink RX7 69 "Milletcourt$Community" ∈ GW := zGWin (List.mem_of_getElem? (i := 228) (by decide +kernel)) (by decide +kernel)
theorem hl_X7_71 : Cond.methodLink RX7 71 yX1_init ∈ GW := zGWin (List.mem_of_getElem? (i := 230) (by decide +kernel)) (by decide +kernel)
theorem hl_X1_1 : Cond.methodLink RX1 1 objectInit ∈ GW := zGWin (List.mem_of_getElem? (i := 233) (by decide +kernel)) (by decide +kernel)
theorem hc_X1_7 : Cond.classLink RX1 7 "Milletcourt$Law" ∈ GW := zGWin (List.mem_of_getElem? (i := 234) (by decide +kernel)) (by decide +kernel)
theorem hn_X1_9 : Cond.methodLinkNest RX1 9 yX2_init "Milletcourt" ∈ lw_tbl := List.mem_of_getElem? (i := 235) (by decide +kernel)
theorem hc_X1_16 : Cond.classLink RX1 16 "Milletcourt$Chronicle" ∈ GW := zGWin (List.mem_of_getElem? (i := 236) (by decide +kernel)) (by decide +kernel)
theorem hl_X1_18 : Cond.methodLink RX1 18 yX0_init ∈ GW := zGWin (List.mem_of_getElem? (i := 237) (by decide +kernel)) (by decide +kernel)
theorem hl_X7_74 : Cond.methodLink RX7 74 yJx4a65c_add_9ea2d ∈ GW := zGWin (List.mem_of_getElem? (i := 247) (by decide +kernel)) (by decide +kernel)
theorem hl_Jx4a65c_131 : Cond.methodLink RJx4a65c 131 yJx4a65c_add_72be8 ∈ GW := zGWin (List.mem_of_getElem? (i := 251) (by decide +kernel)) (by decide +kernel)
theorem hl_Jx4a65c_129 : Cond.methodLink RJx4a65c 129 yJx4a65c_grow_d5877 ∈ GW := zGWin (List.mem_of_getElem? (i := 255) (by decide +kernel)) (by decide +kernel)
theorem hl_Jx4a65c_69 : Cond.methodLink RJx4a65c 69 yJx4a65c_grow_92f84 ∈ GW := zGWin (List.mem_of_getElem? (i := 259) (by decide +kernel)) (by decide +kernel)
theorem hl_Jx4a65c_73 : Cond.methodLink RJx4a65c 73 yJ8_newLength_cabcc ∈ GW := zGWin (List.mem_of_getElem? (i := 263) (by decide +kernel)) (by decide +kernel)
theorem hl_J8_194 : Cond.methodLink RJ8 194 yJ9_max_7cf53 ∈ GW := zGWin (List.mem_of_getElem? (i := 266) (by decide +kernel)) (by decide +kernel)
theorem hk_J8_200 : Cond.constant RJ8 200 (2147483639 : Int32) ∈ GW := zGWin (List.mem_of_getElem? (i := 269) (by decide +kernel)) (by decide +kernel)
theorem hl_J8_201 : Cond.methodLink RJ8 201 yJ8_hugeLength_7cf53 ∈ GW := zGWin (List.mem_of_getElem? (i := 270) (by decide +kernel)) (by decide +kernel)
theorem hl_Jx4a65c_66 : Cond.methodLink RJx4a65c 66 yJ7_copyOf_1904c ∈ GW := zGWin (List.mem_of_getElem? (i := 273) (by decide +kernel)) (by decide +kernel)
theorem hl_J7_86 : Cond.methodLink RJ7 86 ⟨"java/lang/Object", "getClass", "()Ljava/lang/Class;"⟩ ∈ GW := zGWin (List.mem_of_getElem? (i := 276) (by decide +kernel)) (by decide +kernel)
theorem hl_J7_300 : Cond.methodLink RJ7 300 yJ7_copyOf_6403c ∈ GW := zGWin (List.mem_of_getElem? (i := 292) (by decide +kernel)) (by decide +kernel)
theorem hc_J7_110 : Cond.classLink RJ7 110 "[Ljava/lang/Object;" ∈ GW := zGWin (List.mem_of_getElem? (i := 295) (by decide +kernel)) (by decide +kernel)
theorem hc_J7_2 : Cond.classLink RJ7 2 "java/lang/Object" ∈ GW := zGWin (List.mem_of_getElem? (i := 297) (by decide +kernel)) (by decide +kernel)
theorem hl_J7_304 : Cond.methodLink RJ7 304 yJ9_min_7cf53 ∈ GW := zGWin (List.mem_of_getElem? (i := 298) (by decide +kernel)) (by decide +kernel)
theorem hl_J7_150 : Cond.methodLink RJ7 150 ⟨"java/lang/System", "arraycopy", "(Ljava/lang/Object;ILjava/lang/Object;II)V"⟩ ∈ GW := zGWin (List.mem_of_getElem? (i := 301) (by decide +kernel)) (by decide +kernel)
theorem hl_Jx4a65c_79 : Cond.methodLink RJx4a65c 79 yJ9_max_7cf53 ∈ GW := zGWin (List.mem_of_getElem? (i := 304) (by decide +kernel)) (by decide +kernel)
theorem hc_Jx4a65c_7 : Cond.classLink RJx4a65c 7 "java/lang/Object" ∈ GW := zGWin (List.mem_of_getElem? (i := 305) (by decide +kernel)) (by decide +kernel)
theorem hl_L_96 : Cond.methodLink RL 96 yX7_person ∈ GW := zGWin (List.mem_of_getElem? (i := 306) (by decide +kernel)) (by decide +kernel)
theorem hl_X7_141 : Cond.methodLink RX7 141 yX7_personOrNullAt ∈ GW := zGWin (List.mem_of_getElem? (i := 310) (by decide +kernel)) (by decide +kernel)
theorem hl_X7_123 : Cond.methodLink RX7 123 yX7_personAt ∈ GW := zGWin (List.mem_of_getElem? (i := 314) (by decide +kernel)) (by decide +kernel)
theorem hc_X7_395 : Cond.classLink RX7 395 "java/lang/IndexOutOfBoundsException" ∈ GW := zGWin (List.mem_of_getElem? (i := 318) (by decide +kernel)) (by decide +kernel)
theorem hl_X7_399 : Cond.methodLink RX7 399 ⟨"java/lang/IndexOutOfBoundsException", "<init>", "(Ljava/lang/String;)V"⟩ ∈ GW := zGWin (List.mem_of_getElem? (i := 328) (by decide +kernel)) (by decide +kernel)
theorem hl_X7_384 : Cond.methodLink RX7 384 yJx4a65c_get_915e3 ∈ GW := zGWin (List.mem_of_getElem? (i := 334) (by decide +kernel)) (by decide +kernel)
theorem hl_Jx4a65c_118 : Cond.methodLink RJx4a65c 118 yJ15_checkIndex_7cf53 ∈ GW := zGWin (List.mem_of_getElem? (i := 338) (by decide +kernel)) (by decide +kernel)
theorem hl_J15_105 : Cond.methodLink RJ15 105 yJ3_checkIndex_8e157 ∈ GW := zGWin (List.mem_of_getElem? (i := 341) (by decide +kernel)) (by decide +kernel)
theorem hl_Jx4a65c_123 : Cond.methodLink RJx4a65c 123 yJx4a65c_elementData_915e3 ∈ GW := zGWin (List.mem_of_getElem? (i := 344) (by decide +kernel)) (by decide +kernel)
theorem hc_X7_128 : Cond.classLink RX7 128 "Milletcourt$Person" ∈ GW := zGWin (List.mem_of_getElem? (i := 348) (by decide +kernel)) (by decide +kernel)
theorem hl_X7_78 : Cond.methodLink RX7 78 yX7_communityAt ∈ GW := zGWin (List.mem_of_getElem? (i := 349) (by decide +kernel)) (by decide +kernel)
theorem hc_X7_148 : Cond.classLink RX7 148 "java/lang/IllegalArgumentException" ∈ GW := zGWin (List.mem_of_getElem? (i := 354) (by decide +kernel)) (by decide +kernel)
theorem hl_X7_152 : Cond.methodLink RX7 152 ⟨"java/lang/IllegalArgumentException", "<init>", "(Ljava/lang/String;)V"⟩ ∈ GW := zGWin (List.mem_of_getElem? (i := 364) (by decide +kernel)) (by decide +kernel)
theorem hl_X7_159 : Cond.methodLink RX7 159 yX7_faithAtBirth ∈ GW := zGWin (List.mem_of_getElem? (i := 373) (by decide +kernel)) (by decide +kernel)
theorem hl_X7_172 : Cond.methodLink RX7 172 yX4_faithNow ∈ GW := zGWin (List.mem_of_getElem? (i := 376) (by decide +kernel)) (by decide +kernel)
theorem hl_X4_54 : Cond.methodLink RX4 54 yX0_newest ∈ GW := zGWin (List.mem_of_getElem? (i := 380) (by decide +kernel)) (by decide +kernel)
theorem hl_X7_163 : Cond.methodLink RX7 163 yX4_init ∈ GW := zGWin (List.mem_of_getElem? (i := 385) (by decide +kernel)) (by decide +kernel)
theorem hl_X4_3 : Cond.methodLink RX4 3 objectInit ∈ GW := zGWin (List.mem_of_getElem? (i := 388) (by decide +kernel)) (by decide +kernel)
theorem hc_X4_45 : Cond.classLink RX4 45 "Milletcourt$Chronicle" ∈ GW := zGWin (List.mem_of_getElem? (i := 389) (by decide +kernel)) (by decide +kernel)
theorem hl_X4_47 : Cond.methodLink RX4 47 yX0_init ∈ GW := zGWin (List.mem_of_getElem? (i := 390) (by decide +kernel)) (by decide +kernel)
theorem hl_L_126 : Cond.methodLink RL 126 yX7_all ∈ GW := zGWin (List.mem_of_getElem? (i := 435) (by decide +kernel)) (by decide +kernel)
theorem hl_L_63 : Cond.methodLink RL 63 yX7_pass ∈ GW := zGWin (List.mem_of_getElem? (i := 439) (by decide +kernel)) (by decide +kernel)
theorem hl_X7_102 : Cond.methodLink RX7 102 yX7_needWithin ∈ GW := zGWin (List.mem_of_getElem? (i := 443) (by decide +kernel)) (by decide +kernel)
theorem hl_X7_390 : Cond.methodLink RX7 390 yX7_takeFaithsDue ∈ GW := zGWin (List.mem_of_getElem? (i := 448) (by decide +kernel)) (by decide +kernel)
theorem hl_X7_195 : Cond.methodLink RX7 195 yX4_endTurning ∈ GW := zGWin (List.mem_of_getElem? (i := 452) (by decide +kernel)) (by decide +kernel)
theorem hl_X7_417 : Cond.methodLink RX7 417 yX7_takeByTurning ∈ GW := zGWin (List.mem_of_getElem? (i := 456) (by decide +kernel)) (by decide +kernel)
theorem hl_X7_424 : Cond.methodLink RX7 424 yX0_goesBackBy ∈ GW := zGWin (List.mem_of_getElem? (i := 460) (by decide +kernel)) (by decide +kernel)
theorem hl_X7_427 : Cond.methodLink RX7 427 yX0_newestDay ∈ GW := zGWin (List.mem_of_getElem? (i := 464) (by decide +kernel)) (by decide +kernel)
theorem hl_X7_430 : Cond.methodLink RX7 430 yX0_dropNewest ∈ GW := zGWin (List.mem_of_getElem? (i := 468) (by decide +kernel)) (by decide +kernel)
theorem hl_X7_91 : Cond.methodLink RX7 91 yX0_tell ∈ GW := zGWin (List.mem_of_getElem? (i := 472) (by decide +kernel)) (by decide +kernel)
theorem hl_X0_20 : Cond.methodLink RX0 20 yX0_makeRoom ∈ GW := zGWin (List.mem_of_getElem? (i := 476) (by decide +kernel)) (by decide +kernel)
theorem hl_X0_23 : Cond.methodLink RX0 23 yJ7_copyOf_59c91 ∈ GW := zGWin (List.mem_of_getElem? (i := 480) (by decide +kernel)) (by decide +kernel)
theorem hl_J7_316 : Cond.methodLink RJ7 316 ⟨"[I", "clone", "()Ljava/lang/Object;"⟩ ∈ GW := zGWin (List.mem_of_getElem? (i := 483) (by decide +kernel)) (by decide +kernel)
theorem hc_J7_317 : Cond.classLink RJ7 317 "[I" ∈ GW := zGWin (List.mem_of_getElem? (i := 489) (by decide +kernel)) (by decide +kernel)
theorem hl_X7_421 : Cond.methodLink RX7 421 yX7_leadChildren ∈ GW := zGWin (List.mem_of_getElem? (i := 490) (by decide +kernel)) (by decide +kernel)
theorem hl_X7_436 : Cond.methodLink RX7 436 yX4_leader ∈ GW := zGWin (List.mem_of_getElem? (i := 494) (by decide +kernel)) (by decide +kernel)
theorem hl_X7_440 : Cond.methodLink RX7 440 yX4_isMinorOn ∈ GW := zGWin (List.mem_of_getElem? (i := 498) (by decide +kernel)) (by decide +kernel)
theorem hl_L_132 : Cond.methodLink RL 132 yL_cell ∈ GW := zGWin (List.mem_of_getElem? (i := 502) (by decide +kernel)) (by decide +kernel)
theorem hl_L_115 : Cond.methodLink RL 115 yL_low ∈ GW := zGWin (List.mem_of_getElem? (i := 505) (by decide +kernel)) (by decide +kernel)
theorem hk_L_7 : Cond.constant RL 7 (2147483647 : Int32) ∈ GW := zGWin (List.mem_of_getElem? (i := 508) (by decide +kernel)) (by decide +kernel)
theorem hl_L_136 : Cond.methodLink RL 136 yL_act ∈ GW := zGWin (List.mem_of_getElem? (i := 509) (by decide +kernel)) (by decide +kernel)
theorem hl_L_118 : Cond.methodLink RL 118 yL_does ∈ GW := zGWin (List.mem_of_getElem? (i := 512) (by decide +kernel)) (by decide +kernel)
theorem hc_L_67 : Cond.classLink RL 67 "java/lang/IndexOutOfBoundsException" ∈ GW := zGWin (List.mem_of_getElem? (i := 515) (by decide +kernel)) (by decide +kernel)
theorem hc_L_71 : Cond.classLink RL 71 "java/lang/IllegalArgumentException" ∈ GW := zGWin (List.mem_of_getElem? (i := 516) (by decide +kernel)) (by decide +kernel)
theorem hc_L_73 : Cond.classLink RL 73 "java/lang/IllegalStateException" ∈ GW := zGWin (List.mem_of_getElem? (i := 517) (by decide +kernel)) (by decide +kernel)
theorem hl_L_8 : Cond.methodLink RL 8 yL_early ∈ GW := zGWin (List.mem_of_getElem? (i := 518) (by decide +kernel)) (by decide +kernel)
theorem hl_L_79 : Cond.methodLink RL 79 yX7_recognise ∈ GW := zGWin (List.mem_of_getElem? (i := 521) (by decide +kernel)) (by decide +kernel)
