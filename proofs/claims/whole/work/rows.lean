section
-- ===== PART A: goes FIRST, ahead of the names: the tables' words, and 'selects' of the private methods out of them =====
/-- a private method of a class that the tables say can be made, by its rows of tables_1 -/
def lw_okq (q : MethodName × Nat) : Prop := (q.1.cls ≠ "java/lang/invoke/MethodHandle" ∧ q.1.cls ≠ "java/lang/invoke/VarHandle") ∧ Cond.instantiable q.1.cls q.2 ∈ tables_1 ∧ Cond.privateMethod q.1 ∈ tables_1 ∧ Cond.instanceMethod q.1 ∈ tables_1
theorem lw_p0 : lw_okq (⟨"java/lang/Throwable", "fillInStackTrace", "(I)Ljava/lang/Throwable;"⟩, 6) := ⟨⟨by decide +kernel, by decide +kernel⟩, List.mem_of_getElem? (i := 201) (by decide +kernel), List.mem_of_getElem? (i := 199) (by decide +kernel), List.mem_of_getElem? (i := 200) (by decide +kernel)⟩
theorem lw_p1 : lw_okq (⟨"java/util/ArrayList", "add", "(Ljava/lang/Object;[Ljava/lang/Object;I)V"⟩, 3) := ⟨⟨by decide +kernel, by decide +kernel⟩, List.mem_of_getElem? (i := 68) (by decide +kernel), List.mem_of_getElem? (i := 254) (by decide +kernel), List.mem_of_getElem? (i := 255) (by decide +kernel)⟩
theorem lw_p2 : lw_okq (⟨"java/util/ArrayList", "grow", "()[Ljava/lang/Object;"⟩, 3) := ⟨⟨by decide +kernel, by decide +kernel⟩, List.mem_of_getElem? (i := 68) (by decide +kernel), List.mem_of_getElem? (i := 258) (by decide +kernel), List.mem_of_getElem? (i := 259) (by decide +kernel)⟩
theorem lw_p3 : lw_okq (⟨"java/util/ArrayList", "grow", "(I)[Ljava/lang/Object;"⟩, 3) := ⟨⟨by decide +kernel, by decide +kernel⟩, List.mem_of_getElem? (i := 68) (by decide +kernel), List.mem_of_getElem? (i := 262) (by decide +kernel), List.mem_of_getElem? (i := 263) (by decide +kernel)⟩
theorem lw_p4 : lw_okq (⟨"Milletcourt", "communityAt", "(I)LMilletcourt$Community;"⟩, 10) := ⟨⟨by decide +kernel, by decide +kernel⟩, List.mem_of_getElem? (i := 26) (by decide +kernel), List.mem_of_getElem? (i := 318) (by decide +kernel), List.mem_of_getElem? (i := 319) (by decide +kernel)⟩
theorem lw_p5 : lw_okq (⟨"Milletcourt$Chronicle", "makeRoom", "()V"⟩, 3) := ⟨⟨by decide +kernel, by decide +kernel⟩, List.mem_of_getElem? (i := 46) (by decide +kernel), List.mem_of_getElem? (i := 346) (by decide +kernel), List.mem_of_getElem? (i := 347) (by decide +kernel)⟩
theorem lw_p6 : lw_okq (⟨"Milletcourt", "lawAt", "(I)LMilletcourt$Law;"⟩, 10) := ⟨⟨by decide +kernel, by decide +kernel⟩, List.mem_of_getElem? (i := 26) (by decide +kernel), List.mem_of_getElem? (i := 368) (by decide +kernel), List.mem_of_getElem? (i := 369) (by decide +kernel)⟩
theorem lw_p7 : lw_okq (⟨"Milletcourt", "personAt", "(I)LMilletcourt$Person;"⟩, 10) := ⟨⟨by decide +kernel, by decide +kernel⟩, List.mem_of_getElem? (i := 26) (by decide +kernel), List.mem_of_getElem? (i := 427) (by decide +kernel), List.mem_of_getElem? (i := 428) (by decide +kernel)⟩
theorem lw_p8 : lw_okq (⟨"Milletcourt", "courtOf", "(ILMilletcourt$Person;LMilletcourt$Person;I)I"⟩, 10) := ⟨⟨by decide +kernel, by decide +kernel⟩, List.mem_of_getElem? (i := 26) (by decide +kernel), List.mem_of_getElem? (i := 433) (by decide +kernel), List.mem_of_getElem? (i := 434) (by decide +kernel)⟩
theorem lw_p9 : lw_okq (⟨"Milletcourt", "personOrNullAt", "(I)LMilletcourt$Person;"⟩, 10) := ⟨⟨by decide +kernel, by decide +kernel⟩, List.mem_of_getElem? (i := 26) (by decide +kernel), List.mem_of_getElem? (i := 448) (by decide +kernel), List.mem_of_getElem? (i := 449) (by decide +kernel)⟩
theorem lw_p10 : lw_okq (⟨"Milletcourt", "canWitnessTurn", "(LMilletcourt$Person;I)Z"⟩, 10) := ⟨⟨by decide +kernel, by decide +kernel⟩, List.mem_of_getElem? (i := 26) (by decide +kernel), List.mem_of_getElem? (i := 536) (by decide +kernel), List.mem_of_getElem? (i := 537) (by decide +kernel)⟩
theorem lw_p11 : lw_okq (⟨"Milletcourt", "mayMarry", "(LMilletcourt$Person;LMilletcourt$Person;LMilletcourt$Law;)Z"⟩, 10) := ⟨⟨by decide +kernel, by decide +kernel⟩, List.mem_of_getElem? (i := 26) (by decide +kernel), List.mem_of_getElem? (i := 570) (by decide +kernel), List.mem_of_getElem? (i := 571) (by decide +kernel)⟩
theorem lw_p12 : lw_okq (⟨"Milletcourt", "howManyLast", "(LMilletcourt$Person;)I"⟩, 10) := ⟨⟨by decide +kernel, by decide +kernel⟩, List.mem_of_getElem? (i := 26) (by decide +kernel), List.mem_of_getElem? (i := 574) (by decide +kernel), List.mem_of_getElem? (i := 575) (by decide +kernel)⟩
theorem lw_p13 : lw_okq (⟨"Milletcourt", "marriageAt", "(I)LMilletcourt$Marriage;"⟩, 10) := ⟨⟨by decide +kernel, by decide +kernel⟩, List.mem_of_getElem? (i := 26) (by decide +kernel), List.mem_of_getElem? (i := 626) (by decide +kernel), List.mem_of_getElem? (i := 627) (by decide +kernel)⟩
theorem lw_p14 : lw_okq (⟨"Milletcourt", "endMarriagesOf", "(LMilletcourt$Person;)Ljava/util/ArrayList;"⟩, 10) := ⟨⟨by decide +kernel, by decide +kernel⟩, List.mem_of_getElem? (i := 26) (by decide +kernel), List.mem_of_getElem? (i := 661) (by decide +kernel), List.mem_of_getElem? (i := 662) (by decide +kernel)⟩
theorem lw_p15 : lw_okq (⟨"Milletcourt", "livingChildrenOf", "(LMilletcourt$Person;)Ljava/util/ArrayList;"⟩, 10) := ⟨⟨by decide +kernel, by decide +kernel⟩, List.mem_of_getElem? (i := 26) (by decide +kernel), List.mem_of_getElem? (i := 665) (by decide +kernel), List.mem_of_getElem? (i := 666) (by decide +kernel)⟩
def lw_privs_1 : List (MethodName × Nat) := [(⟨"java/lang/Throwable", "fillInStackTrace", "(I)Ljava/lang/Throwable;"⟩, 6), (⟨"java/util/ArrayList", "add", "(Ljava/lang/Object;[Ljava/lang/Object;I)V"⟩, 3), (⟨"java/util/ArrayList", "grow", "()[Ljava/lang/Object;"⟩, 3), (⟨"java/util/ArrayList", "grow", "(I)[Ljava/lang/Object;"⟩, 3), (⟨"Milletcourt", "communityAt", "(I)LMilletcourt$Community;"⟩, 10), (⟨"Milletcourt$Chronicle", "makeRoom", "()V"⟩, 3), (⟨"Milletcourt", "lawAt", "(I)LMilletcourt$Law;"⟩, 10), (⟨"Milletcourt", "personAt", "(I)LMilletcourt$Person;"⟩, 10), (⟨"Milletcourt", "courtOf", "(ILMilletcourt$Person;LMilletcourt$Person;I)I"⟩, 10), (⟨"Milletcourt", "personOrNullAt", "(I)LMilletcourt$Person;"⟩, 10), (⟨"Milletcourt", "canWitnessTurn", "(LMilletcourt$Person;I)Z"⟩, 10), (⟨"Milletcourt", "mayMarry", "(LMilletcourt$Person;LMilletcourt$Person;LMilletcourt$Law;)Z"⟩, 10), (⟨"Milletcourt", "howManyLast", "(LMilletcourt$Person;)I"⟩, 10), (⟨"Milletcourt", "marriageAt", "(I)LMilletcourt$Marriage;"⟩, 10), (⟨"Milletcourt", "endMarriagesOf", "(LMilletcourt$Person;)Ljava/util/ArrayList;"⟩, 10), (⟨"Milletcourt", "livingChildrenOf", "(LMilletcourt$Person;)Ljava/util/ArrayList;"⟩, 10)]
theorem lw_r1 : ∀ q ∈ lw_privs_1, lw_okq q := List.forall_mem_cons.mpr ⟨lw_p0, List.forall_mem_cons.mpr ⟨lw_p1, List.forall_mem_cons.mpr ⟨lw_p2, List.forall_mem_cons.mpr ⟨lw_p3, List.forall_mem_cons.mpr ⟨lw_p4, List.forall_mem_cons.mpr ⟨lw_p5, List.forall_mem_cons.mpr ⟨lw_p6, List.forall_mem_cons.mpr ⟨lw_p7, List.forall_mem_cons.mpr ⟨lw_p8, List.forall_mem_cons.mpr ⟨lw_p9, List.forall_mem_cons.mpr ⟨lw_p10, List.forall_mem_cons.mpr ⟨lw_p11, List.forall_mem_cons.mpr ⟨lw_p12, List.forall_mem_cons.mpr ⟨lw_p13, List.forall_mem_cons.mpr ⟨lw_p14, List.forall_mem_cons.mpr ⟨lw_p15, fun _ h => absurd h List.not_mem_nil⟩⟩⟩⟩⟩⟩⟩⟩⟩⟩⟩⟩⟩⟩⟩⟩
theorem lw_p16 : lw_okq (⟨"java/util/ArrayList", "fastRemove", "([Ljava/lang/Object;I)V"⟩, 3) := ⟨⟨by decide +kernel, by decide +kernel⟩, List.mem_of_getElem? (i := 68) (by decide +kernel), List.mem_of_getElem? (i := 680) (by decide +kernel), List.mem_of_getElem? (i := 681) (by decide +kernel)⟩
theorem lw_p17 : lw_okq (⟨"Milletcourt", "leaveEstate", "(LMilletcourt$Person;Ljava/util/ArrayList;Ljava/util/ArrayList;LMilletcourt$Law;)J"⟩, 10) := ⟨⟨by decide +kernel, by decide +kernel⟩, List.mem_of_getElem? (i := 26) (by decide +kernel), List.mem_of_getElem? (i := 685) (by decide +kernel), List.mem_of_getElem? (i := 686) (by decide +kernel)⟩
theorem lw_p18 : lw_okq (⟨"Milletcourt", "isSeisedBetween", "(LMilletcourt$Person;LMilletcourt$Person;)Z"⟩, 10) := ⟨⟨by decide +kernel, by decide +kernel⟩, List.mem_of_getElem? (i := 26) (by decide +kernel), List.mem_of_getElem? (i := 763) (by decide +kernel), List.mem_of_getElem? (i := 764) (by decide +kernel)⟩
theorem lw_p19 : lw_okq (⟨"Milletcourt", "suitAt", "(I)LMilletcourt$Suit;"⟩, 10) := ⟨⟨by decide +kernel, by decide +kernel⟩, List.mem_of_getElem? (i := 26) (by decide +kernel), List.mem_of_getElem? (i := 778) (by decide +kernel), List.mem_of_getElem? (i := 779) (by decide +kernel)⟩
theorem lw_p20 : lw_okq (⟨"Milletcourt", "isWonBefore", "(LMilletcourt$Suit;LMilletcourt$Law;)Z"⟩, 10) := ⟨⟨by decide +kernel, by decide +kernel⟩, List.mem_of_getElem? (i := 26) (by decide +kernel), List.mem_of_getElem? (i := 827) (by decide +kernel), List.mem_of_getElem? (i := 828) (by decide +kernel)⟩
theorem lw_p21 : lw_okq (⟨"Milletcourt", "lowestThatLasts", "(LMilletcourt$Person;)I"⟩, 10) := ⟨⟨by decide +kernel, by decide +kernel⟩, List.mem_of_getElem? (i := 26) (by decide +kernel), List.mem_of_getElem? (i := 878) (by decide +kernel), List.mem_of_getElem? (i := 879) (by decide +kernel)⟩
theorem lw_p22 : lw_okq (⟨"Milletcourt", "howManyChildrenLive", "(LMilletcourt$Person;)I"⟩, 10) := ⟨⟨by decide +kernel, by decide +kernel⟩, List.mem_of_getElem? (i := 26) (by decide +kernel), List.mem_of_getElem? (i := 882) (by decide +kernel), List.mem_of_getElem? (i := 883) (by decide +kernel)⟩
theorem lw_p23 : lw_okq (⟨"Milletcourt", "takeFaithsDue", "()V"⟩, 10) := ⟨⟨by decide +kernel, by decide +kernel⟩, List.mem_of_getElem? (i := 26) (by decide +kernel), List.mem_of_getElem? (i := 909) (by decide +kernel), List.mem_of_getElem? (i := 910) (by decide +kernel)⟩
theorem lw_p24 : lw_okq (⟨"Milletcourt", "takeByTurning", "(LMilletcourt$Person;I)V"⟩, 10) := ⟨⟨by decide +kernel, by decide +kernel⟩, List.mem_of_getElem? (i := 26) (by decide +kernel), List.mem_of_getElem? (i := 913) (by decide +kernel), List.mem_of_getElem? (i := 914) (by decide +kernel)⟩
theorem lw_p25 : lw_okq (⟨"Milletcourt", "leadChildren", "(LMilletcourt$Person;I)V"⟩, 10) := ⟨⟨by decide +kernel, by decide +kernel⟩, List.mem_of_getElem? (i := 26) (by decide +kernel), List.mem_of_getElem? (i := 929) (by decide +kernel), List.mem_of_getElem? (i := 930) (by decide +kernel)⟩
theorem lw_p26 : lw_okq (⟨"MilletcourtModel", "holds", "(I)Z"⟩, 48) := ⟨⟨by decide +kernel, by decide +kernel⟩, List.mem_of_getElem? (i := 938) (by decide +kernel), List.mem_of_getElem? (i := 1100) (by decide +kernel), List.mem_of_getElem? (i := 1101) (by decide +kernel)⟩
theorem lw_p27 : lw_okq (⟨"MilletcourtModel", "recognises", "(IZ)V"⟩, 48) := ⟨⟨by decide +kernel, by decide +kernel⟩, List.mem_of_getElem? (i := 938) (by decide +kernel), List.mem_of_getElem? (i := 1104) (by decide +kernel), List.mem_of_getElem? (i := 1105) (by decide +kernel)⟩
theorem lw_p28 : lw_okq (⟨"MilletcourtModel", "isCommunity", "(I)Z"⟩, 48) := ⟨⟨by decide +kernel, by decide +kernel⟩, List.mem_of_getElem? (i := 938) (by decide +kernel), List.mem_of_getElem? (i := 1112) (by decide +kernel), List.mem_of_getElem? (i := 1113) (by decide +kernel)⟩
theorem lw_p29 : lw_okq (⟨"MilletcourtModel", "isRecognised", "(II)Z"⟩, 48) := ⟨⟨by decide +kernel, by decide +kernel⟩, List.mem_of_getElem? (i := 938) (by decide +kernel), List.mem_of_getElem? (i := 1119) (by decide +kernel), List.mem_of_getElem? (i := 1120) (by decide +kernel)⟩
theorem lw_p30 : lw_okq (⟨"MilletcourtModel", "isCourt", "(I)Z"⟩, 48) := ⟨⟨by decide +kernel, by decide +kernel⟩, List.mem_of_getElem? (i := 938) (by decide +kernel), List.mem_of_getElem? (i := 1130) (by decide +kernel), List.mem_of_getElem? (i := 1131) (by decide +kernel)⟩
theorem lw_p31 : lw_okq (⟨"MilletcourtModel", "lawOf", "(III)I"⟩, 48) := ⟨⟨by decide +kernel, by decide +kernel⟩, List.mem_of_getElem? (i := 938) (by decide +kernel), List.mem_of_getElem? (i := 1134) (by decide +kernel), List.mem_of_getElem? (i := 1135) (by decide +kernel)⟩
def lw_privs_2 : List (MethodName × Nat) := [(⟨"java/util/ArrayList", "fastRemove", "([Ljava/lang/Object;I)V"⟩, 3), (⟨"Milletcourt", "leaveEstate", "(LMilletcourt$Person;Ljava/util/ArrayList;Ljava/util/ArrayList;LMilletcourt$Law;)J"⟩, 10), (⟨"Milletcourt", "isSeisedBetween", "(LMilletcourt$Person;LMilletcourt$Person;)Z"⟩, 10), (⟨"Milletcourt", "suitAt", "(I)LMilletcourt$Suit;"⟩, 10), (⟨"Milletcourt", "isWonBefore", "(LMilletcourt$Suit;LMilletcourt$Law;)Z"⟩, 10), (⟨"Milletcourt", "lowestThatLasts", "(LMilletcourt$Person;)I"⟩, 10), (⟨"Milletcourt", "howManyChildrenLive", "(LMilletcourt$Person;)I"⟩, 10), (⟨"Milletcourt", "takeFaithsDue", "()V"⟩, 10), (⟨"Milletcourt", "takeByTurning", "(LMilletcourt$Person;I)V"⟩, 10), (⟨"Milletcourt", "leadChildren", "(LMilletcourt$Person;I)V"⟩, 10), (⟨"MilletcourtModel", "holds", "(I)Z"⟩, 48), (⟨"MilletcourtModel", "recognises", "(IZ)V"⟩, 48), (⟨"MilletcourtModel", "isCommunity", "(I)Z"⟩, 48), (⟨"MilletcourtModel", "isRecognised", "(II)Z"⟩, 48), (⟨"MilletcourtModel", "isCourt", "(I)Z"⟩, 48), (⟨"MilletcourtModel", "lawOf", "(III)I"⟩, 48)]
theorem lw_r2 : ∀ q ∈ lw_privs_2, lw_okq q := List.forall_mem_cons.mpr ⟨lw_p16, List.forall_mem_cons.mpr ⟨lw_p17, List.forall_mem_cons.mpr ⟨lw_p18, List.forall_mem_cons.mpr ⟨lw_p19, List.forall_mem_cons.mpr ⟨lw_p20, List.forall_mem_cons.mpr ⟨lw_p21, List.forall_mem_cons.mpr ⟨lw_p22, List.forall_mem_cons.mpr ⟨lw_p23, List.forall_mem_cons.mpr ⟨lw_p24, List.forall_mem_cons.mpr ⟨lw_p25, List.forall_mem_cons.mpr ⟨lw_p26, List.forall_mem_cons.mpr ⟨lw_p27, List.forall_mem_cons.mpr ⟨lw_p28, List.forall_mem_cons.mpr ⟨lw_p29, List.forall_mem_cons.mpr ⟨lw_p30, List.forall_mem_cons.mpr ⟨lw_p31, fun _ h => absurd h List.not_mem_nil⟩⟩⟩⟩⟩⟩⟩⟩⟩⟩⟩⟩⟩⟩⟩⟩
theorem lw_p32 : lw_okq (⟨"MilletcourtModel", "ruleOn", "(II)I"⟩, 48) := ⟨⟨by decide +kernel, by decide +kernel⟩, List.mem_of_getElem? (i := 938) (by decide +kernel), List.mem_of_getElem? (i := 1142) (by decide +kernel), List.mem_of_getElem? (i := 1143) (by decide +kernel)⟩
theorem lw_p33 : lw_okq (⟨"MilletcourtModel", "isPerson", "(I)Z"⟩, 48) := ⟨⟨by decide +kernel, by decide +kernel⟩, List.mem_of_getElem? (i := 938) (by decide +kernel), List.mem_of_getElem? (i := 1154) (by decide +kernel), List.mem_of_getElem? (i := 1155) (by decide +kernel)⟩
theorem lw_p34 : lw_okq (⟨"MilletcourtModel", "courtOn", "(IIII)I"⟩, 48) := ⟨⟨by decide +kernel, by decide +kernel⟩, List.mem_of_getElem? (i := 938) (by decide +kernel), List.mem_of_getElem? (i := 1158) (by decide +kernel), List.mem_of_getElem? (i := 1159) (by decide +kernel)⟩
theorem lw_p35 : lw_okq (⟨"MilletcourtModel", "faithOn", "(II)I"⟩, 48) := ⟨⟨by decide +kernel, by decide +kernel⟩, List.mem_of_getElem? (i := 938) (by decide +kernel), List.mem_of_getElem? (i := 1162) (by decide +kernel), List.mem_of_getElem? (i := 1163) (by decide +kernel)⟩
theorem lw_p36 : lw_okq (⟨"MilletcourtModel", "takes", "(II)V"⟩, 48) := ⟨⟨by decide +kernel, by decide +kernel⟩, List.mem_of_getElem? (i := 938) (by decide +kernel), List.mem_of_getElem? (i := 1170) (by decide +kernel), List.mem_of_getElem? (i := 1171) (by decide +kernel)⟩
theorem lw_p37 : lw_okq (⟨"MilletcourtModel", "isGrown", "(I)Z"⟩, 48) := ⟨⟨by decide +kernel, by decide +kernel⟩, List.mem_of_getElem? (i := 938) (by decide +kernel), List.mem_of_getElem? (i := 1178) (by decide +kernel), List.mem_of_getElem? (i := 1179) (by decide +kernel)⟩
theorem lw_p38 : lw_okq (⟨"MilletcourtModel", "isMinor", "(I)Z"⟩, 48) := ⟨⟨by decide +kernel, by decide +kernel⟩, List.mem_of_getElem? (i := 938) (by decide +kernel), List.mem_of_getElem? (i := 1182) (by decide +kernel), List.mem_of_getElem? (i := 1183) (by decide +kernel)⟩
theorem lw_p39 : lw_okq (⟨"MilletcourtModel", "canWitness", "(II)Z"⟩, 48) := ⟨⟨by decide +kernel, by decide +kernel⟩, List.mem_of_getElem? (i := 938) (by decide +kernel), List.mem_of_getElem? (i := 1186) (by decide +kernel), List.mem_of_getElem? (i := 1187) (by decide +kernel)⟩
theorem lw_p40 : lw_okq (⟨"MilletcourtModel", "stays", "(I)V"⟩, 48) := ⟨⟨by decide +kernel, by decide +kernel⟩, List.mem_of_getElem? (i := 938) (by decide +kernel), List.mem_of_getElem? (i := 1194) (by decide +kernel), List.mem_of_getElem? (i := 1195) (by decide +kernel)⟩
theorem lw_p41 : lw_okq (⟨"MilletcourtModel", "canMarry", "(II)Z"⟩, 48) := ⟨⟨by decide +kernel, by decide +kernel⟩, List.mem_of_getElem? (i := 938) (by decide +kernel), List.mem_of_getElem? (i := 1207) (by decide +kernel), List.mem_of_getElem? (i := 1208) (by decide +kernel)⟩
theorem lw_p42 : lw_okq (⟨"MilletcourtModel", "lasting", "(I)I"⟩, 48) := ⟨⟨by decide +kernel, by decide +kernel⟩, List.mem_of_getElem? (i := 938) (by decide +kernel), List.mem_of_getElem? (i := 1211) (by decide +kernel), List.mem_of_getElem? (i := 1212) (by decide +kernel)⟩
theorem lw_p43 : lw_okq (⟨"MilletcourtModel", "isMarriage", "(I)Z"⟩, 48) := ⟨⟨by decide +kernel, by decide +kernel⟩, List.mem_of_getElem? (i := 938) (by decide +kernel), List.mem_of_getElem? (i := 1219) (by decide +kernel), List.mem_of_getElem? (i := 1220) (by decide +kernel)⟩
theorem lw_p44 : lw_okq (⟨"MilletcourtModel", "paysDower", "(I)V"⟩, 48) := ⟨⟨by decide +kernel, by decide +kernel⟩, List.mem_of_getElem? (i := 938) (by decide +kernel), List.mem_of_getElem? (i := 1223) (by decide +kernel), List.mem_of_getElem? (i := 1224) (by decide +kernel)⟩
theorem lw_p45 : lw_okq (⟨"MilletcourtModel", "findsWidows", "(IZ)V"⟩, 48) := ⟨⟨by decide +kernel, by decide +kernel⟩, List.mem_of_getElem? (i := 938) (by decide +kernel), List.mem_of_getElem? (i := 1235) (by decide +kernel), List.mem_of_getElem? (i := 1236) (by decide +kernel)⟩
theorem lw_p46 : lw_okq (⟨"MilletcourtModel", "isBarred", "(IIZ)Z"⟩, 48) := ⟨⟨by decide +kernel, by decide +kernel⟩, List.mem_of_getElem? (i := 938) (by decide +kernel), List.mem_of_getElem? (i := 1239) (by decide +kernel), List.mem_of_getElem? (i := 1240) (by decide +kernel)⟩
theorem lw_p47 : lw_okq (⟨"MilletcourtModel", "units", "(I)I"⟩, 48) := ⟨⟨by decide +kernel, by decide +kernel⟩, List.mem_of_getElem? (i := 938) (by decide +kernel), List.mem_of_getElem? (i := 1243) (by decide +kernel), List.mem_of_getElem? (i := 1244) (by decide +kernel)⟩
def lw_privs_3 : List (MethodName × Nat) := [(⟨"MilletcourtModel", "ruleOn", "(II)I"⟩, 48), (⟨"MilletcourtModel", "isPerson", "(I)Z"⟩, 48), (⟨"MilletcourtModel", "courtOn", "(IIII)I"⟩, 48), (⟨"MilletcourtModel", "faithOn", "(II)I"⟩, 48), (⟨"MilletcourtModel", "takes", "(II)V"⟩, 48), (⟨"MilletcourtModel", "isGrown", "(I)Z"⟩, 48), (⟨"MilletcourtModel", "isMinor", "(I)Z"⟩, 48), (⟨"MilletcourtModel", "canWitness", "(II)Z"⟩, 48), (⟨"MilletcourtModel", "stays", "(I)V"⟩, 48), (⟨"MilletcourtModel", "canMarry", "(II)Z"⟩, 48), (⟨"MilletcourtModel", "lasting", "(I)I"⟩, 48), (⟨"MilletcourtModel", "isMarriage", "(I)Z"⟩, 48), (⟨"MilletcourtModel", "paysDower", "(I)V"⟩, 48), (⟨"MilletcourtModel", "findsWidows", "(IZ)V"⟩, 48), (⟨"MilletcourtModel", "isBarred", "(IIZ)Z"⟩, 48), (⟨"MilletcourtModel", "units", "(I)I"⟩, 48)]
theorem lw_r3 : ∀ q ∈ lw_privs_3, lw_okq q := List.forall_mem_cons.mpr ⟨lw_p32, List.forall_mem_cons.mpr ⟨lw_p33, List.forall_mem_cons.mpr ⟨lw_p34, List.forall_mem_cons.mpr ⟨lw_p35, List.forall_mem_cons.mpr ⟨lw_p36, List.forall_mem_cons.mpr ⟨lw_p37, List.forall_mem_cons.mpr ⟨lw_p38, List.forall_mem_cons.mpr ⟨lw_p39, List.forall_mem_cons.mpr ⟨lw_p40, List.forall_mem_cons.mpr ⟨lw_p41, List.forall_mem_cons.mpr ⟨lw_p42, List.forall_mem_cons.mpr ⟨lw_p43, List.forall_mem_cons.mpr ⟨lw_p44, List.forall_mem_cons.mpr ⟨lw_p45, List.forall_mem_cons.mpr ⟨lw_p46, List.forall_mem_cons.mpr ⟨lw_p47, fun _ h => absurd h List.not_mem_nil⟩⟩⟩⟩⟩⟩⟩⟩⟩⟩⟩⟩⟩⟩⟩⟩
theorem lw_p48 : lw_okq (⟨"MilletcourtModel", "gives", "(JI)V"⟩, 48) := ⟨⟨by decide +kernel, by decide +kernel⟩, List.mem_of_getElem? (i := 938) (by decide +kernel), List.mem_of_getElem? (i := 1248) (by decide +kernel), List.mem_of_getElem? (i := 1249) (by decide +kernel)⟩
theorem lw_p49 : lw_okq (⟨"MilletcourtModel", "isChild", "(II)Z"⟩, 48) := ⟨⟨by decide +kernel, by decide +kernel⟩, List.mem_of_getElem? (i := 938) (by decide +kernel), List.mem_of_getElem? (i := 1252) (by decide +kernel), List.mem_of_getElem? (i := 1253) (by decide +kernel)⟩
theorem lw_p50 : lw_okq (⟨"MilletcourtModel", "lowestThatGets", "()I"⟩, 48) := ⟨⟨by decide +kernel, by decide +kernel⟩, List.mem_of_getElem? (i := 938) (by decide +kernel), List.mem_of_getElem? (i := 1256) (by decide +kernel), List.mem_of_getElem? (i := 1257) (by decide +kernel)⟩
theorem lw_p51 : lw_okq (⟨"MilletcourtModel", "isSuit", "(I)Z"⟩, 48) := ⟨⟨by decide +kernel, by decide +kernel⟩, List.mem_of_getElem? (i := 938) (by decide +kernel), List.mem_of_getElem? (i := 1268) (by decide +kernel), List.mem_of_getElem? (i := 1269) (by decide +kernel)⟩
theorem lw_p52 : lw_okq (⟨"MilletcourtModel", "canJudge", "(I)Z"⟩, 48) := ⟨⟨by decide +kernel, by decide +kernel⟩, List.mem_of_getElem? (i := 938) (by decide +kernel), List.mem_of_getElem? (i := 1272) (by decide +kernel), List.mem_of_getElem? (i := 1273) (by decide +kernel)⟩
theorem lw_p53 : lw_okq (⟨"MilletcourtModel", "canTestify", "(II)Z"⟩, 48) := ⟨⟨by decide +kernel, by decide +kernel⟩, List.mem_of_getElem? (i := 938) (by decide +kernel), List.mem_of_getElem? (i := 1280) (by decide +kernel), List.mem_of_getElem? (i := 1281) (by decide +kernel)⟩
theorem lw_p54 : lw_okq (⟨"MilletcourtModel", "heard", "(I)I"⟩, 48) := ⟨⟨by decide +kernel, by decide +kernel⟩, List.mem_of_getElem? (i := 938) (by decide +kernel), List.mem_of_getElem? (i := 1284) (by decide +kernel), List.mem_of_getElem? (i := 1285) (by decide +kernel)⟩
theorem lw_p55 : lw_okq (⟨"MilletcourtModel", "isWonAt", "(II)Z"⟩, 48) := ⟨⟨by decide +kernel, by decide +kernel⟩, List.mem_of_getElem? (i := 938) (by decide +kernel), List.mem_of_getElem? (i := 1292) (by decide +kernel), List.mem_of_getElem? (i := 1293) (by decide +kernel)⟩
theorem lw_p56 : lw_okq (⟨"MilletcourtModel", "canAppeal", "(I)Z"⟩, 48) := ⟨⟨by decide +kernel, by decide +kernel⟩, List.mem_of_getElem? (i := 938) (by decide +kernel), List.mem_of_getElem? (i := 1300) (by decide +kernel), List.mem_of_getElem? (i := 1301) (by decide +kernel)⟩
theorem lw_p57 : lw_okq (⟨"MilletcourtModel", "goesBack", "(I)V"⟩, 48) := ⟨⟨by decide +kernel, by decide +kernel⟩, List.mem_of_getElem? (i := 938) (by decide +kernel), List.mem_of_getElem? (i := 1304) (by decide +kernel), List.mem_of_getElem? (i := 1305) (by decide +kernel)⟩
theorem lw_p58 : lw_okq (⟨"MilletcourtModel", "bothLive", "(I)Z"⟩, 48) := ⟨⟨by decide +kernel, by decide +kernel⟩, List.mem_of_getElem? (i := 938) (by decide +kernel), List.mem_of_getElem? (i := 1308) (by decide +kernel), List.mem_of_getElem? (i := 1309) (by decide +kernel)⟩
theorem lw_p59 : lw_okq (⟨"MilletcourtModel", "lowestMarriage", "(I)I"⟩, 48) := ⟨⟨by decide +kernel, by decide +kernel⟩, List.mem_of_getElem? (i := 938) (by decide +kernel), List.mem_of_getElem? (i := 1324) (by decide +kernel), List.mem_of_getElem? (i := 1325) (by decide +kernel)⟩
theorem lw_p60 : lw_okq (⟨"MilletcourtModel", "children", "(I)I"⟩, 48) := ⟨⟨by decide +kernel, by decide +kernel⟩, List.mem_of_getElem? (i := 938) (by decide +kernel), List.mem_of_getElem? (i := 1328) (by decide +kernel), List.mem_of_getElem? (i := 1329) (by decide +kernel)⟩
theorem lw_p61 : lw_okq (⟨"MilletcourtModel", "turns", "(I)V"⟩, 48) := ⟨⟨by decide +kernel, by decide +kernel⟩, List.mem_of_getElem? (i := 938) (by decide +kernel), List.mem_of_getElem? (i := 1352) (by decide +kernel), List.mem_of_getElem? (i := 1353) (by decide +kernel)⟩
theorem lw_p62 : lw_okq (⟨"MilletcourtModel", "follows", "(II)Z"⟩, 48) := ⟨⟨by decide +kernel, by decide +kernel⟩, List.mem_of_getElem? (i := 938) (by decide +kernel), List.mem_of_getElem? (i := 1356) (by decide +kernel), List.mem_of_getElem? (i := 1357) (by decide +kernel)⟩
def lw_privs_4 : List (MethodName × Nat) := [(⟨"MilletcourtModel", "gives", "(JI)V"⟩, 48), (⟨"MilletcourtModel", "isChild", "(II)Z"⟩, 48), (⟨"MilletcourtModel", "lowestThatGets", "()I"⟩, 48), (⟨"MilletcourtModel", "isSuit", "(I)Z"⟩, 48), (⟨"MilletcourtModel", "canJudge", "(I)Z"⟩, 48), (⟨"MilletcourtModel", "canTestify", "(II)Z"⟩, 48), (⟨"MilletcourtModel", "heard", "(I)I"⟩, 48), (⟨"MilletcourtModel", "isWonAt", "(II)Z"⟩, 48), (⟨"MilletcourtModel", "canAppeal", "(I)Z"⟩, 48), (⟨"MilletcourtModel", "goesBack", "(I)V"⟩, 48), (⟨"MilletcourtModel", "bothLive", "(I)Z"⟩, 48), (⟨"MilletcourtModel", "lowestMarriage", "(I)I"⟩, 48), (⟨"MilletcourtModel", "children", "(I)I"⟩, 48), (⟨"MilletcourtModel", "turns", "(I)V"⟩, 48), (⟨"MilletcourtModel", "follows", "(II)Z"⟩, 48)]
theorem lw_r4 : ∀ q ∈ lw_privs_4, lw_okq q := List.forall_mem_cons.mpr ⟨lw_p48, List.forall_mem_cons.mpr ⟨lw_p49, List.forall_mem_cons.mpr ⟨lw_p50, List.forall_mem_cons.mpr ⟨lw_p51, List.forall_mem_cons.mpr ⟨lw_p52, List.forall_mem_cons.mpr ⟨lw_p53, List.forall_mem_cons.mpr ⟨lw_p54, List.forall_mem_cons.mpr ⟨lw_p55, List.forall_mem_cons.mpr ⟨lw_p56, List.forall_mem_cons.mpr ⟨lw_p57, List.forall_mem_cons.mpr ⟨lw_p58, List.forall_mem_cons.mpr ⟨lw_p59, List.forall_mem_cons.mpr ⟨lw_p60, List.forall_mem_cons.mpr ⟨lw_p61, List.forall_mem_cons.mpr ⟨lw_p62, fun _ h => absurd h List.not_mem_nil⟩⟩⟩⟩⟩⟩⟩⟩⟩⟩⟩⟩⟩⟩⟩
def lw_privs : List (MethodName × Nat) := lw_privs_1 ++ (lw_privs_2 ++ (lw_privs_3 ++ (lw_privs_4)))
def lw_tbl : List Cond := k2_sels lw_privs ++ tables_1
theorem lw_privs_ok : ∀ q ∈ lw_privs, lw_okq q := by
  show ∀ q ∈ lw_privs_1 ++ (lw_privs_2 ++ (lw_privs_3 ++ (lw_privs_4))), lw_okq q
  exact List.forall_mem_append.mpr ⟨lw_r1, List.forall_mem_append.mpr ⟨lw_r2, List.forall_mem_append.mpr ⟨lw_r3, lw_r4⟩⟩⟩
-- ===== end of PART A; then your names; then what follows =====
end
section
/-! ===== BEGIN words of one list among another's, by their places ===== -/
theorem goodIn_r {big : List Cond} (ws : List Cond) (ps : List Nat) (hp : ws = ps.filterMap (fun i => big[i]?)) (h : ws.all goodWord = true) : GoodIn big ws := by
  intro w hw
  have h1 := List.all_eq_true.mp h w hw
  rw [hp] at hw
  obtain ⟨i, -, hi⟩ := List.mem_filterMap.mp hw
  have hm : w ∈ big := by first | exact List.mem_of_getElem? hi | exact List.getElem?_mem hi
  exact ⟨hm, good_of_word h1⟩
theorem goodIn_app {big a b : List Cond} (ha : GoodIn big a) (hb : GoodIn big b) : GoodIn big (a ++ b) := fun w h => (List.mem_append.mp h).elim (ha w) (hb w)
theorem goodIn_ca {big a b : List Cond} {c : Cond} (ha : GoodIn big (c :: a)) (hb : GoodIn big b) : GoodIn big (c :: (a ++ b)) := fun w h => (List.mem_cons.mp h).elim (fun e => ha w (List.mem_cons.mpr (Or.inl e))) (fun h => (List.mem_append.mp h).elim (fun h => ha w (List.mem_cons.mpr (Or.inr h))) (hb w))
theorem goodIn_sub {big ws : List Cond} (hm : ∀ w ∈ ws, w ∈ big) (h : ws.all goodWord = true) : GoodIn big ws := fun w hw => ⟨hm w hw, good_of_word (List.all_eq_true.mp h w hw)⟩
/-! ===== END ===== -/

/-! ===== BEGIN exceptions that leave a method, and their catching by the caller (launches without stack traces) ===== -/
section VXA
/-! The laws vx_back, vx_callV, vx_callS, vx_callSW, vx_throw0, vx_throwS follow proofs of the library, with one case more: JvmDerived/Free/Laws.lean (Back.of_free), Shelf42/LK1.lean (callV, callS), Shelf/KitTraced.lean (throwNew0V, throwNewS). -/
/-- where a method has thrown q: the class by its name, the cell, what was written, the world -/
def vx_T (XC : String → State → State → Prop) (st : State) (q : Addr) (t : State) (mc ms : Nat) (free : Addr → Prop) : Prop :=
  ∃ (E : String) (ce : Cell) (L : List Loc), XC E st t ∧ t.heap[q]? = some ce ∧ ce.vm = .none ∧ st.vm.findClass E = some ce.cls ∧ st.WarmedH t.vm ∧ st.sameButNew ({ t with vm := st.vm } : State) L mc ms ∧ ∀ z ∈ L, free z.base
def vx_Q (Qc : Array Value → State → Outcome → State → Prop) (XC : String → State → State → Prop) (mc ms : Nat) (free : Addr → Prop) : Array Value → State → Outcome → State → Prop := fun a st o t =>
  (Qc a st o t ∧ ∃ L, FrameEnd st o t L mc ms ∧ ∀ q ∈ L, free q.base) ∨ ∃ q, o = .threw q ∧ vx_T XC st q t mc ms free
/-- a callee that returns or throws -/
def vx_Met (l : Launch) (y : MethodName) (ws : List Cond) (rm : Room) (Pc : Array Value → State → Prop) (Qc : Array Value → State → Outcome → State → Prop) (XC : String → State → State → Prop) (mc ms : Nat) (free : Addr → Prop) : Prop :=
  MetFree l y (headSpec ws rm) Pc (fun _ _ _ _ _ => True) (vx_Q Qc XC mc ms free)
def vx_Post (XC : String → State → State → Prop) (mc ms : Nat) (free : Addr → Prop) : Pt → Array Value → Addr → Pt → Prop := fun A a q B =>
  ∃ (g : JFrame) (mk : MethodId) (t : State) (L : List Loc) (E : String) (ce : Cell), B.U.heap = t.heap ∧ B.U.vm = t.vm ∧ XC E (A.U.calling g mk a) t ∧ t.heap[q]? = some ce ∧ ce.vm = .none ∧ A.U.vm.findClass E = some ce.cls ∧ B.locs = A.locs ++ L ∧ (∀ z ∈ L, free z.base) ∧ B.cells = A.cells + mc ∧ B.slots = A.slots + ms
def vx_Back (l : Launch) (R : Room) (p : Program) (e : Env) (below : List Frame) (s : State) (sargs : Array Value) (y : MethodName) (len W9 : Nat)
    (Pre : Pt → Array Value → Prop) (Post : Pt → Array Value → Option Value → Pt → Prop) (PostX : Pt → Array Value → Addr → Pt → Prop) : Prop :=
  ∀ (m : MethodId) (meth : Method) (c : Code) (A : Pt) (g : JFrame) (ig : Instr) (mk : MethodId) (a : Array Value),
    Stand p l e R s m sargs below meth c A.U A.locs A.cells A.slots → g.method = m → g.locals.size = c.maxLocals → decode c.code g.pc = .ok (ig, len) →
    2 * g.monitorRoom + (g.stack.map fun v => v.category).sum ≤ W9 → A.U.methodNamed? y = some mk → Pre A a →
    (∃ (v : Option Value) (B : Pt), Stand p l e R s m sargs below meth c B.U B.locs B.cells B.slots ∧ Post A a v B ∧
      Steps p.tables e below (doInvoke e (A.U.setTop g) [] mk a).1 (B.U.setTop { g with pc := g.pc + len, stack := v.toList ++ g.stack })) ∨
    (∃ (q : Addr) (B : Pt), Stand p l e R s m sargs below meth c B.U B.locs B.cells B.slots ∧ PostX A a q B ∧
      Steps p.tables e below (doInvoke e (A.U.setTop g) [] mk a).1 ((B.U.setTop g).pushFrame (.throwing q)))
section Payer
variable {l : Launch} {R : Room} {p : Program} {e : Env} {below : List Frame} {s : State} {sargs : Array Value} {y : MethodName} {len W9 : Nat}
theorem vx_back {ws : List Cond} {rm : Room} {Pc : Array Value → State → Prop} {Qc : Array Value → State → Outcome → State → Prop} {XC : String → State → State → Prop} {mc ms : Nat} {free : Addr → Prop} {bytes : ByteArray} {maxL : Nat} {ret : Option FieldType}
    (hM : vx_Met l y ws rm Pc Qc XC mc ms free) (hblind : FrameBlind Pc) (hrc : rm.cells = mc) (hrs : rm.slots = ms)
    (hframes : rm.frames + 1 ≤ R.frames) (hlocals : W9 + (maxL + 11) + rm.locals ≤ R.locals)
    (hws : ∀ w ∈ ws, ∀ a' U, s.WarmedH U.vm → w.before a' U = true) (hcode : Cond.code y bytes maxL ret ∈ ws) (hinit : ∀ a' U, s.WarmedH U.vm → (Cond.initialized y.cls).before a' U = true) :
    vx_Back l R p e below s sargs y len W9 (PreOf R mc ms Pc) (PostOf Qc mc ms free) (vx_Post XC mc ms free) := by
  intro m meth c A g ig mk a X hg hsize hdg hW hn hp
  have h1 : (headSpec ws rm).pre.before a A.U = true := atoms_intro fun w hw => hws w hw _ _ X.warmed
  have h2 : (Cond.code y bytes maxL ret).before a A.U = true := hws _ hcode _ _ X.warmed
  have h3 : (Cond.initialized y.cls).before a A.U = true := hinit _ _ X.warmed
  have h4 : A.cells + (headSpec ws rm).room.cells ≤ R.cells := by rw [show (headSpec ws rm).room.cells = mc from hrc]; exact hp.1
  have h5 : A.slots + (headSpec ws rm).room.slots ≤ R.slots := by rw [show (headSpec ws rm).room.slots = ms from hrs]; exact hp.2.1
  have hPc : Pc a (A.U.calling g mk a) := hblind _ _ _ _ hp.2.2
  obtain ⟨U, Ls, c0, s0⟩ := A
  dsimp only [Pt.U, Pt.locs, Pt.cells, Pt.slots] at h1 h2 h3 h4 h5 X hn hPc ⊢
  obtain ⟨methY, cY, hmY, hcY, -, hlY, -, -, -, -⟩ := Cond.code_spec hn h2
  obtain ⟨kY, hkY, -⟩ := className_of_methodNamed hn
  have hinitY : kY.init = .initialized := Cond.initialized_spec (findClass_of_methodNamed hn) hkY h3
  have h : At U g.method c below := by rw [hg]; exact X.here
  have hlocals9 : W9 + (maxL + 11) + (headSpec ws rm).room.locals ≤ R.locals := hlocals
  have happ : (headSpec ws rm).appliesLoose y e.platform (U.calling g mk a) = true :=
    Spec.appliesLoose_calling (g := g) h hdg hn hkY hinitY
      (X.room_calling (g := g) (R' := (headSpec ws rm).room) hsize hmY hcY hframes (by rw [hlY]; omega) h4 h5) h1
  obtain ⟨mid, hmid⟩ := h.above
  have hfr : (U.setTop g).frames = (.java g :: mid) ++ below := by rw [State.frames_setTop' g h.top, hmid]; rfl
  obtain ⟨o, s₂, hsteps, -, hend, hq⟩ := Steps.callFree hM p X.admits X.cas X.clock (acts := []) hfr happ hPc trivial
  have hq' : vx_Q Qc XC mc ms free a (U.calling g mk a) o s₂ := hq
  rw [State.frames_setTop' g h.top] at hend
  obtain ⟨g₀, hg0⟩ := Option.isSome_iff_exists.mp h.top
  obtain ⟨r, hr⟩ := State.topJava?_eq_some.mp hg0
  have hr' : (({ U with heap := s₂.heap, slotsUsed := s₂.slotsUsed } : State).setVm s₂.vm).frames = .java g₀ :: r := hr
  rcases hq' with ⟨hqc, L, hfe, hL⟩ | ⟨q, rfl, E, ce, L, hx, hce, hcv, hcl, hW₂, hsm, hL⟩
  · obtain ⟨⟨v, rfl⟩, hW₂, e2, q2, q3, q4, q5, q6⟩ := id hfe
    have e3 : s₂ = ({ (U.calling g mk a).setFrames s₂.frames with heap := s₂.heap, slotsUsed := s₂.slotsUsed } : State).setVm s₂.vm := by
      have : s₂ = ({ s₂ with vm := (U.calling g mk a).vm } : State).setVm s₂.vm := rfl
      rw [e2] at this
      exact this
    obtain ⟨c₂, i₂, len₂, hc₂, hd₂, hf₂⟩ := hend
    have hW' : U.WarmedH s₂.vm := hW₂
    have hcc : c₂ = c := by
      have h1 : s₂.code? g.method = U.code? g.method := by
        rw [State.code?_eq, State.code?_eq, hW'.alike.method?]
      exact Option.some.inj (hc₂.symm.trans (h1.trans h.code))
    subst hcc
    have hlen : len₂ = len := by rw [hdg] at hd₂; cases hd₂; rfl
    subst hlen
    have hs₂ : s₂ = (({ U with heap := s₂.heap, slotsUsed := s₂.slotsUsed } : State).setVm s₂.vm).setTop { g with pc := g.pc + len₂, stack := v.toList ++ g.stack } := by
      refine e3.trans ?_
      rw [hf₂, State.calling_eq h.top, State.setFrames_setFrames, State.setTop_of_frames _ hr', hr]
      rfl
    have hsame : U.sameButNew ({ U with heap := s₂.heap, slotsUsed := s₂.slotsUsed } : State) L mc ms := by
      refine ⟨?_, q2, q3, q4, q5, q6⟩
      obtain ⟨t, ht, -⟩ := State.frames_cons hr
      show ({ U with heap := s₂.heap, slotsUsed := s₂.slotsUsed } : State) = { U.setFrames U.frames with heap := s₂.heap, slotsUsed := s₂.slotsUsed }
      rw [State.setFrames_self ht]
    subst hg
    refine Or.inl ⟨v, ⟨(({ U with heap := s₂.heap, slotsUsed := s₂.slotsUsed } : State).setVm s₂.vm), Ls ++ L, c0 + mc, s0 + ms⟩,
      ⟨X.admits, X.cas, X.clock, X.frames, X.room, X.hears, X.method, X.code, (X.here.setHeapUsed s₂.heap s₂.slotsUsed).setVm hW'.alike, X.tail, State.WarmedH.trans X.warmed hW', X.limits, X.bytes, X.same.trans (hsame.setVm s.vm)⟩,
      ⟨g, mk, s₂, L, rfl, rfl, hqc, rfl, hL, rfl, rfl⟩, ?_⟩
    show Steps p.tables e below _ ((({ U with heap := s₂.heap, slotsUsed := s₂.slotsUsed } : State).setVm s₂.vm).setTop { g with pc := g.pc + len₂, stack := v.toList ++ g.stack })
    rw [← hs₂]
    exact hsteps
  · obtain ⟨e2, q2, q3, q4, q5, q6⟩ := id hsm
    have e3 : s₂ = ({ (U.calling g mk a).setFrames s₂.frames with heap := s₂.heap, slotsUsed := s₂.slotsUsed } : State).setVm s₂.vm := by
      have : s₂ = ({ s₂ with vm := (U.calling g mk a).vm } : State).setVm s₂.vm := rfl
      rw [e2] at this
      exact this
    have hf₂ : s₂.frames = .throwing q :: .java g :: U.frames.tail := hend
    have hW' : U.WarmedH s₂.vm := hW₂
    have hs₂ : s₂ = ((({ U with heap := s₂.heap, slotsUsed := s₂.slotsUsed } : State).setVm s₂.vm).setTop g).pushFrame (.throwing q) := by
      refine e3.trans ?_
      rw [hf₂, State.calling_eq h.top, State.setFrames_setFrames, State.pushFrame, State.frames_setTop _ hr', State.setTop_of_frames _ hr', State.setFrames_setFrames, hr]
      rfl
    have hsame : U.sameButNew ({ U with heap := s₂.heap, slotsUsed := s₂.slotsUsed } : State) L mc ms := by
      refine ⟨?_, q2, q3, q4, q5, q6⟩
      obtain ⟨t, ht, -⟩ := State.frames_cons hr
      show ({ U with heap := s₂.heap, slotsUsed := s₂.slotsUsed } : State) = { U.setFrames U.frames with heap := s₂.heap, slotsUsed := s₂.slotsUsed }
      rw [State.setFrames_self ht]
    subst hg
    refine Or.inr ⟨q, ⟨(({ U with heap := s₂.heap, slotsUsed := s₂.slotsUsed } : State).setVm s₂.vm), Ls ++ L, c0 + mc, s0 + ms⟩,
      ⟨X.admits, X.cas, X.clock, X.frames, X.room, X.hears, X.method, X.code, (X.here.setHeapUsed s₂.heap s₂.slotsUsed).setVm hW'.alike, X.tail, State.WarmedH.trans X.warmed hW', X.limits, X.bytes, X.same.trans (hsame.setVm s.vm)⟩,
      ⟨g, mk, s₂, L, E, ce, rfl, rfl, hx, hce, hcv, hcl, rfl, hL, rfl, rfl⟩, ?_⟩
    show Steps p.tables e below _ (((({ U with heap := s₂.heap, slotsUsed := s₂.slotsUsed } : State).setVm s₂.vm).setTop g).pushFrame (.throwing q))
    rw [← hs₂]
    exact hsteps
end Payer
section Calls
variable {p : Program} {l : Launch} {e : Env} {R : Room} {s : State} {m : MethodId} {args : Array Value} {below : List Frame} {meth : Method} {c : Code} {T : State} {locs : List Loc} {cells slots : Nat}
theorem vx_callV (X : Stand p l e R s m args below meth c T locs cells slots) (hexec : p.tables.exec = Jvm.exec) {own C : String} {index : Nat} {y : MethodName} {bytes : ByteArray} {maxL : Nat} {ret : Option FieldType}
    (hown : s.vm.findClass own = some m.cls) (hlink : (Cond.methodLink own index y).before args s = true) (hinst : (Cond.instanceMethod y).before args s = true) (hsel : (Cond.selects C y y).before args s = true)
    (hcode : (Cond.code y bytes maxL ret).before args s = true) (hy : y.cls ≠ "java/lang/invoke/MethodHandle" ∧ y.cls ≠ "java/lang/invoke/VarHandle")
    {W9 : Nat} {Pre : Pt → Array Value → Prop} {Post : Pt → Array Value → Option Value → Pt → Prop} {PostX : Pt → Array Value → Addr → Pt → Prop} (hK : vx_Back l R p e below s args y 3 W9 Pre Post PostX)
    {b : Addr} {cellB : Cell} (hcell : T.heap[b]? = some cellB) (hobj : cellB.vm.isStatics = false) (hcls : s.vm.findClass C = some cellB.cls)
    {g : JFrame} (hg : g.method = m) (hsize : g.locals.size = c.maxLocals) {argsL rest : List Value} (hlen : ∀ sig, parseMethodDescriptor y.desc = some sig → argsL.length = sig.parameters.length)
    (hstack : g.stack = argsL.reverse ++ .ref b :: rest) (hW : 2 * g.monitorRoom + (rest.map fun v => v.category).sum ≤ W9) (hdg : decode c.code g.pc = .ok (.invokevirtual index, 3))
    (hpre : ∀ vm₁, s.WarmedH vm₁ → Pre ⟨T.setVm vm₁, locs, cells, slots⟩ (Value.ref b :: argsL).toArray) :
    (∃ (v : Option Value) (vm₁ : Vm) (B : Pt), s.WarmedH vm₁ ∧ Stand p l e R s m args below meth c B.U B.locs B.cells B.slots ∧ Post ⟨T.setVm vm₁, locs, cells, slots⟩ (Value.ref b :: argsL).toArray v B ∧
      ∀ target, Steps p.tables e below (B.U.setTop { g with pc := g.pc + 3, stack := v.toList ++ rest }) target → Steps p.tables e below (T.setTop g) target) ∨
    (∃ (q : Addr) (vm₁ : Vm) (B : Pt), s.WarmedH vm₁ ∧ Stand p l e R s m args below meth c B.U B.locs B.cells B.slots ∧ PostX ⟨T.setVm vm₁, locs, cells, slots⟩ (Value.ref b :: argsL).toArray q B ∧
      Steps p.tables e below (T.setTop g) ((B.U.setTop { g with stack := rest }).pushFrame (.throwing q))) := by
  obtain ⟨mk, methM, hnamed, hmethM, hstM, habM⟩ := Cond.instanceMethod_spec hinst
  obtain ⟨methM', cM, hmethM', -, -, -, -, -, -, hsigM⟩ := Cond.code_spec hnamed hcode
  cases hmethM.symm.trans hmethM'
  obtain ⟨c2, r2, m2, q1, q2, q3, q4, kP, hkP, hkPi⟩ := Cond.selects_spec hsel
  cases hcls.symm.trans q1
  cases (State.methodFound?_of_named hnamed hy).symm.trans q2
  cases hnamed.symm.trans q3
  have hselP : selectMethod e.platform s.vm cellB.cls mk = .method mk := by rw [Launch.admits_selectMethod X.admits]; exact q4
  obtain ⟨vm₁, X₁, hstep₁⟩ := X.invokevirtual hexec hown hlink hnamed hmethM hstM hkP hkPi hy (a := b) (cell := cellB) hcell
    (fun z h => by rw [h] at hobj; cases hobj) hselP hmethM habM hkP hkPi (g := g) hg (argsL := argsL) (rest := rest) (hlen _ hsigM) hstack hdg
  rcases hK m meth c ⟨T.setVm vm₁, locs, cells, slots⟩ { g with stack := rest } (.invokevirtual index) mk (Value.ref b :: argsL).toArray X₁ hg hsize hdg hW (X₁.named hnamed) (hpre vm₁ X₁.warmed) with ⟨v, B, X', hpost, hsteps⟩ | ⟨q, B, X', hpost, hsteps⟩
  · exact Or.inl ⟨v, vm₁, B, X₁.warmed, X', hpost, fun target h => hstep₁ _ fun acts => by rw [doInvoke_state]; exact hsteps.trans h⟩
  · exact Or.inr ⟨q, vm₁, B, X₁.warmed, X', hpost, hstep₁ _ fun acts => by rw [doInvoke_state]; exact hsteps⟩
theorem vx_callS (X : Stand p l e R s m args below meth c T locs cells slots) (hexec : p.tables.exec = Jvm.exec) {own : String} {index : Nat} {y : MethodName} {bytes : ByteArray} {maxL : Nat} {ret : Option FieldType}
    (hown : s.vm.findClass own = some m.cls) (hlink : (Cond.methodLink own index y).before args s = true) (hstat : (Cond.static y).before args s = true) (hinit : (Cond.initialized y.cls).before args s = true)
    (hcode : (Cond.code y bytes maxL ret).before args s = true) (hy : y.cls ≠ "java/lang/invoke/MethodHandle" ∧ y.cls ≠ "java/lang/invoke/VarHandle")
    {W9 : Nat} {Pre : Pt → Array Value → Prop} {Post : Pt → Array Value → Option Value → Pt → Prop} {PostX : Pt → Array Value → Addr → Pt → Prop} (hK : vx_Back l R p e below s args y 3 W9 Pre Post PostX)
    {g : JFrame} (hg : g.method = m) (hsize : g.locals.size = c.maxLocals) {argsL rest : List Value} (hlen : ∀ sig, parseMethodDescriptor y.desc = some sig → argsL.length = sig.parameters.length)
    (hstack : g.stack = argsL.reverse ++ rest) (hW : 2 * g.monitorRoom + (rest.map fun v => v.category).sum ≤ W9) (hdg : decode c.code g.pc = .ok (.invokestatic index, 3))
    (hpre : ∀ vm₁, s.WarmedH vm₁ → Pre ⟨T.setVm vm₁, locs, cells, slots⟩ argsL.toArray) :
    (∃ (v : Option Value) (vm₁ : Vm) (B : Pt), s.WarmedH vm₁ ∧ Stand p l e R s m args below meth c B.U B.locs B.cells B.slots ∧ Post ⟨T.setVm vm₁, locs, cells, slots⟩ argsL.toArray v B ∧
      ∀ target, Steps p.tables e below (B.U.setTop { g with pc := g.pc + 3, stack := v.toList ++ rest }) target → Steps p.tables e below (T.setTop g) target) ∨
    (∃ (q : Addr) (vm₁ : Vm) (B : Pt), s.WarmedH vm₁ ∧ Stand p l e R s m args below meth c B.U B.locs B.cells B.slots ∧ PostX ⟨T.setVm vm₁, locs, cells, slots⟩ argsL.toArray q B ∧
      Steps p.tables e below (T.setTop g) ((B.U.setTop { g with stack := rest }).pushFrame (.throwing q))) := by
  obtain ⟨mk, hnamed⟩ := Cond.code_named hcode
  obtain ⟨methM, cM, hmethM, -, -, -, -, -, -, hsigM⟩ := Cond.code_spec hnamed hcode
  have hstatic : methM.isStatic = true := Cond.static_spec hnamed hmethM hstat
  obtain ⟨kP, hkP, -⟩ := className_of_methodNamed hnamed
  have hinitP : kP.init = .initialized := Cond.initialized_spec (findClass_of_methodNamed hnamed) hkP hinit
  obtain ⟨vm₁, X₁, hstep₁⟩ := X.invokestatic hexec hown hlink hnamed hmethM hstatic hkP hinitP hy (g := g) hg (argsL := argsL) (rest := rest) (hlen _ hsigM) hstack hdg
  rcases hK m meth c ⟨T.setVm vm₁, locs, cells, slots⟩ { g with stack := rest } (.invokestatic index) mk argsL.toArray X₁ hg hsize hdg hW (X₁.named hnamed) (hpre vm₁ X₁.warmed) with ⟨v, B, X', hpost, hsteps⟩ | ⟨q, B, X', hpost, hsteps⟩
  · exact Or.inl ⟨v, vm₁, B, X₁.warmed, X', hpost, fun target h => hstep₁ _ fun acts => by rw [doInvoke_state]; exact hsteps.trans h⟩
  · exact Or.inr ⟨q, vm₁, B, X₁.warmed, X', hpost, hstep₁ _ fun acts => by rw [doInvoke_state]; exact hsteps⟩
end Calls
theorem vx_cls {s : State} {T : State} {vm₁ : Vm} {E : String} {k : ClassId} (hW : s.WarmedH vm₁) (h : (T.setVm vm₁).vm.findClass E = some k) : s.vm.findClass E = some k := by
  have h1 : vm₁.findClass E = some k := h
  rw [hW.alike.findClass] at h1
  exact h1
/-- the method's frame g, with q thrown over it -/
def vx_W (p : Program) (l : Launch) (e : Env) (R : Room) (s : State) (m : MethodId) (args : Array Value) (below : List Frame) (meth : Method) (c : Code) (H : Heap) (locs : List Loc) (cells slots : Nat) (Q : State → Prop) (g : JFrame) (q : Addr) : Prop :=
  ∀ T : State, T.heap = H → Stand p l e R s m args below meth c T locs cells slots → ∃ t, Steps p.tables e below ((T.setTop g).pushFrame (.throwing q)) t ∧ Q t
def vx_Run (p : Program) (l : Launch) (e : Env) (R : Room) (s : State) (m : MethodId) (args : Array Value) (below : List Frame) (meth : Method) (c : Code) (H : Heap) (locs : List Loc) (cells slots mc ms : Nat) (g : JFrame) (rest : List Value) (Qa : State → Outcome → State → Prop) (XC : String → State → State → Prop) (free : Addr → Prop) : Prop :=
  ∀ T : State, T.heap = H → Stand p l e R s m args below meth c T locs cells slots →
    (∃ (v : Option Value) (st₀ t T' : State) (L : List Loc), st₀.heap = H ∧ Stand p l e R s m args below meth c T' (locs ++ L) (cells + mc) (slots + ms) ∧ (∀ q ∈ L, free q.base) ∧ T'.heap = t.heap ∧ T'.vm = t.vm ∧ Qa st₀ (.returned v) t ∧
      Goes p e below T g T' { g with pc := g.pc + 3, stack := v.toList ++ rest }) ∨
    (∃ (q : Addr) (st₀ t T' : State) (L : List Loc) (E : String) (ce : Cell), st₀.heap = H ∧ Stand p l e R s m args below meth c T' (locs ++ L) (cells + mc) (slots + ms) ∧ (∀ z ∈ L, free z.base) ∧ T'.heap = t.heap ∧ T'.vm = t.vm ∧ XC E st₀ t ∧ t.heap[q]? = some ce ∧ ce.vm = .none ∧ s.vm.findClass E = some ce.cls ∧
      Steps p.tables e below (T.setTop g) ((T'.setTop { g with stack := rest }).pushFrame (.throwing q)))
def vx_X {S : Type} (px : S → Prop) (B : String → S → State → Prop) (A : Nat → Prop) : String → State → State → Prop := fun E st t => ∃ u : S, px u ∧ B E u t ∧ va_F A st t
section Runs
variable {p : Program} {l : Launch} {e : Env} {R : Room} {s : State} {m : MethodId} {args : Array Value} {below : List Frame} {meth : Method} {c : Code} {H : Heap} {locs : List Loc} {cells slots : Nat}
variable {y : MethodName} {bytes cc : ByteArray} {maxL nL mc ms n index : Nat} {ret : Option FieldType} {ws : List Cond} {rm : Room} {Pc : Array Value → State → Prop} {Qc : Array Value → State → Outcome → State → Prop} {XC : String → State → State → Prop} {free : Addr → Prop} {Ts : List Cond} {own C : String} {b : Addr} {As rest : List Value} {g : JFrame}
theorem vx_callBack (cb : CallB R s args own index y bytes maxL ret ws rm mc ms n) (hM : vx_Met l y ws rm Pc Qc XC mc ms free) (hbl : FrameBlind Pc) : vx_Back l R p e below s args y 3 8 (PreOf R mc ms Pc) (PostOf Qc mc ms free) (vx_Post XC mc ms free) := by
  obtain ⟨hrc, hrs, hfr, hlo, hws, hcw, -, hini, -⟩ := cb
  exact vx_back (bytes := bytes) (maxL := maxL) (ret := ret) hM hbl hrc hrs hfr hlo hws hcw (fun a' U hW => word_at hW (Or.inl (by first | rfl | simp [Cond.onTables, Cond.keeps, Cond.steady])) hini)
theorem vx_runV (S : CallFix p m c cc nL s args Ts own) (hM : vx_Met l y ws rm Pc Qc XC mc ms free) (cw : CallW R s args own C index y bytes maxL ret ws rm mc ms n) (hp : PreV s H C b Pc As)
    (hg : g.method = m) (hn : As.length = n) (hsize : g.locals.size = nL) (hstack : g.stack = As.reverse ++ .ref b :: rest) (hW : 2 * g.monitorRoom + (rest.map fun v => v.category).sum ≤ 8) (hdg : decode cc g.pc = .ok (.invokevirtual index, 3)) (hf : cells + mc ≤ R.cells ∧ slots + ms ≤ R.slots) :
    vx_Run p l e R s m args below meth c H locs cells slots mc ms g rest (Qc (Value.ref b :: As).toArray) XC free := by
  have hK : vx_Back l R p e below s args y 3 8 (PreOf R mc ms Pc) (PostOf Qc mc ms free) (vx_Post XC mc ms free) := vx_callBack cw.1 hM hp.1
  obtain ⟨⟨-, -, -, -, -, -, hcode, -, hy, hlen, hl⟩, hin, hse⟩ := cw
  obtain ⟨hx, hb, hml, ho, -⟩ := S
  obtain ⟨-, ⟨cellB, hcB, hoB, hclB⟩, hPc⟩ := hp
  intro T hT X
  rcases vx_callV X hx (C := C) (bytes := bytes) (maxL := maxL) (ret := ret) ho hl hin hse hcode hy hK (by rw [hT]; exact hcB) hoB hclB hg (hsize.trans hml.symm) (argsL := As) (rest := rest) (fun sig h => hn.trans (hlen sig h)) hstack hW (by rw [hb]; exact hdg)
    (fun vm₁ hW₁ => ⟨hf.1, hf.2, hPc (T.setVm vm₁) hT hW₁⟩) with ⟨v, vm₁, ⟨U', l2, c2, s2⟩, hW₁, X', ⟨g', mk, t, L, e1, e2, hq, h1, hL, h2, h3⟩, st⟩ | ⟨q, vm₁, ⟨U', l2, c2, s2⟩, hW₁, X', ⟨g', mk, t, L, E, ce, e1, e2, hq, hce, hcv, hcl, h1, hL, h2, h3⟩, st⟩
  · dsimp only [Pt.U, Pt.locs, Pt.cells, Pt.slots] at X' e1 e2 h1 h2 h3 st
    subst h1; subst h2; subst h3
    exact Or.inl ⟨v, (T.setVm vm₁).calling g' mk (Value.ref b :: As).toArray, t, U', L, hT, X', hL, e1, e2, hq, st⟩
  · dsimp only [Pt.U, Pt.locs, Pt.cells, Pt.slots] at X' e1 e2 h1 h2 h3 st hcl
    subst h1; subst h2; subst h3
    exact Or.inr ⟨q, (T.setVm vm₁).calling g' mk (Value.ref b :: As).toArray, t, U', L, E, ce, hT, X', hL, e1, e2, hq, hce, hcv, vx_cls hW₁ hcl, st⟩
theorem vx_runS (S : CallFix p m c cc nL s args Ts own) (hM : vx_Met l y ws rm Pc Qc XC mc ms free) (cw : CallB R s args own index y bytes maxL ret ws rm mc ms n ∧ (Cond.static y).before args s = true) (hp : PreS s H Pc As)
    (hg : g.method = m) (hn : As.length = n) (hsize : g.locals.size = nL) (hstack : g.stack = As.reverse ++ rest) (hW : 2 * g.monitorRoom + (rest.map fun v => v.category).sum ≤ 8) (hdg : decode cc g.pc = .ok (.invokestatic index, 3)) (hf : cells + mc ≤ R.cells ∧ slots + ms ≤ R.slots) :
    vx_Run p l e R s m args below meth c H locs cells slots mc ms g rest (Qc As.toArray) XC free := by
  have hK : vx_Back l R p e below s args y 3 8 (PreOf R mc ms Pc) (PostOf Qc mc ms free) (vx_Post XC mc ms free) := vx_callBack cw.1 hM hp.1
  obtain ⟨⟨-, -, -, -, -, -, hcode, hini, hy, hlen, hl⟩, hstt⟩ := cw
  obtain ⟨hx, hb, hml, ho, -⟩ := S
  intro T hT X
  rcases vx_callS X hx (bytes := bytes) (maxL := maxL) (ret := ret) ho hl hstt hini hcode hy hK hg (hsize.trans hml.symm) (argsL := As) (rest := rest) (fun sig h => hn.trans (hlen sig h)) hstack hW (by rw [hb]; exact hdg)
    (fun vm₁ hW₁ => ⟨hf.1, hf.2, hp.2 (T.setVm vm₁) hT hW₁⟩) with ⟨v, vm₁, ⟨U', l2, c2, s2⟩, hW₁, X', ⟨g', mk, t, L, e1, e2, hq, h1, hL, h2, h3⟩, st⟩ | ⟨q, vm₁, ⟨U', l2, c2, s2⟩, hW₁, X', ⟨g', mk, t, L, E, ce, e1, e2, hq, hce, hcv, hcl, h1, hL, h2, h3⟩, st⟩
  · dsimp only [Pt.U, Pt.locs, Pt.cells, Pt.slots] at X' e1 e2 h1 h2 h3 st
    subst h1; subst h2; subst h3
    exact Or.inl ⟨v, (T.setVm vm₁).calling g' mk As.toArray, t, U', L, hT, X', hL, e1, e2, hq, st⟩
  · dsimp only [Pt.U, Pt.locs, Pt.cells, Pt.slots] at X' e1 e2 h1 h2 h3 st hcl
    subst h1; subst h2; subst h3
    exact Or.inr ⟨q, (T.setVm vm₁).calling g' mk As.toArray, t, U', L, E, ce, hT, X', hL, e1, e2, hq, hce, hcv, vx_cls hW₁ hcl, st⟩
end Runs
section Rows
variable {p : Program} {l : Launch} {e : Env} {R : Room} {s : State} {m : MethodId} {args : Array Value} {below : List Frame} {meth : Method} {c : Code} {H : Heap} {locs : List Loc} {cells slots : Nat} {Q : State → Prop}
variable {mc ms : Nat} {free : Addr → Prop} {A0 A1 : Nat → Prop} {H0 : Heap} {a : Array Value} {pc : Nat} {ls : Array Slot} {st0 rest : List Value}
theorem vx_keep {st₀ t T' : State} {L : List Loc} (h0 : st₀.heap = H) (e1 : T'.heap = t.heap) (hS : va_S A0 H0 H locs) (hA : ∀ q, q < H.size → A1 q → A0 q) (hf : ∀ q, free q → A0 q) (hL : ∀ q ∈ L, free q.base) (hF : va_F A1 st₀ t) :
    H.size ≤ T'.heap.size ∧ (∀ q : Nat, q < H.size → ¬ A1 q → T'.heap[q]? = H[q]?) ∧ va_S A0 H0 T'.heap (locs ++ L) := by
  obtain ⟨hz, hk⟩ := hF
  rw [h0] at hz hk
  exact ⟨by rw [e1]; exact hz, fun q h1 h2 => by rw [e1]; exact hk q h1 h2,
    ⟨Nat.le_trans hS.1 (by rw [e1]; exact hz), fun q h1 h2 => by rw [e1, hk q (Nat.lt_of_lt_of_le h1 hS.1) (fun z => h2 (hA q (Nat.lt_of_lt_of_le h1 hS.1) z))]; exact hS.2.1 q h1 h2, fun q hq => by
      rcases List.mem_append.mp hq with h | h
      · exact hS.2.2 q h
      · exact hf _ (hL q h)⟩⟩
theorem vx_calli {S SX : Type} {post : Int32 → S → Prop} {px : SX → Prop} {B : S → State → Prop} {BX : String → SX → State → Prop} {AX : Nat → Prop} (hr : vx_Run p l e R s m args below meth c H locs cells slots mc ms (F0 m pc ls st0) rest (va_Qi post B A1 a) (vx_X px BX AX) free) (hS : va_S A0 H0 H locs) (hA : ∀ q, q < H.size → A1 q → A0 q) (hf : ∀ q, free q → A0 q) (hAX : ∀ q, q < H.size → AX q → A0 q)
    (kx : ∀ (E : String) (ce : Cell) (q9 : Addr) (u : SX) (t : State) (H1 : Heap) (locs1 : List Loc), t.heap = H1 → s.vm.Alike t.vm → px u → BX E u t → H.size ≤ H1.size → (∀ q : Nat, q < H.size → ¬ AX q → H1[q]? = H[q]?) → va_S A0 H0 H1 locs1 → H1[q9]? = some ce → ce.vm = .none → s.vm.findClass E = some ce.cls → vx_W p l e R s m args below meth c H1 locs1 (cells + mc) (slots + ms) Q (F0 m pc ls rest) q9)
    (kk : ∀ (r : Int32) (u : S) (t : State) (H1 : Heap) (locs1 : List Loc), t.heap = H1 → s.vm.Alike t.vm → post r u → B u t → H.size ≤ H1.size → (∀ q : Nat, q < H.size → ¬ A1 q → H1[q]? = H[q]?) → va_S A0 H0 H1 locs1 → W p l e R s m args below meth c H1 locs1 (cells + mc) (slots + ms) Q (F0 m (pc + 3) ls (.int r :: rest))) : W p l e R s m args below meth c H locs cells slots Q (F0 m pc ls st0) := by
  intro T hT X
  rcases hr T hT X with ⟨v, st₀, t, T', L, h0, X', hL, e1, e2, ⟨⟨r, u, hv, hp, hb⟩, hF⟩, st⟩ | ⟨q, st₀, t, T', L, E, ce, h0, X', hL, e1, e2, ⟨u, hp, hb, hF⟩, hce, hcv, hcl, st⟩
  · cases hv
    obtain ⟨k1, k2, k3⟩ := vx_keep h0 e1 hS hA hf hL hF
    obtain ⟨t2, a1, b1⟩ := kk r u t T'.heap (locs ++ L) e1.symm (by rw [← e2]; exact X'.warmed.alike) hp hb k1 k2 k3 T' rfl X'
    exact ⟨t2, st t2 a1, b1⟩
  · obtain ⟨k1, k2, k3⟩ := vx_keep h0 e1 hS hAX hf hL hF
    obtain ⟨t2, a1, b1⟩ := kx E ce q u t T'.heap (locs ++ L) e1.symm (by rw [← e2]; exact X'.warmed.alike) hp hb k1 k2 k3 (by rw [e1]; exact hce) hcv hcl T' rfl X'
    exact ⟨t2, st.trans a1, b1⟩
theorem vx_calll {S SX : Type} {post : Int64 → S → Prop} {px : SX → Prop} {B : S → State → Prop} {BX : String → SX → State → Prop} {AX : Nat → Prop} (hr : vx_Run p l e R s m args below meth c H locs cells slots mc ms (F0 m pc ls st0) rest (va_Ql post B A1 a) (vx_X px BX AX) free) (hS : va_S A0 H0 H locs) (hA : ∀ q, q < H.size → A1 q → A0 q) (hf : ∀ q, free q → A0 q) (hAX : ∀ q, q < H.size → AX q → A0 q)
    (kx : ∀ (E : String) (ce : Cell) (q9 : Addr) (u : SX) (t : State) (H1 : Heap) (locs1 : List Loc), t.heap = H1 → s.vm.Alike t.vm → px u → BX E u t → H.size ≤ H1.size → (∀ q : Nat, q < H.size → ¬ AX q → H1[q]? = H[q]?) → va_S A0 H0 H1 locs1 → H1[q9]? = some ce → ce.vm = .none → s.vm.findClass E = some ce.cls → vx_W p l e R s m args below meth c H1 locs1 (cells + mc) (slots + ms) Q (F0 m pc ls rest) q9)
    (kk : ∀ (r : Int64) (u : S) (t : State) (H1 : Heap) (locs1 : List Loc), t.heap = H1 → s.vm.Alike t.vm → post r u → B u t → H.size ≤ H1.size → (∀ q : Nat, q < H.size → ¬ A1 q → H1[q]? = H[q]?) → va_S A0 H0 H1 locs1 → W p l e R s m args below meth c H1 locs1 (cells + mc) (slots + ms) Q (F0 m (pc + 3) ls (.long r :: rest))) : W p l e R s m args below meth c H locs cells slots Q (F0 m pc ls st0) := by
  intro T hT X
  rcases hr T hT X with ⟨v, st₀, t, T', L, h0, X', hL, e1, e2, ⟨⟨r, u, hv, hp, hb⟩, hF⟩, st⟩ | ⟨q, st₀, t, T', L, E, ce, h0, X', hL, e1, e2, ⟨u, hp, hb, hF⟩, hce, hcv, hcl, st⟩
  · cases hv
    obtain ⟨k1, k2, k3⟩ := vx_keep h0 e1 hS hA hf hL hF
    obtain ⟨t2, a1, b1⟩ := kk r u t T'.heap (locs ++ L) e1.symm (by rw [← e2]; exact X'.warmed.alike) hp hb k1 k2 k3 T' rfl X'
    exact ⟨t2, st t2 a1, b1⟩
  · obtain ⟨k1, k2, k3⟩ := vx_keep h0 e1 hS hAX hf hL hF
    obtain ⟨t2, a1, b1⟩ := kx E ce q u t T'.heap (locs ++ L) e1.symm (by rw [← e2]; exact X'.warmed.alike) hp hb k1 k2 k3 (by rw [e1]; exact hce) hcv hcl T' rfl X'
    exact ⟨t2, st.trans a1, b1⟩
theorem vx_callf {S SX : Type} {post : UInt32 → S → Prop} {px : SX → Prop} {B : S → State → Prop} {BX : String → SX → State → Prop} {AX : Nat → Prop} (hr : vx_Run p l e R s m args below meth c H locs cells slots mc ms (F0 m pc ls st0) rest (va_Qf post B A1 a) (vx_X px BX AX) free) (hS : va_S A0 H0 H locs) (hA : ∀ q, q < H.size → A1 q → A0 q) (hf : ∀ q, free q → A0 q) (hAX : ∀ q, q < H.size → AX q → A0 q)
    (kx : ∀ (E : String) (ce : Cell) (q9 : Addr) (u : SX) (t : State) (H1 : Heap) (locs1 : List Loc), t.heap = H1 → s.vm.Alike t.vm → px u → BX E u t → H.size ≤ H1.size → (∀ q : Nat, q < H.size → ¬ AX q → H1[q]? = H[q]?) → va_S A0 H0 H1 locs1 → H1[q9]? = some ce → ce.vm = .none → s.vm.findClass E = some ce.cls → vx_W p l e R s m args below meth c H1 locs1 (cells + mc) (slots + ms) Q (F0 m pc ls rest) q9)
    (kk : ∀ (r : UInt32) (u : S) (t : State) (H1 : Heap) (locs1 : List Loc), t.heap = H1 → s.vm.Alike t.vm → post r u → B u t → H.size ≤ H1.size → (∀ q : Nat, q < H.size → ¬ A1 q → H1[q]? = H[q]?) → va_S A0 H0 H1 locs1 → W p l e R s m args below meth c H1 locs1 (cells + mc) (slots + ms) Q (F0 m (pc + 3) ls (.float r :: rest))) : W p l e R s m args below meth c H locs cells slots Q (F0 m pc ls st0) := by
  intro T hT X
  rcases hr T hT X with ⟨v, st₀, t, T', L, h0, X', hL, e1, e2, ⟨⟨r, u, hv, hp, hb⟩, hF⟩, st⟩ | ⟨q, st₀, t, T', L, E, ce, h0, X', hL, e1, e2, ⟨u, hp, hb, hF⟩, hce, hcv, hcl, st⟩
  · cases hv
    obtain ⟨k1, k2, k3⟩ := vx_keep h0 e1 hS hA hf hL hF
    obtain ⟨t2, a1, b1⟩ := kk r u t T'.heap (locs ++ L) e1.symm (by rw [← e2]; exact X'.warmed.alike) hp hb k1 k2 k3 T' rfl X'
    exact ⟨t2, st t2 a1, b1⟩
  · obtain ⟨k1, k2, k3⟩ := vx_keep h0 e1 hS hAX hf hL hF
    obtain ⟨t2, a1, b1⟩ := kx E ce q u t T'.heap (locs ++ L) e1.symm (by rw [← e2]; exact X'.warmed.alike) hp hb k1 k2 k3 (by rw [e1]; exact hce) hcv hcl T' rfl X'
    exact ⟨t2, st.trans a1, b1⟩
theorem vx_calld {S SX : Type} {post : UInt64 → S → Prop} {px : SX → Prop} {B : S → State → Prop} {BX : String → SX → State → Prop} {AX : Nat → Prop} (hr : vx_Run p l e R s m args below meth c H locs cells slots mc ms (F0 m pc ls st0) rest (va_Qd post B A1 a) (vx_X px BX AX) free) (hS : va_S A0 H0 H locs) (hA : ∀ q, q < H.size → A1 q → A0 q) (hf : ∀ q, free q → A0 q) (hAX : ∀ q, q < H.size → AX q → A0 q)
    (kx : ∀ (E : String) (ce : Cell) (q9 : Addr) (u : SX) (t : State) (H1 : Heap) (locs1 : List Loc), t.heap = H1 → s.vm.Alike t.vm → px u → BX E u t → H.size ≤ H1.size → (∀ q : Nat, q < H.size → ¬ AX q → H1[q]? = H[q]?) → va_S A0 H0 H1 locs1 → H1[q9]? = some ce → ce.vm = .none → s.vm.findClass E = some ce.cls → vx_W p l e R s m args below meth c H1 locs1 (cells + mc) (slots + ms) Q (F0 m pc ls rest) q9)
    (kk : ∀ (r : UInt64) (u : S) (t : State) (H1 : Heap) (locs1 : List Loc), t.heap = H1 → s.vm.Alike t.vm → post r u → B u t → H.size ≤ H1.size → (∀ q : Nat, q < H.size → ¬ A1 q → H1[q]? = H[q]?) → va_S A0 H0 H1 locs1 → W p l e R s m args below meth c H1 locs1 (cells + mc) (slots + ms) Q (F0 m (pc + 3) ls (.double r :: rest))) : W p l e R s m args below meth c H locs cells slots Q (F0 m pc ls st0) := by
  intro T hT X
  rcases hr T hT X with ⟨v, st₀, t, T', L, h0, X', hL, e1, e2, ⟨⟨r, u, hv, hp, hb⟩, hF⟩, st⟩ | ⟨q, st₀, t, T', L, E, ce, h0, X', hL, e1, e2, ⟨u, hp, hb, hF⟩, hce, hcv, hcl, st⟩
  · cases hv
    obtain ⟨k1, k2, k3⟩ := vx_keep h0 e1 hS hA hf hL hF
    obtain ⟨t2, a1, b1⟩ := kk r u t T'.heap (locs ++ L) e1.symm (by rw [← e2]; exact X'.warmed.alike) hp hb k1 k2 k3 T' rfl X'
    exact ⟨t2, st t2 a1, b1⟩
  · obtain ⟨k1, k2, k3⟩ := vx_keep h0 e1 hS hAX hf hL hF
    obtain ⟨t2, a1, b1⟩ := kx E ce q u t T'.heap (locs ++ L) e1.symm (by rw [← e2]; exact X'.warmed.alike) hp hb k1 k2 k3 (by rw [e1]; exact hce) hcv hcl T' rfl X'
    exact ⟨t2, st.trans a1, b1⟩
theorem vx_callv {S SX : Type} {post : S → Prop} {px : SX → Prop} {B : S → State → Prop} {BX : String → SX → State → Prop} {AX : Nat → Prop} (hr : vx_Run p l e R s m args below meth c H locs cells slots mc ms (F0 m pc ls st0) rest (va_Qv post B A1 a) (vx_X px BX AX) free) (hS : va_S A0 H0 H locs) (hA : ∀ q, q < H.size → A1 q → A0 q) (hf : ∀ q, free q → A0 q) (hAX : ∀ q, q < H.size → AX q → A0 q)
    (kx : ∀ (E : String) (ce : Cell) (q9 : Addr) (u : SX) (t : State) (H1 : Heap) (locs1 : List Loc), t.heap = H1 → s.vm.Alike t.vm → px u → BX E u t → H.size ≤ H1.size → (∀ q : Nat, q < H.size → ¬ AX q → H1[q]? = H[q]?) → va_S A0 H0 H1 locs1 → H1[q9]? = some ce → ce.vm = .none → s.vm.findClass E = some ce.cls → vx_W p l e R s m args below meth c H1 locs1 (cells + mc) (slots + ms) Q (F0 m pc ls rest) q9)
    (kk : ∀ (u : S) (t : State) (H1 : Heap) (locs1 : List Loc), t.heap = H1 → s.vm.Alike t.vm → post u → B u t → H.size ≤ H1.size → (∀ q : Nat, q < H.size → ¬ A1 q → H1[q]? = H[q]?) → va_S A0 H0 H1 locs1 → W p l e R s m args below meth c H1 locs1 (cells + mc) (slots + ms) Q (F0 m (pc + 3) ls (rest))) : W p l e R s m args below meth c H locs cells slots Q (F0 m pc ls st0) := by
  intro T hT X
  rcases hr T hT X with ⟨v, st₀, t, T', L, h0, X', hL, e1, e2, ⟨⟨u, hv, hp, hb⟩, hF⟩, st⟩ | ⟨q, st₀, t, T', L, E, ce, h0, X', hL, e1, e2, ⟨u, hp, hb, hF⟩, hce, hcv, hcl, st⟩
  · cases hv
    obtain ⟨k1, k2, k3⟩ := vx_keep h0 e1 hS hA hf hL hF
    obtain ⟨t2, a1, b1⟩ := kk u t T'.heap (locs ++ L) e1.symm (by rw [← e2]; exact X'.warmed.alike) hp hb k1 k2 k3 T' rfl X'
    exact ⟨t2, st t2 a1, b1⟩
  · obtain ⟨k1, k2, k3⟩ := vx_keep h0 e1 hS hAX hf hL hF
    obtain ⟨t2, a1, b1⟩ := kx E ce q u t T'.heap (locs ++ L) e1.symm (by rw [← e2]; exact X'.warmed.alike) hp hb k1 k2 k3 (by rw [e1]; exact hce) hcv hcl T' rfl X'
    exact ⟨t2, st.trans a1, b1⟩
/-- caught by the row x of this method's table; the rows ahead don't take it -/
theorem vx_catch {own name : String} {E : String} {ce : Cell} {q : Addr} (hown : s.vm.findClass own = some m.cls) (pre : List ExceptionTableEntry) (x : ExceptionTableEntry) (suf : List ExceptionTableEntry) (hsplit : c.exceptionTable.toList = pre ++ x :: suf)
    (hpass : ∀ z ∈ pre, covers z pc = false ∨ (z.catchType ≠ 0 ∧ ∃ nm : String, (Cond.classLink own z.catchType nm).before args s = true ∧ va_Nc E nm s)) (hx : covers x pc = true) (h0 : x.catchType ≠ 0)
    (hlink : (Cond.classLink own x.catchType name).before args s = true) (hcast : (Cond.castable E name).before args s = true) (hcell : H[q]? = some ce) (hv : ce.vm = .none) (hcl : s.vm.findClass E = some ce.cls)
    (kk : W p l e R s m args below meth c H locs cells slots Q (F0 m x.handlerPc ls [.ref q])) : vx_W p l e R s m args below meth c H locs cells slots Q (F0 m pc ls rest) q := by
  intro T hT X
  have hpl : e.platform.magicAccessors = ({} : Platform).magicAccessors := by rw [X.admits.platform]
  obtain ⟨c3, c4, hc3, hc4, hasg⟩ := Cond.castable_spec hcast
  cases Option.some.inj (hc3.symm.trans hcl)
  obtain ⟨c5, hc5, hcl5⟩ := Cond.classLink_spec hown hlink e.platform hpl
  cases Option.some.inj (hc4.symm.trans hc5)
  obtain ⟨vm', X', st⟩ := X.thenCaughtThrough q (g := F0 m pc ls rest) rfl (Steps.refl _) (by rw [hT]; exact hcell) (by rw [hv]; rfl) (by obtain ⟨k9, h9, -⟩ := Vm.findClass_spec hcl; exact ⟨k9, h9⟩) pre x suf hsplit
    (fun z hz => by
      rcases hpass z hz with h | ⟨hz0, nm, hl1, hn1⟩
      · exact Or.inl h
      · obtain ⟨c6, hc6, hcl6⟩ := Cond.classLink_spec hown hl1 e.platform hpl
        obtain ⟨a8, b8, h1, h2, h3⟩ := hn1
        cases Option.some.inj (h1.symm.trans hcl)
        cases Option.some.inj (h2.symm.trans hc6)
        exact Or.inr ⟨hz0, _, hcl6, h3⟩) hx (Or.inr ⟨h0, c4, hcl5, hasg⟩)
  obtain ⟨t, a1, b1⟩ := kk (T.setVm vm') hT X'
  exact ⟨t, st.trans a1, b1⟩
end Rows
section Ends
variable {p : Program} {l : Launch} {e : Env} {R : Room} {s : State} {m : MethodId} {args : Array Value} {below : List Frame} {meth : Method} {c : Code} {H : Heap} {locs : List Loc} {cells slots : Nat} {Q : State → Prop}
variable {mc ms : Nat} {free : Addr → Prop} {A0 A1 : Nat → Prop} {H0 : Heap} {a : Array Value} {ls : Array Slot} {st0 rest : List Value}
variable {Qc : Array Value → State → Outcome → State → Prop} {XC : String → State → State → Prop}
/-- what a body that may throw owes at its end -/
def vx_MQ (below : List Frame) (Qc : Array Value → State → Outcome → State → Prop) (XC : String → State → State → Prop) (a : Array Value) (s : State) (mc ms : Nat) (free : Addr → Prop) : State → Prop := fun t =>
  ∃ o, t.status = .running ∧ Ended t below o ∧ vx_Q Qc XC mc ms free a s o t
theorem vx_ret {g : JFrame} {mc ms : Nat} (k : W p l e R s m args below meth c H locs cells slots (MQ below Qc args s mc ms free) g) : W p l e R s m args below meth c H locs cells slots (vx_MQ below Qc XC args s mc ms free) g := by
  intro T hT X
  obtain ⟨t, a1, o, b1, b2, b3, b4⟩ := k T hT X
  exact ⟨t, a1, o, b1, b2, Or.inl ⟨b3, b4⟩⟩
/-- not caught here: it goes on to the caller -/
theorem vx_widen {g : JFrame} {q : Addr} {k n : Nat} (h1 : cells ≤ k) (h2 : slots ≤ n) (kk : vx_W p l e R s m args below meth c H locs k n Q g q) : vx_W p l e R s m args below meth c H locs cells slots Q g q := fun T hT X => kk T hT (stand_widen X h1 h2)
theorem vx_out {pc : Nat} {E : String} {ce : Cell} {q : Addr} {mc ms : Nat} (hout : ∀ x ∈ c.exceptionTable.toList, covers x pc = false) (hlocks : meth.locks = false) (hcell : H[q]? = some ce) (hv : ce.vm = .none) (hcl : s.vm.findClass E = some ce.cls)
    (hx : ∀ t : State, t.heap = H → s.vm.Alike t.vm → XC E s t) (hf : ∀ z ∈ locs, free z.base) (hc : cells ≤ mc) (hs : slots ≤ ms) :
    vx_W p l e R s m args below meth c H locs cells slots (vx_MQ below Qc XC args s mc ms free) (F0 m pc ls rest) q := by
  intro T hT X
  obtain ⟨st1, hrun, hend, hW, hsm⟩ := X.leaveThrown q (g := F0 m pc ls rest) rfl rfl rfl hout hlocks
  have hcell9 : (T.setFrames (.throwing q :: below)).heap[q]? = some ce := by
    show T.heap[q]? = some ce
    rw [hT]; exact hcell
  exact ⟨_, st1, .threw q, hrun, hend, Or.inr ⟨q, rfl, E, ce, locs, hx _ hT hW.alike, hcell9, hv, hcl, hW, hsm.mono hc hs, hf⟩⟩
theorem vx_frame {U : State} {k n : Nat} (h : s.sameButNew ({ U with vm := s.vm } : State) locs k n) : s.heap.size ≤ U.heap.size ∧ ∀ q : Nat, q < s.heap.size → (∀ z ∈ locs, z.base ≠ q) → U.heap[q]? = s.heap[q]? := by
  obtain ⟨-, h2, -, -, -, h6⟩ := h
  refine ⟨h2, fun q hq hz => ?_⟩
  obtain ⟨c9, e1, e2, e3, e4⟩ := h6 q _ (Array.getElem?_eq_getElem hq)
  have hs : c9.slots = (s.heap[q]).slots := Array.ext_getElem? fun i => e4 i fun hm => hz _ hm rfl
  have h9 : c9 = s.heap[q] := by
    rw [hs] at e2
    exact e2
  have e5 : U.heap[q]? = some c9 := e1
  rw [e5, h9, Array.getElem?_eq_getElem hq]
/-- the words of a throw but the four that speak of the heap -/
def vx_no (w : Cond) : Bool := decide (w ≠ .isRef (.static Bundle.tN "UNASSIGNED_STACK" Bundle.steD)) && decide (w ≠ .isRef (.static Bundle.tN "SUPPRESSED_SENTINEL" Bundle.listD)) && decide (w ≠ .laysStatic Bundle.tN "UNASSIGNED_STACK" Bundle.steD) && decide (w ≠ .laysStatic Bundle.tN "SUPPRESSED_SENTINEL" Bundle.listD)
def vx_at0 (own : String) (ic : Nat) (X : String) (names : List String) : List Cond := (Bundle.ownAtoms0 own ic X names).filter vx_no
def vx_atS (own : String) (ic : Nat) (X : String) (names : List String) : List Cond := (Bundle.ownAtoms own ic X names).filter vx_no
/-- a word that the tables alone decide, or a good one -/
def vx_ot (w : Cond) : Bool := w.onTables || goodWord w
theorem vx_ot_at {args a' : Array Value} {s U : State} {w : Cond} (hW : s.WarmedH U.vm) (hvm : s.vm = U.vm) (hg : vx_ot w = true) (h : w.before args s = true) : w.before a' U = true := by
  simp only [vx_ot, Bool.or_eq_true] at hg
  rcases hg with hg | hg
  · exact va_tabs hg hvm h
  · exact word_at hW (good_of_word hg) h
/-- a list's words: the good ones out of the method's own list, the others by premises of their own -/
theorem vx_hat {args : Array Value} {s : State} {L B : List Cond} (h1 : ∀ w ∈ L.filter goodWord, w.before args s = true) (h2 : ∀ w ∈ L.filter (fun w => !goodWord w), w ∈ B) (h3 : ∀ w ∈ B, w.before args s = true) : ∀ w ∈ L, w.before args s = true := by
  intro w hw
  by_cases g : goodWord w = true
  · exact h1 w (List.mem_filter.mpr ⟨hw, g⟩)
  · refine h3 w (h2 w (List.mem_filter.mpr ⟨hw, ?_⟩))
    show (!goodWord w) = true
    cases hgw : goodWord w
    · rfl
    · exact absurd hgw g
theorem vx_c {args : Array Value} {s : State} {w : Cond} {B : List Cond} (h : w.before args s = true) (t : ∀ w ∈ B, w.before args s = true) : ∀ w' ∈ w :: B, w'.before args s = true := fun w' h' => (List.mem_cons.mp h').elim (fun e => by rw [e]; exact h) (t w')
theorem vx_n {args : Array Value} {s : State} : ∀ w ∈ ([] : List Cond), w.before args s = true := fun _ h => nomatch h
theorem vx_own {args : Array Value} {s : State} {L : List Cond} (h1 : ∀ w ∈ L.filter vx_no, w.before args s = true)
    (hU : (Cond.isRef (.static Bundle.tN "UNASSIGNED_STACK" Bundle.steD)).before args s = true) (hN : (Cond.isRef (.static Bundle.tN "SUPPRESSED_SENTINEL" Bundle.listD)).before args s = true)
    (lU : (Cond.laysStatic Bundle.tN "UNASSIGNED_STACK" Bundle.steD).before args s = true) (lN : (Cond.laysStatic Bundle.tN "SUPPRESSED_SENTINEL" Bundle.listD).before args s = true) : ∀ w ∈ L, w.before args s = true := by
  intro w hw
  by_cases e1 : w = .isRef (.static Bundle.tN "UNASSIGNED_STACK" Bundle.steD)
  · rw [e1]; exact hU
  · by_cases e2 : w = .isRef (.static Bundle.tN "SUPPRESSED_SENTINEL" Bundle.listD)
    · rw [e2]; exact hN
    · by_cases e3 : w = .laysStatic Bundle.tN "UNASSIGNED_STACK" Bundle.steD
      · rw [e3]; exact lU
      · by_cases e4 : w = .laysStatic Bundle.tN "SUPPRESSED_SENTINEL" Bundle.listD
        · rw [e4]; exact lN
        · exact h1 w (List.mem_filter.mpr ⟨hw, by unfold vx_no; rw [decide_eq_true e1, decide_eq_true e2, decide_eq_true e3, decide_eq_true e4]; rfl⟩)
/-- where a static field lies, its class's statics cell in H -/
def vx_L (C n d : String) (A : Nat → Prop) (U : State) (H : Heap) : Prop := ∃ (c : ClassId) (k : Class) (i : Nat) (f : Field) (a : Nat) (cell : Cell), U.vm.findClass C = some c ∧ U.fieldFound? C n d = some (c, k, i, f) ∧ f.isStatic = true ∧ k.statics = some a ∧ H[a]? = some cell ∧ cell.vm.isStatics = true ∧ cell.cls = c ∧ f.slot < cell.slots.size ∧ k.staticTypes[f.slot]? = some f.type ∧ ¬ A a
theorem vx_L.moved {C n d : String} {A : Nat → Prop} {u U : State} {H : Heap} (hvm : u.vm.Alike U.vm) (h : vx_L C n d A u H) : vx_L C n d A U H := by
  obtain ⟨c, k, i, f, a, cell, h1, h2, h3, h4, h5, h6, h7, h8, h9, h10⟩ := h
  obtain ⟨k', hi', he⟩ := State.fieldFound?_setVm hvm h2
  exact ⟨c, k', i, f, a, cell, by rw [hvm.findClass]; exact h1, hi', h3, by rw [he]; exact h4, h5, h6, h7, h8, by rw [he]; exact h9, h10⟩
theorem vx_L.kept {C n d : String} {A : Nat → Prop} {U : State} {H H1 : Heap} (h : vx_L C n d A U H) (hq : ∀ a : Nat, a < H.size → ¬ A a → H1[a]? = H[a]?) : vx_L C n d A U H1 := by
  obtain ⟨c, k, i, f, a, cell, h1, h2, h3, h4, h5, h6, h7, h8, h9, h10⟩ := h
  exact ⟨c, k, i, f, a, cell, h1, h2, h3, h4, by rw [hq a (Array.getElem?_eq_some_iff.mp h5).1 h10]; exact h5, h6, h7, h8, h9, h10⟩
theorem vx_L.narrow {C n d : String} {A B : Nat → Prop} {U : State} {H : Heap} (h : vx_L C n d A U H) (hAB : ∀ q, B q → A q) : vx_L C n d B U H := by
  obtain ⟨c, k, i, f, a, cell, h1, h2, h3, h4, h5, h6, h7, h8, h9, h10⟩ := h
  exact ⟨c, k, i, f, a, cell, h1, h2, h3, h4, h5, h6, h7, h8, h9, fun z => h10 (hAB _ z)⟩
theorem vx_L.word {C n d : String} {A : Nat → Prop} {s : State} {args : Array Value} (h : vx_L C n d A s s.heap) : (Cond.laysStatic C n d).before args s = true := by
  obtain ⟨c, k, i, f, a, cell, h1, h2, h3, h4, h5, h6, h7, h8, h9, -⟩ := h
  show (Cond.laysStatic C n d).holds args s none s [] = true
  exact Cond.laysStatic_of h1 h2 h3 h4 h5 h6 h7 h8 h9
/-- .. and what it holds: null or some reference -/
def vx_Zq (C n d : String) (A : Nat → Prop) (U : State) (H : Heap) : Prop := va_Zq C n d A U H ∧ vx_L C n d A U H
theorem vx_Zq.moved {C n d : String} {A : Nat → Prop} {u U : State} {H : Heap} (hvm : u.vm.Alike U.vm) (h : vx_Zq C n d A u H) : vx_Zq C n d A U H := ⟨va_Zq.moved hvm h.1, vx_L.moved hvm h.2⟩
theorem vx_Zq.kept {C n d : String} {A : Nat → Prop} {U : State} {H H1 : Heap} (h : vx_Zq C n d A U H) (hq : ∀ a : Nat, a < H.size → ¬ A a → H1[a]? = H[a]?) : vx_Zq C n d A U H1 := ⟨va_Zq.kept h.1 hq, vx_L.kept h.2 hq⟩
theorem vx_Zq.narrow {C n d : String} {A B : Nat → Prop} {U : State} {H : Heap} (h : vx_Zq C n d A U H) (hAB : ∀ q, B q → A q) : vx_Zq C n d B U H := ⟨va_Zq.narrow h.1 hAB, vx_L.narrow h.2 hAB⟩
theorem vx_Zqof {args : Array Value} {s : State} {C n d : String} {A : Nat → Prop} (hl : (Cond.laysStatic C n d).before args s = true) (hini : (Cond.initialized C).before args s = true) (h : (Cond.isRef (.static C n d)).before args s = true) (hA : ∀ a : Nat, a < s.heap.size → ¬ A a) : vx_Zq C n d A s s.heap := by
  refine ⟨va_Zqof hl hini h hA, ?_⟩
  obtain ⟨c, k, i, f, a, cell, h1, h2, h3, h4, h5, h6, h7, h8, h9⟩ := Cond.laysStatic_spec hl
  exact ⟨c, k, i, f, a, cell, h1, h2, h3, h4, h5, h6, h7, h8, h9, hA a (Array.getElem?_eq_some_iff.mp h5).1⟩
theorem vx_isRef {C n d : String} {v : Value} {A : Nat → Prop} {s : State} {args : Array Value} (h : va_Z C n d v A s s.heap) (hv : v.isRef = true) : (Cond.isRef (.static C n d)).before args s = true := by
  obtain ⟨cf, kf, fi, f, a, cell, h1, h2, h3, h4, h5, h6, h7, -⟩ := h
  have he : (Term.static C n d).eval args s none [] s = some v := by
    simp [Term.eval, State.fieldNamed?, h1, h2, h4, h5, h6, h7]
  simp only [Cond.before, Cond.holds, Cond.value, he]
  cases v <;> simp_all [Value.isRef]
theorem vx_isRefq {C n d : String} {A : Nat → Prop} {s : State} {args : Array Value} (h : va_Zq C n d A s s.heap) : (Cond.isRef (.static C n d)).before args s = true := by
  rcases h with h | ⟨t, h⟩
  · exact vx_isRef h rfl
  · exact vx_isRef h rfl
/-- the same frame, seen from here: as if the method were called anew in this heap -/
theorem vx_rebase {T : State} (X : Stand p l e R s m args below meth c T locs cells slots) {R' : Room} (hf : R'.frames ≤ R.frames) (hl : R'.locals ≤ R.locals) (hc : cells + R'.cells ≤ R.cells) (hs : slots + R'.slots ≤ R.slots) :
    Stand p l e R' ((T.setVm s.vm).setFrames (.invoking m args :: below)) m args below meth c T [] 0 0 := by
  have htop : (T.setVm s.vm).topJava?.isSome := X.here.top
  have hF : ((T.setVm s.vm).setFrames (.invoking m args :: below)).frames = .invoking m args :: below := State.frames_setFrames _ (State.cur_lt_of_top htop)
  obtain ⟨g₀, hg0⟩ := Option.isSome_iff_exists.mp htop
  obtain ⟨r, hr⟩ := State.topJava?_eq_some.mp hg0
  have hl9 : e.platform.stackLimits (T.setVm s.vm).me = e.platform.stackLimits s.me := X.limits
  have hb9 : (T.setVm s.vm).me.stackBytes = s.me.stackBytes := X.bytes
  refine ⟨X.admits, X.cas, X.clock, hF, ?_, X.hears, X.method, X.code, X.here, X.tail, X.warmed, ?_, ?_, ?_⟩
  · have h := X.room
    have hU : ((T.setVm s.vm).setFrames (.invoking m args :: below)).localsInUse = s.localsInUse := by
      rw [State.localsInUse_invoking hF (meth := meth) (c := c) X.method X.code, State.localsInUse_invoking X.frames X.method X.code]
    simp only [State.hasRoom, Bool.and_eq_true, decide_eq_true_eq] at h ⊢
    obtain ⟨⟨⟨⟨h1, h2, h3, h4, h5, h6⟩, h7⟩, h8⟩, h9⟩ := h
    rw [X.frames, List.length_cons] at h2 h3
    have q1 := X.heapSize
    have q2 := X.used
    simp only [hF, hU, List.length_cons, State.stackLimits_setFrames, State.stackBytes_setFrames, hl9, hb9]
    refine ⟨⟨⟨⟨by omega, by omega, by omega, by omega, by omega, h6⟩, ?_⟩, ?_⟩, X.book⟩
    · show T.heap.size + R'.cells ≤ e.platform.maxCells
      omega
    · show T.slotsUsed + R'.slots ≤ e.platform.maxSlots
      omega
  · rw [State.stackLimits_setFrames]; rfl
  · rw [State.stackBytes_setFrames]; rfl
  · refine ⟨?_, Nat.le_refl _, Nat.le_refl _, ?_, ?_, fun a c9 h9 => ⟨c9, h9, rfl, rfl, fun _ _ => rfl⟩⟩
    · obtain ⟨t, ht, -⟩ := State.frames_cons hr
      show T.setVm s.vm = { ((T.setVm s.vm).setFrames (.invoking m args :: below)).setFrames (T.setVm s.vm).frames with heap := T.heap, slotsUsed := T.slotsUsed }
      rw [State.setFrames_setFrames, State.setFrames_self ht]
      rfl
    · show T.slotsUsed = T.slotsUsed + ((T.heap.toList.drop T.heap.size).map (·.slots.size)).sum
      rw [List.drop_eq_nil_of_le (Nat.le_of_eq Array.length_toList)]
      rfl
    · show ((T.heap.toList.drop T.heap.size).map (·.slots.size)).sum ≤ 0
      rw [List.drop_eq_nil_of_le (Nat.le_of_eq Array.length_toList)]
      exact Nat.le_refl _
/-- 'throw new E()': new; dup; invokespecial; athrow -/
theorem vx_throw0 {cc : ByteArray} {pc : Nat} (hexec : p.tables.exec = Jvm.exec) (hb : c.code = cc) (hl : l.stackTraces = false) {own cls : String} {names : List String} {ik ic mc ms : Nat} {A : Nat → Prop}
    (hown : s.vm.findClass own = some m.cls) (hcls : Bundle.fit cls = true) (hnames : ∀ n ∈ names, Bundle.fit n = true)
    (hk : (Cond.classLink own ik cls).before args s = true) (hini : (Cond.initialized cls).before args s = true) (hat : ∀ w ∈ vx_at0 own ic cls names, w.before args s = true)
    (hgood : ∀ w ∈ Cond.classLink own ik cls :: Cond.initialized cls :: vx_at0 own ic cls names, vx_ot w = true)
    (hU : vx_Zq Bundle.tN "UNASSIGNED_STACK" Bundle.steD A s s.heap) (hN : vx_Zq Bundle.tN "SUPPRESSED_SENTINEL" Bundle.listD A s s.heap) (hS : va_S A s.heap H locs) (hsize : ls.size = c.maxLocals)
    (d0 : decode cc pc = .ok (.new ik, 3)) (d3 : decode cc (pc + 3) = .ok (.dup, 1)) (d4 : decode cc (pc + 4) = .ok (.invokespecial ic, 3)) (d7 : decode cc (pc + 7) = .ok (.athrow, 1))
    (hout : ∀ x ∈ c.exceptionTable.toList, covers x (pc + 7) = false)
    (hRframes : names.length + 3 < R.frames) (hRlocals : (rest.map fun v => v.category).sum + (13 * (names.length + 1) + 42) ≤ R.locals) (hRcells : cells + 1 ≤ R.cells) (hRslots : slots + 6 ≤ R.slots) (hlocks : meth.locks = false)
    (hx : ∀ t : State, s.vm.Alike t.vm → H.size ≤ t.heap.size → (∀ q : Nat, q < H.size → t.heap[q]? = H[q]?) → XC cls s t)
    (hf : ∀ z ∈ locs, free z.base) (hc : cells + 1 ≤ mc) (hs : slots + 6 ≤ ms) :
    W p l e R s m args below meth c H locs cells slots (vx_MQ below Qc XC args s mc ms free) (F0 m pc ls rest) := by
  intro T hT X
  have htr : e.platform.stackTraces = false := (show e.platform.stackTraces = l.stackTraces by rw [X.admits.platform]).trans hl
  have Y := vx_rebase X (R' := { frames := R.frames, locals := R.locals, cells := 1, slots := 6 }) (Nat.le_refl _) (Nat.le_refl _) hRcells hRslots
  obtain ⟨s', hA⟩ : ∃ z, z = (T.setVm s.vm).setFrames (.invoking m args :: below) := ⟨_, rfl⟩
  rw [← hA] at Y
  have hvm : s'.vm = s.vm := by rw [hA]; rfl
  have hhp : s'.heap = H := by rw [hA]; exact hT
  have hW0 : s.WarmedH s'.vm := by rw [hvm]; exact State.WarmedH.refl s
  have hat' : ∀ w ∈ vx_at0 own ic cls names, w.before args s' = true := fun w hw => vx_ot_at hW0 hvm.symm (hgood w (List.mem_cons_of_mem _ (List.mem_cons_of_mem _ hw))) (hat w hw)
  have hk' : (Cond.classLink own ik cls).before args s' = true := vx_ot_at hW0 hvm.symm (hgood _ List.mem_cons_self) hk
  have hini' : (Cond.initialized cls).before args s' = true := vx_ot_at hW0 hvm.symm (hgood _ (List.mem_cons_of_mem _ List.mem_cons_self)) hini
  have hU' : vx_Zq Bundle.tN "UNASSIGNED_STACK" Bundle.steD A s' s'.heap := by rw [hhp]; exact vx_Zq.moved hW0.alike (hU.kept hS.2.1)
  have hN' : vx_Zq Bundle.tN "SUPPRESSED_SENTINEL" Bundle.listD A s' s'.heap := by rw [hhp]; exact vx_Zq.moved hW0.alike (hN.kept hS.2.1)
  have h : ∀ w ∈ Bundle.ownAtoms0 own ic cls names, w.before args s' = true := vx_own hat' (vx_isRefq hU'.1) (vx_isRefq hN'.1) hU'.2.word hN'.2.word
  have hown' : s'.vm.findClass own = some m.cls := by rw [hvm]; exact hown
  have hins : (Cond.instantiable cls 6).before args s' = true := h _ (by simp [Bundle.ownAtoms0])
  obtain ⟨vm₁, cX, kX, hfX, hkX, -, -, X₁, st1⟩ := Y.newCold hexec (own := own) (C := cls) (index := ik) (n := 6) hown' hk' hins hini'
    (g := F0 m pc ls rest) rfl (by rw [hb]; exact d0) (Nat.le_refl _) (Nat.le_refl _)
  generalize hT1 : (T.setVm vm₁).pushCell { cls := cX, slots := kX.instanceTypes.map defaultValue, vm := .none } = T1 at X₁ st1
  have hcat : (Value.ref T.heap.size).category = 1 := rfl
  have hcellA : T1.heap[T.heap.size]? = some (freshCell cX kX) := by rw [← hT1]; exact State.heap_pushCell_size _ _
  have d3' : decode c.code (pc + 3) = .ok (.dup, 1) := by rw [hb]; exact d3
  obtain ⟨U, hsteps, hrun, hend, hW, hsame, ce, hce, hO⟩ := X₁.ctorThrow0 hexec htr (own := own) (cls := cls) (names := names) (ic := ic) hown' hcls hnames h (fun x hx => nomatch hx) hfX hkX hcellA (by rw [hhp, hT]; exact Nat.le_refl _)
    (g := { method := m, pc := pc + 4, locals := ls, stack := .ref T.heap.size :: .ref T.heap.size :: rest, locked := none }) rfl hsize rfl rfl (rest := rest) rfl
    (by rw [hb]; exact d4) (by rw [hb]; exact d7) hout hRframes (by simp only [List.map_cons, List.sum_cons, hcat]; omega) hlocks
  obtain ⟨f1, f2⟩ := vx_frame hsame
  rw [hhp] at f1 f2
  have hWs : s.WarmedH U.vm := State.WarmedH.trans hW0 hW
  have hcl : s.vm.findClass cls = some ce.cls := by
    have h9 := hO.cls
    rw [hvm] at h9
    exact h9
  have hall : s.sameButNew ({ U with vm := s.vm } : State) locs mc ms := by
    subst hA
    obtain ⟨e1, e2⟩ := hsame
    rw [State.setFrames_setFrames] at e1
    have h2 : (T.setVm s.vm).sameButNew ({ U with vm := s.vm } : State) [] (0 + 1) (0 + 6) := ⟨e1, e2⟩
    have h3 := X.same.trans h2
    rw [List.append_nil] at h3
    exact h3.mono hc hs
  refine ⟨U, ?_, .threw T.heap.size, hrun, hend, Or.inr ⟨T.heap.size, rfl, cls, ce, locs, hx U hWs.alike f1 (fun q hq => f2 q hq (fun z hz => nomatch hz)), hce, hO.vm, hcl, hWs, hall, hf⟩⟩
  refine st1 _ ?_
  show Steps p.tables e below (T1.setTop { method := m, pc := pc + 3, locals := ls, stack := .ref T.heap.size :: rest, locked := none }) _
  jvm_step X₁.here [X₁.here.top, hexec, d3', Value.category]
  exact hsteps
/-- 'throw new E("text")': new; dup; ldc; invokespecial; athrow -/
theorem vx_throwS {cc : ByteArray} {pc : Nat} (hexec : p.tables.exec = Jvm.exec) (hb : c.code = cc) (hl : l.stackTraces = false) {own cls text : String} {names : List String} {ik is ic mc ms sa : Nat} {A : Nat → Prop}
    (hown : s.vm.findClass own = some m.cls) (hcls : Bundle.fit cls = true) (hnames : ∀ n ∈ names, Bundle.fit n = true)
    (hk : (Cond.classLink own ik cls).before args s = true) (hini : (Cond.initialized cls).before args s = true) (hstr : vk_R own is text sa s) (hat : ∀ w ∈ vx_atS own ic cls names, w.before args s = true)
    (hgood : ∀ w ∈ Cond.classLink own ik cls :: Cond.initialized cls :: vx_atS own ic cls names, vx_ot w = true)
    (hU : vx_Zq Bundle.tN "UNASSIGNED_STACK" Bundle.steD A s s.heap) (hN : vx_Zq Bundle.tN "SUPPRESSED_SENTINEL" Bundle.listD A s s.heap) (hS : va_S A s.heap H locs) (hsize : ls.size = c.maxLocals)
    (d0 : decode cc pc = .ok (.new ik, 3)) (d3 : decode cc (pc + 3) = .ok (.dup, 1)) (d4 : decode cc (pc + 4) = .ok (.ldc is, 2)) (d6 : decode cc (pc + 6) = .ok (.invokespecial ic, 3)) (d9 : decode cc (pc + 9) = .ok (.athrow, 1))
    (hout : ∀ x ∈ c.exceptionTable.toList, covers x (pc + 9) = false)
    (hRframes : names.length + 3 < R.frames) (hRlocals : (rest.map fun v => v.category).sum + (13 * (names.length + 1) + 43) ≤ R.locals) (hRcells : cells + 1 ≤ R.cells) (hRslots : slots + 6 ≤ R.slots) (hlocks : meth.locks = false)
    (hx : ∀ t : State, s.vm.Alike t.vm → H.size ≤ t.heap.size → (∀ q : Nat, q < H.size → t.heap[q]? = H[q]?) → XC cls s t)
    (hf : ∀ z ∈ locs, free z.base) (hc : cells + 1 ≤ mc) (hs : slots + 6 ≤ ms) :
    W p l e R s m args below meth c H locs cells slots (vx_MQ below Qc XC args s mc ms free) (F0 m pc ls rest) := by
  intro T hT X
  have htr : e.platform.stackTraces = false := (show e.platform.stackTraces = l.stackTraces by rw [X.admits.platform]).trans hl
  have Y := vx_rebase X (R' := { frames := R.frames, locals := R.locals, cells := 1, slots := 6 }) (Nat.le_refl _) (Nat.le_refl _) hRcells hRslots
  obtain ⟨s', hA⟩ : ∃ z, z = (T.setVm s.vm).setFrames (.invoking m args :: below) := ⟨_, rfl⟩
  rw [← hA] at Y
  have hvm : s'.vm = s.vm := by rw [hA]; rfl
  have hhp : s'.heap = H := by rw [hA]; exact hT
  have hW0 : s.WarmedH s'.vm := by rw [hvm]; exact State.WarmedH.refl s
  have hat' : ∀ w ∈ vx_atS own ic cls names, w.before args s' = true := fun w hw => vx_ot_at hW0 hvm.symm (hgood w (List.mem_cons_of_mem _ (List.mem_cons_of_mem _ hw))) (hat w hw)
  have hk' : (Cond.classLink own ik cls).before args s' = true := vx_ot_at hW0 hvm.symm (hgood _ List.mem_cons_self) hk
  have hini' : (Cond.initialized cls).before args s' = true := vx_ot_at hW0 hvm.symm (hgood _ (List.mem_cons_of_mem _ List.mem_cons_self)) hini
  have hU' : vx_Zq Bundle.tN "UNASSIGNED_STACK" Bundle.steD A s' s'.heap := by rw [hhp]; exact vx_Zq.moved hW0.alike (hU.kept hS.2.1)
  have hN' : vx_Zq Bundle.tN "SUPPRESSED_SENTINEL" Bundle.listD A s' s'.heap := by rw [hhp]; exact vx_Zq.moved hW0.alike (hN.kept hS.2.1)
  have h : ∀ w ∈ Bundle.ownAtoms own ic cls names, w.before args s' = true := vx_own hat' (vx_isRefq hU'.1) (vx_isRefq hN'.1) hU'.2.word hN'.2.word
  have hown' : s'.vm.findClass own = some m.cls := by rw [hvm]; exact hown
  have hins : (Cond.instantiable cls 6).before args s' = true := h _ (by simp [Bundle.ownAtoms])
  obtain ⟨vm₁, cX, kX, hfX, hkX, -, -, X₁, st1⟩ := Y.newCold hexec (own := own) (C := cls) (index := ik) (n := 6) hown' hk' hins hini'
    (g := F0 m pc ls rest) rfl (by rw [hb]; exact d0) (Nat.le_refl _) (Nat.le_refl _)
  generalize hT1 : (T.setVm vm₁).pushCell { cls := cX, slots := kX.instanceTypes.map defaultValue, vm := .none } = T1 at X₁ st1
  have hcat : (Value.ref T.heap.size).category = 1 := rfl
  have hcellA : T1.heap[T.heap.size]? = some (freshCell cX kX) := by rw [← hT1]; exact State.heap_pushCell_size _ _
  have d3' : decode c.code (pc + 3) = .ok (.dup, 1) := by rw [hb]; exact d3
  have d4' : decode c.code (pc + 4) = .ok (.ldc is, 2) := by rw [hb]; exact d4
  have hstr' : vk_R own is text sa s' := vk_R.warm hW0 hstr
  obtain ⟨U, hsteps, hrun, hend, hW, hsame, ce, hce, hO⟩ := X₁.ctorThrowS hexec htr (own := own) (cls := cls) (names := names) (ic := ic) hown' hcls hnames h (fun x hx => nomatch hx) hfX hkX hcellA (by rw [hhp, hT]; exact Nat.le_refl _) (msg := .ref sa) rfl
    (g := { method := m, pc := pc + 6, locals := ls, stack := .ref sa :: .ref T.heap.size :: .ref T.heap.size :: rest, locked := none }) rfl hsize rfl rfl (rest := rest) rfl
    (by rw [hb]; exact d6) (by rw [hb]; exact d9) hout hRframes (by simp only [List.map_cons, List.sum_cons, hcat]; omega) hlocks
  obtain ⟨f1, f2⟩ := vx_frame hsame
  rw [hhp] at f1 f2
  have hWs : s.WarmedH U.vm := State.WarmedH.trans hW0 hW
  have hcl : s.vm.findClass cls = some ce.cls := by
    have h9 := hO.cls
    rw [hvm] at h9
    exact h9
  have hall : s.sameButNew ({ U with vm := s.vm } : State) locs mc ms := by
    subst hA
    obtain ⟨e1, e2⟩ := hsame
    rw [State.setFrames_setFrames] at e1
    have h2 : (T.setVm s.vm).sameButNew ({ U with vm := s.vm } : State) [] (0 + 1) (0 + 6) := ⟨e1, e2⟩
    have h3 := X.same.trans h2
    rw [List.append_nil] at h3
    exact h3.mono hc hs
  refine ⟨U, ?_, .threw T.heap.size, hrun, hend, Or.inr ⟨T.heap.size, rfl, cls, ce, locs, hx U hWs.alike f1 (fun q hq => f2 q hq (fun z hz => nomatch hz)), hce, hO.vm, hcl, hWs, hall, hf⟩⟩
  refine st1 _ ?_
  show Steps p.tables e below (T1.setTop { method := m, pc := pc + 3, locals := ls, stack := .ref T.heap.size :: rest, locked := none }) _
  jvm_step X₁.here [X₁.here.top, hexec, d3', Value.category]
  exact X₁.ldcString hexec (own := own) (text := text) (index := is) (a := sa) hown' hstr'.1 hstr'.2
    (g := { method := m, pc := pc + 4, locals := ls, stack := .ref T.heap.size :: .ref T.heap.size :: rest, locked := none }) rfl d4' _ hsteps
/-- 'throw new E("text")', the text by a wide index -/
theorem vx_throwSW {cc : ByteArray} {pc : Nat} (hexec : p.tables.exec = Jvm.exec) (hb : c.code = cc) (hl : l.stackTraces = false) {own cls text : String} {names : List String} {ik is ic mc ms sa : Nat} {A : Nat → Prop}
    (hown : s.vm.findClass own = some m.cls) (hcls : Bundle.fit cls = true) (hnames : ∀ n ∈ names, Bundle.fit n = true)
    (hk : (Cond.classLink own ik cls).before args s = true) (hini : (Cond.initialized cls).before args s = true) (hstr : vk_R own is text sa s) (hat : ∀ w ∈ vx_atS own ic cls names, w.before args s = true)
    (hgood : ∀ w ∈ Cond.classLink own ik cls :: Cond.initialized cls :: vx_atS own ic cls names, vx_ot w = true)
    (hU : vx_Zq Bundle.tN "UNASSIGNED_STACK" Bundle.steD A s s.heap) (hN : vx_Zq Bundle.tN "SUPPRESSED_SENTINEL" Bundle.listD A s s.heap) (hS : va_S A s.heap H locs) (hsize : ls.size = c.maxLocals)
    (d0 : decode cc pc = .ok (.new ik, 3)) (d3 : decode cc (pc + 3) = .ok (.dup, 1)) (d4 : decode cc (pc + 4) = .ok (.ldc_w is, 3)) (d7 : decode cc (pc + 7) = .ok (.invokespecial ic, 3)) (d10 : decode cc (pc + 10) = .ok (.athrow, 1))
    (hout : ∀ x ∈ c.exceptionTable.toList, covers x (pc + 10) = false)
    (hRframes : names.length + 3 < R.frames) (hRlocals : (rest.map fun v => v.category).sum + (13 * (names.length + 1) + 43) ≤ R.locals) (hRcells : cells + 1 ≤ R.cells) (hRslots : slots + 6 ≤ R.slots) (hlocks : meth.locks = false)
    (hx : ∀ t : State, s.vm.Alike t.vm → H.size ≤ t.heap.size → (∀ q : Nat, q < H.size → t.heap[q]? = H[q]?) → XC cls s t)
    (hf : ∀ z ∈ locs, free z.base) (hc : cells + 1 ≤ mc) (hs : slots + 6 ≤ ms) :
    W p l e R s m args below meth c H locs cells slots (vx_MQ below Qc XC args s mc ms free) (F0 m pc ls rest) := by
  intro T hT X
  have htr : e.platform.stackTraces = false := (show e.platform.stackTraces = l.stackTraces by rw [X.admits.platform]).trans hl
  have Y := vx_rebase X (R' := { frames := R.frames, locals := R.locals, cells := 1, slots := 6 }) (Nat.le_refl _) (Nat.le_refl _) hRcells hRslots
  obtain ⟨s', hA⟩ : ∃ z, z = (T.setVm s.vm).setFrames (.invoking m args :: below) := ⟨_, rfl⟩
  rw [← hA] at Y
  have hvm : s'.vm = s.vm := by rw [hA]; rfl
  have hhp : s'.heap = H := by rw [hA]; exact hT
  have hW0 : s.WarmedH s'.vm := by rw [hvm]; exact State.WarmedH.refl s
  have hat' : ∀ w ∈ vx_atS own ic cls names, w.before args s' = true := fun w hw => vx_ot_at hW0 hvm.symm (hgood w (List.mem_cons_of_mem _ (List.mem_cons_of_mem _ hw))) (hat w hw)
  have hk' : (Cond.classLink own ik cls).before args s' = true := vx_ot_at hW0 hvm.symm (hgood _ List.mem_cons_self) hk
  have hini' : (Cond.initialized cls).before args s' = true := vx_ot_at hW0 hvm.symm (hgood _ (List.mem_cons_of_mem _ List.mem_cons_self)) hini
  have hU' : vx_Zq Bundle.tN "UNASSIGNED_STACK" Bundle.steD A s' s'.heap := by rw [hhp]; exact vx_Zq.moved hW0.alike (hU.kept hS.2.1)
  have hN' : vx_Zq Bundle.tN "SUPPRESSED_SENTINEL" Bundle.listD A s' s'.heap := by rw [hhp]; exact vx_Zq.moved hW0.alike (hN.kept hS.2.1)
  have h : ∀ w ∈ Bundle.ownAtoms own ic cls names, w.before args s' = true := vx_own hat' (vx_isRefq hU'.1) (vx_isRefq hN'.1) hU'.2.word hN'.2.word
  have hown' : s'.vm.findClass own = some m.cls := by rw [hvm]; exact hown
  have hins : (Cond.instantiable cls 6).before args s' = true := h _ (by simp [Bundle.ownAtoms])
  obtain ⟨vm₁, cX, kX, hfX, hkX, -, -, X₁, st1⟩ := Y.newCold hexec (own := own) (C := cls) (index := ik) (n := 6) hown' hk' hins hini'
    (g := F0 m pc ls rest) rfl (by rw [hb]; exact d0) (Nat.le_refl _) (Nat.le_refl _)
  generalize hT1 : (T.setVm vm₁).pushCell { cls := cX, slots := kX.instanceTypes.map defaultValue, vm := .none } = T1 at X₁ st1
  have hcat : (Value.ref T.heap.size).category = 1 := rfl
  have hcellA : T1.heap[T.heap.size]? = some (freshCell cX kX) := by rw [← hT1]; exact State.heap_pushCell_size _ _
  have d3' : decode c.code (pc + 3) = .ok (.dup, 1) := by rw [hb]; exact d3
  have d4' : decode c.code (pc + 4) = .ok (.ldc_w is, 3) := by rw [hb]; exact d4
  have hstr' : vk_R own is text sa s' := vk_R.warm hW0 hstr
  obtain ⟨U, hsteps, hrun, hend, hW, hsame, ce, hce, hO⟩ := X₁.ctorThrowS hexec htr (own := own) (cls := cls) (names := names) (ic := ic) hown' hcls hnames h (fun x hx => nomatch hx) hfX hkX hcellA (by rw [hhp, hT]; exact Nat.le_refl _) (msg := .ref sa) rfl
    (g := { method := m, pc := pc + 7, locals := ls, stack := .ref sa :: .ref T.heap.size :: .ref T.heap.size :: rest, locked := none }) rfl hsize rfl rfl (rest := rest) rfl
    (by rw [hb]; exact d7) (by rw [hb]; exact d10) hout hRframes (by simp only [List.map_cons, List.sum_cons, hcat]; omega) hlocks
  obtain ⟨f1, f2⟩ := vx_frame hsame
  rw [hhp] at f1 f2
  have hWs : s.WarmedH U.vm := State.WarmedH.trans hW0 hW
  have hcl : s.vm.findClass cls = some ce.cls := by
    have h9 := hO.cls
    rw [hvm] at h9
    exact h9
  have hall : s.sameButNew ({ U with vm := s.vm } : State) locs mc ms := by
    subst hA
    obtain ⟨e1, e2⟩ := hsame
    rw [State.setFrames_setFrames] at e1
    have h2 : (T.setVm s.vm).sameButNew ({ U with vm := s.vm } : State) [] (0 + 1) (0 + 6) := ⟨e1, e2⟩
    have h3 := X.same.trans h2
    rw [List.append_nil] at h3
    exact h3.mono hc hs
  refine ⟨U, ?_, .threw T.heap.size, hrun, hend, Or.inr ⟨T.heap.size, rfl, cls, ce, locs, hx U hWs.alike f1 (fun q hq => f2 q hq (fun z hz => nomatch hz)), hce, hO.vm, hcl, hWs, hall, hf⟩⟩
  refine st1 _ ?_
  show Steps p.tables e below (T1.setTop { method := m, pc := pc + 3, locals := ls, stack := .ref T.heap.size :: rest, locked := none }) _
  jvm_step X₁.here [X₁.here.top, hexec, d3', Value.category]
  exact X₁.ldcStringW hexec (own := own) (text := text) (index := is) (a := sa) hown' hstr'.1 hstr'.2
    (g := { method := m, pc := pc + 4, locals := ls, stack := .ref T.heap.size :: .ref T.heap.size :: rest, locked := none }) rfl d4' _ hsteps
end Ends
section Bodies
variable {l : Launch}
theorem vx_ofW {y : MethodName} {ws ws' : List Cond} {rm : Room} {Pc : Array Value → State → Prop} {Qc : Array Value → State → Outcome → State → Prop} {XC : String → State → State → Prop} {mc ms : Nat} {free : Addr → Prop} {cc : ByteArray} {maxL : Nat} {ret : Option FieldType}
    (hy : plainName y.cls = true) (hw : ws = Cond.code y cc maxL ret :: ws')
    (body : ∀ p e s m args below meth c s₁, BodyLoose p l y (headSpec ws rm) cc maxL ret e s m args below meth c s₁ → c.maxLocals = maxL → (∀ x ∈ c.exceptionTable.toList, False) → Pc args s →
      W p l e (headSpec ws rm).room s m args below meth c s.heap [] 0 0 (vx_MQ below Qc XC args s mc ms free) (entryFrame m args maxL)) : vx_Met l y ws rm Pc Qc XC mc ms free := by
  refine MetFree.of_bodyS (code := cc) (maxLocals := maxL) (ret := ret) hy ?_ ?_
  · intro args s m h hn
    obtain ⟨meth, c, h1, h2, h3, h4, h5, h6, -, -⟩ := Cond.code_spec hn (atoms_spec (ws := ws) h _ (by rw [hw]; exact List.mem_cons_self))
    exact ⟨meth, c, h1, h2, h3, h4, h5, h6⟩
  · intro p e s m args below meth c s₁ B hml hP _
    have hh0 : s₁.heap = s.heap := by rw [B.state]; rfl
    have ht : ∀ x ∈ c.exceptionTable.toList, False := by
      obtain ⟨meth9, c9, h1, h2, -, -, -, -, h7, -⟩ := Cond.code_spec B.named (atoms_spec (ws := ws) B.pre _ (by rw [hw]; exact List.mem_cons_self))
      cases Option.some.inj (h1.symm.trans B.method)
      cases Option.some.inj (h2.symm.trans (Stand.of_body B).code)
      intro x hx
      rw [Array.isEmpty_iff.mp h7] at hx
      cases hx
    obtain ⟨t, a1, o, b1, b2, b3⟩ := body p e s m args below meth c s₁ B hml ht hP s₁ hh0 (Stand.of_body B)
    exact ⟨t, o, a1, b1, b2, b3⟩
/-- the table of a body with handlers -/
theorem vx_table {p : Program} {x y : MethodName} {S : Spec} {cc bytes : ByteArray} {maxL maxL' : Nat} {ret ret' : Option FieldType} {e : Env} {s s₁ : State} {m : MethodId} {args : Array Value} {below : List Frame} {meth : Method} {c : Code} {hh : List (Nat × Nat × Nat × Nat)}
    (B : BodyLoose p l y S cc maxL ret e s m args below meth c s₁) (h : (Cond.codeWith y bytes maxL' ret' hh).before args s = true) : c.exceptionTable.toList = tableOf hh := by
  obtain ⟨m9, meth9, c9, hn9, h1, h2, -, -, h6, -⟩ := Cond.codeWith_spec h
  cases Option.some.inj (hn9.symm.trans B.named)
  cases Option.some.inj (h1.symm.trans B.method)
  cases Option.some.inj (h2.symm.trans (Stand.of_body B).code)
  rw [← h6, table_eq]
end Bodies
end VXA
/-! ===== END ===== -/
/-! ===== BEGIN a static call of a method with an exception table ===== -/
section VXS
variable {p : Program} {l : Launch} {e : Env} {R : Room} {s : State} {m : MethodId} {args : Array Value} {below : List Frame} {meth : Method} {c : Code} {T : State} {H : Heap} {locs : List Loc} {cells slots : Nat}
abbrev vx_CSW (R : Room) (s : State) (args : Array Value) (own : String) (index : Nat) (y : MethodName) (bytes : ByteArray) (maxL : Nat) (ret : Option FieldType) (hh : List (Nat × Nat × Nat × Nat)) (ws : List Cond) (rm : Room) (mc ms n : Nat) : Prop :=
  (rm.cells = mc ∧ rm.slots = ms ∧ rm.frames + 1 ≤ R.frames ∧ 8 + (maxL + 11) + rm.locals ≤ R.locals ∧ (∀ w ∈ ws, ∀ (a' : Array Value) (U : State), s.WarmedH U.vm → w.before a' U = true) ∧ Cond.codeWith y bytes maxL ret hh ∈ ws) ∧
  (Cond.codeWith y bytes maxL ret hh).before args s = true ∧ (Cond.initialized y.cls).before args s = true ∧ (y.cls ≠ "java/lang/invoke/MethodHandle" ∧ y.cls ≠ "java/lang/invoke/VarHandle") ∧
  (∀ sig, parseMethodDescriptor y.desc = some sig → n = sig.parameters.length) ∧ (Cond.methodLink own index y).before args s = true ∧ (Cond.static y).before args s = true
theorem vx_cwSW {own : String} {index maxL mc ms : Nat} {y : MethodName} {bytes : ByteArray} {ret : Option FieldType} {hh : List (Nat × Nat × Nat × Nat)} {Ts ws ws' : List Cond} {rm : Room} (n : Nat) (ht : ∀ w ∈ Ts, w.before args s = true) (hT : GoodIn Ts (va_wsS own index y ws)) (hw : ws = Cond.codeWith y bytes maxL ret hh :: ws') (hrc : rm.cells = mc) (hrs : rm.slots = ms)
    (hd : y.cls ≠ "java/lang/invoke/MethodHandle" ∧ y.cls ≠ "java/lang/invoke/VarHandle" ∧ (parseMethodDescriptor y.desc).map (fun d => d.parameters.length) = some n) (hR : rm.frames + 1 ≤ R.frames ∧ 8 + (maxL + 11) + rm.locals ≤ R.locals) :
    vx_CSW R s args own index y bytes maxL ret hh ws rm mc ms n := by
  have ok : ∀ w ∈ va_wsS own index y ws, w.before args s = true := fun w h => ht w (hT w h).1
  have hG : GoodIn Ts ws := fun w h => hT w (by unfold va_wsS; exact List.mem_append_right _ h)
  have hc : Cond.codeWith y bytes maxL ret hh ∈ ws := by rw [hw]; exact List.mem_cons_self
  refine ⟨⟨hrc, hrs, hR.1, hR.2, pay_in ht hG, hc⟩, ht _ (hG _ hc).1, ok _ (by simp [va_wsS]), ⟨hd.1, hd.2.1⟩, fun sig h => ?_, ok _ (by simp [va_wsS]), ok _ (by simp [va_wsS])⟩
  have h2 := hd.2.2
  rw [h] at h2
  exact (Option.some.inj h2).symm
theorem vx_callSW (X : Stand p l e R s m args below meth c T locs cells slots) (hexec : p.tables.exec = Jvm.exec) {own : String} {index : Nat} {y : MethodName} {bytes : ByteArray} {maxL : Nat} {ret : Option FieldType} {hh : List (Nat × Nat × Nat × Nat)}
    (hown : s.vm.findClass own = some m.cls) (hlink : (Cond.methodLink own index y).before args s = true) (hstat : (Cond.static y).before args s = true) (hinit : (Cond.initialized y.cls).before args s = true)
    (hcode : (Cond.codeWith y bytes maxL ret hh).before args s = true) (hy : y.cls ≠ "java/lang/invoke/MethodHandle" ∧ y.cls ≠ "java/lang/invoke/VarHandle")
    {W9 : Nat} {Pre : Pt → Array Value → Prop} {Post : Pt → Array Value → Option Value → Pt → Prop} (hK : Back l R p e below s args y 3 W9 Pre Post)
    {g : JFrame} (hg : g.method = m) (hsize : g.locals.size = c.maxLocals) {argsL rest : List Value} (hlen : ∀ sig, parseMethodDescriptor y.desc = some sig → argsL.length = sig.parameters.length)
    (hstack : g.stack = argsL.reverse ++ rest) (hW : 2 * g.monitorRoom + (rest.map fun v => v.category).sum ≤ W9) (hdg : decode c.code g.pc = .ok (.invokestatic index, 3))
    (hpre : ∀ vm₁, s.WarmedH vm₁ → Pre ⟨T.setVm vm₁, locs, cells, slots⟩ argsL.toArray) :
    ∃ (v : Option Value) (vm₁ : Vm) (B : Pt), s.WarmedH vm₁ ∧ Stand p l e R s m args below meth c B.U B.locs B.cells B.slots ∧ Post ⟨T.setVm vm₁, locs, cells, slots⟩ argsL.toArray v B ∧
      ∀ target, Steps p.tables e below (B.U.setTop { g with pc := g.pc + 3, stack := v.toList ++ rest }) target → Steps p.tables e below (T.setTop g) target := by
  obtain ⟨mk, methM, cM, hnamed, hmethM, -, -, -, -, -, -, hsigM⟩ := Cond.codeWith_spec hcode
  have hstatic : methM.isStatic = true := Cond.static_spec hnamed hmethM hstat
  obtain ⟨kP, hkP, -⟩ := className_of_methodNamed hnamed
  have hinitP : kP.init = .initialized := Cond.initialized_spec (findClass_of_methodNamed hnamed) hkP hinit
  obtain ⟨vm₁, X₁, hstep₁⟩ := X.invokestatic hexec hown hlink hnamed hmethM hstatic hkP hinitP hy (g := g) hg (argsL := argsL) (rest := rest) (hlen _ hsigM) hstack hdg
  obtain ⟨v, B, X', hpost, hsteps⟩ := hK m meth c ⟨T.setVm vm₁, locs, cells, slots⟩ { g with stack := rest } (.invokestatic index) mk argsL.toArray X₁ hg hsize hdg hW (X₁.named hnamed) (hpre vm₁ X₁.warmed)
  exact ⟨v, vm₁, B, X₁.warmed, X', hpost, fun target h => hstep₁ _ fun acts => by rw [doInvoke_state]; exact hsteps.trans h⟩
theorem vx_runSW {y : MethodName} {bytes cc : ByteArray} {maxL nL mc ms n index : Nat} {ret : Option FieldType} {hh : List (Nat × Nat × Nat × Nat)} {ws : List Cond} {rm : Room} {Pc : Array Value → State → Prop} {Qc : Array Value → State → Outcome → State → Prop} {free : Addr → Prop} {Ts : List Cond} {own : String} {As rest : List Value} {g : JFrame}
    (S : CallFix p m c cc nL s args Ts own) (hM : Met l y ws rm Pc Qc mc ms free) (cw : vx_CSW R s args own index y bytes maxL ret hh ws rm mc ms n) (hp : PreS s H Pc As)
    (hg : g.method = m) (hn : As.length = n) (hsize : g.locals.size = nL) (hstack : g.stack = As.reverse ++ rest) (hW : 2 * g.monitorRoom + (rest.map fun v => v.category).sum ≤ 8) (hdg : decode cc g.pc = .ok (.invokestatic index, 3)) (hf : cells + mc ≤ R.cells ∧ slots + ms ≤ R.slots) :
    va_Run p l e R s m args below meth c H locs cells slots mc ms g rest (Qc As.toArray) (free) := by
  obtain ⟨⟨hrc, hrs, hfr, hlo, hws, hcw⟩, hcode, hini, hy, hlen, hl, hstt⟩ := cw
  have hK : Back l R p e below s args y 3 8 (PreOf R mc ms Pc) (PostOf Qc mc ms free) := va_backW (hh := hh) (bytes := bytes) (maxL := maxL) (ret := ret) hM hp.1 hrc hrs hfr hlo hws hcw (fun a' U hW => word_at hW (Or.inl (by first | rfl | simp [Cond.onTables, Cond.keeps, Cond.steady])) hini)
  obtain ⟨hx, hb, hml, ho, -⟩ := S
  intro T hT X
  obtain ⟨v, vm₁, ⟨U', l2, c2, s2⟩, hW₁, X', ⟨g', mk, t, L, e1, e2, hq, h1, hL, h2, h3⟩, st⟩ := vx_callSW X hx (hh := hh) (bytes := bytes) (maxL := maxL) (ret := ret) ho hl hstt hini hcode hy hK hg (hsize.trans hml.symm) (argsL := As) (rest := rest) (fun sig h => hn.trans (hlen sig h)) hstack hW (by rw [hb]; exact hdg)
    (fun vm₁ hW₁ => ⟨hf.1, hf.2, hp.2 (T.setVm vm₁) hT hW₁⟩)
  dsimp only [Pt.U, Pt.locs, Pt.cells, Pt.slots] at X' e1 e2 h1 h2 h3 st
  subst h1; subst h2; subst h3
  exact ⟨v, (T.setVm vm₁).calling g' mk As.toArray, t, U', L, hT, X', hL, e1, e2, hq, st⟩
/-- not caught here, past rows that name other classes: it goes on to the caller -/
theorem vx_outP {p : Program} {l : Launch} {e : Env} {R : Room} {s : State} {m : MethodId} {args : Array Value} {below : List Frame} {meth : Method} {c : Code} {H : Heap} {locs : List Loc} {cells slots : Nat} {free : Addr → Prop} {ls : Array Slot} {rest : List Value} {Qc : Array Value → State → Outcome → State → Prop} {XC : String → State → State → Prop}
    {pc : Nat} {own E : String} {ce : Cell} {q : Addr} {mc ms : Nat} (hown : s.vm.findClass own = some m.cls) (hlocks : meth.locks = false)
    (hpass : ∀ z ∈ c.exceptionTable.toList, covers z pc = false ∨ (z.catchType ≠ 0 ∧ ∃ nm : String, (Cond.classLink own z.catchType nm).before args s = true ∧ va_Nc E nm s)) (hcell : H[q]? = some ce) (hv : ce.vm = .none) (hcl : s.vm.findClass E = some ce.cls)
    (hx : ∀ t : State, t.heap = H → s.vm.Alike t.vm → XC E s t) (hf : ∀ z ∈ locs, free z.base) (hc : cells ≤ mc) (hs : slots ≤ ms) :
    vx_W p l e R s m args below meth c H locs cells slots (vx_MQ below Qc XC args s mc ms free) (F0 m pc ls rest) q := by
  intro T hT X
  have hpl : e.platform.magicAccessors = ({} : Platform).magicAccessors := by rw [X.admits.platform]
  obtain ⟨vm', hW', X', st⟩ := X.outThrough hlocks q (g := F0 m pc ls rest) rfl rfl rfl (cell := ce) (by rw [hT]; exact hcell) (by rw [hv]; rfl)
    (by obtain ⟨k9, h9, -⟩ := Vm.findClass_spec hcl; exact ⟨k9, h9⟩) (fun z hz => by
      rcases hpass z hz with h | ⟨hz0, nm, hl1, hn1⟩
      · exact Or.inl h
      · obtain ⟨c6, hc6, hcl6⟩ := Cond.classLink_spec hown hl1 e.platform hpl
        obtain ⟨a8, b8, h1, h2, h3⟩ := hn1
        cases Option.some.inj (h1.symm.trans hcl)
        cases Option.some.inj (h2.symm.trans hc6)
        exact Or.inr ⟨hz0, _, hcl6, h3⟩)
  obtain ⟨g₀, hfr⟩ := X'.frames_eq
  have hcell9 : ((T.setVm vm').setFrames (.throwing q :: below)).heap[q]? = some ce := by
    show T.heap[q]? = some ce
    rw [hT]; exact hcell
  have hend : Ended ((T.setVm vm').setFrames (.throwing q :: below)) below (.threw q) := State.frames_setFrames _ (State.cur_lt_of_frames hfr)
  refine ⟨(T.setVm vm').setFrames (.throwing q :: below), ?_, .threw q, X'.here.running, hend, Or.inr ⟨q, rfl, E, ce, locs, hx _ hT (X'.ends _).1.alike, hcell9, hv, hcl, (X'.ends _).1, (X'.ends _).2.mono hc hs, hf⟩⟩
  rw [X.pushThrowing_eq]
  exact st
/-- a thing of a world lies in the heap -/
theorem vx_lt {D : va_G} {cl : List vw_C} {ws : va_W} {H1 : Heap} (h : va_P D cl ws H1) {k : Nat} {q : Nat × va_E} (hk : ws[k]? = some q) : q.1 < H1.size := (h k q hk).lt
end VXS
/-! ===== END ===== -/
/-! ===== BEGIN methods with a table of their own: called by a name, returning or throwing ===== -/
section VXH
/-! vx_backW, vx_callVX, vx_callSX, vx_callVW, vx_runVW, vx_runVX, vx_runSX, vx_ofWH follow the same proofs as their sisters above (Free/Laws.lean, Shelf42/LK1.lean); vx_outP calls Shelf42/NT130.lean (outThrough). -/
section
variable {l : Launch} {R : Room} {p : Program} {e : Env} {below : List Frame} {s : State} {sargs : Array Value} {y : MethodName} {len W9 : Nat}
theorem vx_backW {ws : List Cond} {rm : Room} {Pc : Array Value → State → Prop} {Qc : Array Value → State → Outcome → State → Prop} {XC : String → State → State → Prop} {mc ms : Nat} {free : Addr → Prop} {bytes : ByteArray} {maxL : Nat} {ret : Option FieldType} {hh : List (Nat × Nat × Nat × Nat)}
    (hM : vx_Met l y ws rm Pc Qc XC mc ms free) (hblind : FrameBlind Pc) (hrc : rm.cells = mc) (hrs : rm.slots = ms)
    (hframes : rm.frames + 1 ≤ R.frames) (hlocals : W9 + (maxL + 11) + rm.locals ≤ R.locals)
    (hws : ∀ w ∈ ws, ∀ a' U, s.WarmedH U.vm → w.before a' U = true) (hcode : Cond.codeWith y bytes maxL ret hh ∈ ws) (hinit : ∀ a' U, s.WarmedH U.vm → (Cond.initialized y.cls).before a' U = true) :
    vx_Back l R p e below s sargs y len W9 (PreOf R mc ms Pc) (PostOf Qc mc ms free) (vx_Post XC mc ms free) := by
  intro m meth c A g ig mk a X hg hsize hdg hW hn hp
  have h1 : (headSpec ws rm).pre.before a A.U = true := atoms_intro fun w hw => hws w hw _ _ X.warmed
  have h2 : (Cond.codeWith y bytes maxL ret hh).before a A.U = true := hws _ hcode _ _ X.warmed
  have h3 : (Cond.initialized y.cls).before a A.U = true := hinit _ _ X.warmed
  have h4 : A.cells + (headSpec ws rm).room.cells ≤ R.cells := by rw [show (headSpec ws rm).room.cells = mc from hrc]; exact hp.1
  have h5 : A.slots + (headSpec ws rm).room.slots ≤ R.slots := by rw [show (headSpec ws rm).room.slots = ms from hrs]; exact hp.2.1
  have hPc : Pc a (A.U.calling g mk a) := hblind _ _ _ _ hp.2.2
  obtain ⟨U, Ls, c0, s0⟩ := A
  dsimp only [Pt.U, Pt.locs, Pt.cells, Pt.slots] at h1 h2 h3 h4 h5 X hn hPc ⊢
  obtain ⟨m9, methY, cY, hn9, hmY, hcY, -, hlY, -⟩ := Cond.codeWith_spec h2
  cases Option.some.inj (hn9.symm.trans hn)
  obtain ⟨kY, hkY, -⟩ := className_of_methodNamed hn
  have hinitY : kY.init = .initialized := Cond.initialized_spec (findClass_of_methodNamed hn) hkY h3
  have h : At U g.method c below := by rw [hg]; exact X.here
  have hlocals9 : W9 + (maxL + 11) + (headSpec ws rm).room.locals ≤ R.locals := hlocals
  have happ : (headSpec ws rm).appliesLoose y e.platform (U.calling g mk a) = true :=
    Spec.appliesLoose_calling (g := g) h hdg hn hkY hinitY
      (X.room_calling (g := g) (R' := (headSpec ws rm).room) hsize hmY hcY hframes (by rw [hlY]; omega) h4 h5) h1
  obtain ⟨mid, hmid⟩ := h.above
  have hfr : (U.setTop g).frames = (.java g :: mid) ++ below := by rw [State.frames_setTop' g h.top, hmid]; rfl
  obtain ⟨o, s₂, hsteps, -, hend, hq⟩ := Steps.callFree hM p X.admits X.cas X.clock (acts := []) hfr happ hPc trivial
  have hq' : vx_Q Qc XC mc ms free a (U.calling g mk a) o s₂ := hq
  rw [State.frames_setTop' g h.top] at hend
  obtain ⟨g₀, hg0⟩ := Option.isSome_iff_exists.mp h.top
  obtain ⟨r, hr⟩ := State.topJava?_eq_some.mp hg0
  have hr' : (({ U with heap := s₂.heap, slotsUsed := s₂.slotsUsed } : State).setVm s₂.vm).frames = .java g₀ :: r := hr
  rcases hq' with ⟨hqc, L, hfe, hL⟩ | ⟨q, rfl, E, ce, L, hx, hce, hcv, hcl, hW₂, hsm, hL⟩
  · obtain ⟨⟨v, rfl⟩, hW₂, e2, q2, q3, q4, q5, q6⟩ := id hfe
    have e3 : s₂ = ({ (U.calling g mk a).setFrames s₂.frames with heap := s₂.heap, slotsUsed := s₂.slotsUsed } : State).setVm s₂.vm := by
      have : s₂ = ({ s₂ with vm := (U.calling g mk a).vm } : State).setVm s₂.vm := rfl
      rw [e2] at this
      exact this
    obtain ⟨c₂, i₂, len₂, hc₂, hd₂, hf₂⟩ := hend
    have hW' : U.WarmedH s₂.vm := hW₂
    have hcc : c₂ = c := by
      have h1 : s₂.code? g.method = U.code? g.method := by
        rw [State.code?_eq, State.code?_eq, hW'.alike.method?]
      exact Option.some.inj (hc₂.symm.trans (h1.trans h.code))
    subst hcc
    have hlen : len₂ = len := by rw [hdg] at hd₂; cases hd₂; rfl
    subst hlen
    have hs₂ : s₂ = (({ U with heap := s₂.heap, slotsUsed := s₂.slotsUsed } : State).setVm s₂.vm).setTop { g with pc := g.pc + len₂, stack := v.toList ++ g.stack } := by
      refine e3.trans ?_
      rw [hf₂, State.calling_eq h.top, State.setFrames_setFrames, State.setTop_of_frames _ hr', hr]
      rfl
    have hsame : U.sameButNew ({ U with heap := s₂.heap, slotsUsed := s₂.slotsUsed } : State) L mc ms := by
      refine ⟨?_, q2, q3, q4, q5, q6⟩
      obtain ⟨t, ht, -⟩ := State.frames_cons hr
      show ({ U with heap := s₂.heap, slotsUsed := s₂.slotsUsed } : State) = { U.setFrames U.frames with heap := s₂.heap, slotsUsed := s₂.slotsUsed }
      rw [State.setFrames_self ht]
    subst hg
    refine Or.inl ⟨v, ⟨(({ U with heap := s₂.heap, slotsUsed := s₂.slotsUsed } : State).setVm s₂.vm), Ls ++ L, c0 + mc, s0 + ms⟩,
      ⟨X.admits, X.cas, X.clock, X.frames, X.room, X.hears, X.method, X.code, (X.here.setHeapUsed s₂.heap s₂.slotsUsed).setVm hW'.alike, X.tail, State.WarmedH.trans X.warmed hW', X.limits, X.bytes, X.same.trans (hsame.setVm s.vm)⟩,
      ⟨g, mk, s₂, L, rfl, rfl, hqc, rfl, hL, rfl, rfl⟩, ?_⟩
    show Steps p.tables e below _ ((({ U with heap := s₂.heap, slotsUsed := s₂.slotsUsed } : State).setVm s₂.vm).setTop { g with pc := g.pc + len₂, stack := v.toList ++ g.stack })
    rw [← hs₂]
    exact hsteps
  · obtain ⟨e2, q2, q3, q4, q5, q6⟩ := id hsm
    have e3 : s₂ = ({ (U.calling g mk a).setFrames s₂.frames with heap := s₂.heap, slotsUsed := s₂.slotsUsed } : State).setVm s₂.vm := by
      have : s₂ = ({ s₂ with vm := (U.calling g mk a).vm } : State).setVm s₂.vm := rfl
      rw [e2] at this
      exact this
    have hf₂ : s₂.frames = .throwing q :: .java g :: U.frames.tail := hend
    have hW' : U.WarmedH s₂.vm := hW₂
    have hs₂ : s₂ = ((({ U with heap := s₂.heap, slotsUsed := s₂.slotsUsed } : State).setVm s₂.vm).setTop g).pushFrame (.throwing q) := by
      refine e3.trans ?_
      rw [hf₂, State.calling_eq h.top, State.setFrames_setFrames, State.pushFrame, State.frames_setTop _ hr', State.setTop_of_frames _ hr', State.setFrames_setFrames, hr]
      rfl
    have hsame : U.sameButNew ({ U with heap := s₂.heap, slotsUsed := s₂.slotsUsed } : State) L mc ms := by
      refine ⟨?_, q2, q3, q4, q5, q6⟩
      obtain ⟨t, ht, -⟩ := State.frames_cons hr
      show ({ U with heap := s₂.heap, slotsUsed := s₂.slotsUsed } : State) = { U.setFrames U.frames with heap := s₂.heap, slotsUsed := s₂.slotsUsed }
      rw [State.setFrames_self ht]
    subst hg
    refine Or.inr ⟨q, ⟨(({ U with heap := s₂.heap, slotsUsed := s₂.slotsUsed } : State).setVm s₂.vm), Ls ++ L, c0 + mc, s0 + ms⟩,
      ⟨X.admits, X.cas, X.clock, X.frames, X.room, X.hears, X.method, X.code, (X.here.setHeapUsed s₂.heap s₂.slotsUsed).setVm hW'.alike, X.tail, State.WarmedH.trans X.warmed hW', X.limits, X.bytes, X.same.trans (hsame.setVm s.vm)⟩,
      ⟨g, mk, s₂, L, E, ce, rfl, rfl, hx, hce, hcv, hcl, rfl, hL, rfl, rfl⟩, ?_⟩
    show Steps p.tables e below _ (((({ U with heap := s₂.heap, slotsUsed := s₂.slotsUsed } : State).setVm s₂.vm).setTop g).pushFrame (.throwing q))
    rw [← hs₂]
    exact hsteps
end
variable {p : Program} {l : Launch} {e : Env} {R : Room} {s : State} {m : MethodId} {args : Array Value} {below : List Frame} {meth : Method} {c : Code} {T : State} {H : Heap} {locs : List Loc} {cells slots : Nat}
theorem vx_callVX (X : Stand p l e R s m args below meth c T locs cells slots) (hexec : p.tables.exec = Jvm.exec) {own C : String} {index : Nat} {y : MethodName} {bytes : ByteArray} {maxL : Nat} {ret : Option FieldType} {hh : List (Nat × Nat × Nat × Nat)}
    (hown : s.vm.findClass own = some m.cls) (hlink : (Cond.methodLink own index y).before args s = true) (hinst : (Cond.instanceMethod y).before args s = true) (hsel : (Cond.selects C y y).before args s = true)
    (hcode : (Cond.codeWith y bytes maxL ret hh).before args s = true) (hy : y.cls ≠ "java/lang/invoke/MethodHandle" ∧ y.cls ≠ "java/lang/invoke/VarHandle")
    {W9 : Nat} {Pre : Pt → Array Value → Prop} {Post : Pt → Array Value → Option Value → Pt → Prop} {PostX : Pt → Array Value → Addr → Pt → Prop} (hK : vx_Back l R p e below s args y 3 W9 Pre Post PostX)
    {b : Addr} {cellB : Cell} (hcell : T.heap[b]? = some cellB) (hobj : cellB.vm.isStatics = false) (hcls : s.vm.findClass C = some cellB.cls)
    {g : JFrame} (hg : g.method = m) (hsize : g.locals.size = c.maxLocals) {argsL rest : List Value} (hlen : ∀ sig, parseMethodDescriptor y.desc = some sig → argsL.length = sig.parameters.length)
    (hstack : g.stack = argsL.reverse ++ .ref b :: rest) (hW : 2 * g.monitorRoom + (rest.map fun v => v.category).sum ≤ W9) (hdg : decode c.code g.pc = .ok (.invokevirtual index, 3))
    (hpre : ∀ vm₁, s.WarmedH vm₁ → Pre ⟨T.setVm vm₁, locs, cells, slots⟩ (Value.ref b :: argsL).toArray) :
    (∃ (v : Option Value) (vm₁ : Vm) (B : Pt), s.WarmedH vm₁ ∧ Stand p l e R s m args below meth c B.U B.locs B.cells B.slots ∧ Post ⟨T.setVm vm₁, locs, cells, slots⟩ (Value.ref b :: argsL).toArray v B ∧
      ∀ target, Steps p.tables e below (B.U.setTop { g with pc := g.pc + 3, stack := v.toList ++ rest }) target → Steps p.tables e below (T.setTop g) target) ∨
    (∃ (q : Addr) (vm₁ : Vm) (B : Pt), s.WarmedH vm₁ ∧ Stand p l e R s m args below meth c B.U B.locs B.cells B.slots ∧ PostX ⟨T.setVm vm₁, locs, cells, slots⟩ (Value.ref b :: argsL).toArray q B ∧
      Steps p.tables e below (T.setTop g) ((B.U.setTop { g with stack := rest }).pushFrame (.throwing q))) := by
  obtain ⟨mk, methM, hnamed, hmethM, hstM, habM⟩ := Cond.instanceMethod_spec hinst
  obtain ⟨m8, methM', cM, hn8, hmethM', -, -, -, -, -, -, hsigM⟩ := Cond.codeWith_spec hcode
  cases Option.some.inj (hn8.symm.trans hnamed)
  cases hmethM.symm.trans hmethM'
  obtain ⟨c2, r2, m2, q1, q2, q3, q4, kP, hkP, hkPi⟩ := Cond.selects_spec hsel
  cases hcls.symm.trans q1
  cases (State.methodFound?_of_named hnamed hy).symm.trans q2
  cases hnamed.symm.trans q3
  have hselP : selectMethod e.platform s.vm cellB.cls mk = .method mk := by rw [Launch.admits_selectMethod X.admits]; exact q4
  obtain ⟨vm₁, X₁, hstep₁⟩ := X.invokevirtual hexec hown hlink hnamed hmethM hstM hkP hkPi hy (a := b) (cell := cellB) hcell
    (fun z h => by rw [h] at hobj; cases hobj) hselP hmethM habM hkP hkPi (g := g) hg (argsL := argsL) (rest := rest) (hlen _ hsigM) hstack hdg
  rcases hK m meth c ⟨T.setVm vm₁, locs, cells, slots⟩ { g with stack := rest } (.invokevirtual index) mk (Value.ref b :: argsL).toArray X₁ hg hsize hdg hW (X₁.named hnamed) (hpre vm₁ X₁.warmed) with ⟨v, B, X', hpost, hsteps⟩ | ⟨q, B, X', hpost, hsteps⟩
  · exact Or.inl ⟨v, vm₁, B, X₁.warmed, X', hpost, fun target h => hstep₁ _ fun acts => by rw [doInvoke_state]; exact hsteps.trans h⟩
  · exact Or.inr ⟨q, vm₁, B, X₁.warmed, X', hpost, hstep₁ _ fun acts => by rw [doInvoke_state]; exact hsteps⟩
theorem vx_callSX (X : Stand p l e R s m args below meth c T locs cells slots) (hexec : p.tables.exec = Jvm.exec) {own : String} {index : Nat} {y : MethodName} {bytes : ByteArray} {maxL : Nat} {ret : Option FieldType} {hh : List (Nat × Nat × Nat × Nat)}
    (hown : s.vm.findClass own = some m.cls) (hlink : (Cond.methodLink own index y).before args s = true) (hstat : (Cond.static y).before args s = true) (hinit : (Cond.initialized y.cls).before args s = true)
    (hcode : (Cond.codeWith y bytes maxL ret hh).before args s = true) (hy : y.cls ≠ "java/lang/invoke/MethodHandle" ∧ y.cls ≠ "java/lang/invoke/VarHandle")
    {W9 : Nat} {Pre : Pt → Array Value → Prop} {Post : Pt → Array Value → Option Value → Pt → Prop} {PostX : Pt → Array Value → Addr → Pt → Prop} (hK : vx_Back l R p e below s args y 3 W9 Pre Post PostX)
    {g : JFrame} (hg : g.method = m) (hsize : g.locals.size = c.maxLocals) {argsL rest : List Value} (hlen : ∀ sig, parseMethodDescriptor y.desc = some sig → argsL.length = sig.parameters.length)
    (hstack : g.stack = argsL.reverse ++ rest) (hW : 2 * g.monitorRoom + (rest.map fun v => v.category).sum ≤ W9) (hdg : decode c.code g.pc = .ok (.invokestatic index, 3))
    (hpre : ∀ vm₁, s.WarmedH vm₁ → Pre ⟨T.setVm vm₁, locs, cells, slots⟩ argsL.toArray) :
    (∃ (v : Option Value) (vm₁ : Vm) (B : Pt), s.WarmedH vm₁ ∧ Stand p l e R s m args below meth c B.U B.locs B.cells B.slots ∧ Post ⟨T.setVm vm₁, locs, cells, slots⟩ argsL.toArray v B ∧
      ∀ target, Steps p.tables e below (B.U.setTop { g with pc := g.pc + 3, stack := v.toList ++ rest }) target → Steps p.tables e below (T.setTop g) target) ∨
    (∃ (q : Addr) (vm₁ : Vm) (B : Pt), s.WarmedH vm₁ ∧ Stand p l e R s m args below meth c B.U B.locs B.cells B.slots ∧ PostX ⟨T.setVm vm₁, locs, cells, slots⟩ argsL.toArray q B ∧
      Steps p.tables e below (T.setTop g) ((B.U.setTop { g with stack := rest }).pushFrame (.throwing q))) := by
  obtain ⟨mk, methM, cM, hnamed, hmethM, -, -, -, -, -, -, hsigM⟩ := Cond.codeWith_spec hcode
  have hstatic : methM.isStatic = true := Cond.static_spec hnamed hmethM hstat
  obtain ⟨kP, hkP, -⟩ := className_of_methodNamed hnamed
  have hinitP : kP.init = .initialized := Cond.initialized_spec (findClass_of_methodNamed hnamed) hkP hinit
  obtain ⟨vm₁, X₁, hstep₁⟩ := X.invokestatic hexec hown hlink hnamed hmethM hstatic hkP hinitP hy (g := g) hg (argsL := argsL) (rest := rest) (hlen _ hsigM) hstack hdg
  rcases hK m meth c ⟨T.setVm vm₁, locs, cells, slots⟩ { g with stack := rest } (.invokestatic index) mk argsL.toArray X₁ hg hsize hdg hW (X₁.named hnamed) (hpre vm₁ X₁.warmed) with ⟨v, B, X', hpost, hsteps⟩ | ⟨q, B, X', hpost, hsteps⟩
  · exact Or.inl ⟨v, vm₁, B, X₁.warmed, X', hpost, fun target h => hstep₁ _ fun acts => by rw [doInvoke_state]; exact hsteps.trans h⟩
  · exact Or.inr ⟨q, vm₁, B, X₁.warmed, X', hpost, hstep₁ _ fun acts => by rw [doInvoke_state]; exact hsteps⟩
theorem vx_callVW (X : Stand p l e R s m args below meth c T locs cells slots) (hexec : p.tables.exec = Jvm.exec) {own C : String} {index : Nat} {y : MethodName} {bytes : ByteArray} {maxL : Nat} {ret : Option FieldType} {hh : List (Nat × Nat × Nat × Nat)}
    (hown : s.vm.findClass own = some m.cls) (hlink : (Cond.methodLink own index y).before args s = true) (hinst : (Cond.instanceMethod y).before args s = true) (hsel : (Cond.selects C y y).before args s = true)
    (hcode : (Cond.codeWith y bytes maxL ret hh).before args s = true) (hy : y.cls ≠ "java/lang/invoke/MethodHandle" ∧ y.cls ≠ "java/lang/invoke/VarHandle")
    {W9 : Nat} {Pre : Pt → Array Value → Prop} {Post : Pt → Array Value → Option Value → Pt → Prop} (hK : Back l R p e below s args y 3 W9 Pre Post)
    {b : Addr} {cellB : Cell} (hcell : T.heap[b]? = some cellB) (hobj : cellB.vm.isStatics = false) (hcls : s.vm.findClass C = some cellB.cls)
    {g : JFrame} (hg : g.method = m) (hsize : g.locals.size = c.maxLocals) {argsL rest : List Value} (hlen : ∀ sig, parseMethodDescriptor y.desc = some sig → argsL.length = sig.parameters.length)
    (hstack : g.stack = argsL.reverse ++ .ref b :: rest) (hW : 2 * g.monitorRoom + (rest.map fun v => v.category).sum ≤ W9) (hdg : decode c.code g.pc = .ok (.invokevirtual index, 3))
    (hpre : ∀ vm₁, s.WarmedH vm₁ → Pre ⟨T.setVm vm₁, locs, cells, slots⟩ (Value.ref b :: argsL).toArray) :
    ∃ (v : Option Value) (vm₁ : Vm) (B : Pt), s.WarmedH vm₁ ∧ Stand p l e R s m args below meth c B.U B.locs B.cells B.slots ∧ Post ⟨T.setVm vm₁, locs, cells, slots⟩ (Value.ref b :: argsL).toArray v B ∧
      ∀ target, Steps p.tables e below (B.U.setTop { g with pc := g.pc + 3, stack := v.toList ++ rest }) target → Steps p.tables e below (T.setTop g) target := by
  obtain ⟨mk, methM, hnamed, hmethM, hstM, habM⟩ := Cond.instanceMethod_spec hinst
  obtain ⟨m8, methM', cM, hn8, hmethM', -, -, -, -, -, -, hsigM⟩ := Cond.codeWith_spec hcode
  cases Option.some.inj (hn8.symm.trans hnamed)
  cases hmethM.symm.trans hmethM'
  obtain ⟨c2, r2, m2, q1, q2, q3, q4, kP, hkP, hkPi⟩ := Cond.selects_spec hsel
  cases hcls.symm.trans q1
  cases (State.methodFound?_of_named hnamed hy).symm.trans q2
  cases hnamed.symm.trans q3
  have hselP : selectMethod e.platform s.vm cellB.cls mk = .method mk := by rw [Launch.admits_selectMethod X.admits]; exact q4
  obtain ⟨vm₁, X₁, hstep₁⟩ := X.invokevirtual hexec hown hlink hnamed hmethM hstM hkP hkPi hy (a := b) (cell := cellB) hcell
    (fun z h => by rw [h] at hobj; cases hobj) hselP hmethM habM hkP hkPi (g := g) hg (argsL := argsL) (rest := rest) (hlen _ hsigM) hstack hdg
  obtain ⟨v, B, X', hpost, hsteps⟩ := hK m meth c ⟨T.setVm vm₁, locs, cells, slots⟩ { g with stack := rest } (.invokevirtual index) mk (Value.ref b :: argsL).toArray X₁ hg hsize hdg hW (X₁.named hnamed) (hpre vm₁ X₁.warmed)
  exact ⟨v, vm₁, B, X₁.warmed, X', hpost, fun target h => hstep₁ _ fun acts => by rw [doInvoke_state]; exact hsteps.trans h⟩
abbrev vx_CVW (R : Room) (s : State) (args : Array Value) (own C : String) (index : Nat) (y : MethodName) (bytes : ByteArray) (maxL : Nat) (ret : Option FieldType) (hh : List (Nat × Nat × Nat × Nat)) (ws : List Cond) (rm : Room) (mc ms n : Nat) : Prop :=
  (rm.cells = mc ∧ rm.slots = ms ∧ rm.frames + 1 ≤ R.frames ∧ 8 + (maxL + 11) + rm.locals ≤ R.locals ∧ (∀ w ∈ ws, ∀ (a' : Array Value) (U : State), s.WarmedH U.vm → w.before a' U = true) ∧ Cond.codeWith y bytes maxL ret hh ∈ ws) ∧
  (Cond.codeWith y bytes maxL ret hh).before args s = true ∧ (Cond.initialized y.cls).before args s = true ∧ (y.cls ≠ "java/lang/invoke/MethodHandle" ∧ y.cls ≠ "java/lang/invoke/VarHandle") ∧
  (∀ sig, parseMethodDescriptor y.desc = some sig → n = sig.parameters.length) ∧ (Cond.methodLink own index y).before args s = true ∧ (Cond.instanceMethod y).before args s = true ∧ (Cond.selects C y y).before args s = true
theorem vx_cwVW {own C : String} {index maxL mc ms : Nat} {y : MethodName} {bytes : ByteArray} {ret : Option FieldType} {hh : List (Nat × Nat × Nat × Nat)} {Ts ws ws' : List Cond} {rm : Room} (n : Nat) (ht : ∀ w ∈ Ts, w.before args s = true) (hT : GoodIn Ts (wsV own index C y ws)) (hw : ws = Cond.codeWith y bytes maxL ret hh :: ws') (hrc : rm.cells = mc) (hrs : rm.slots = ms)
    (hd : y.cls = C ∧ y.cls ≠ "java/lang/invoke/MethodHandle" ∧ y.cls ≠ "java/lang/invoke/VarHandle" ∧ (parseMethodDescriptor y.desc).map (fun d => d.parameters.length) = some n) (hR : rm.frames + 1 ≤ R.frames ∧ 8 + (maxL + 11) + rm.locals ≤ R.locals) :
    vx_CVW R s args own C index y bytes maxL ret hh ws rm mc ms n := by
  obtain ⟨hC, hd⟩ := hd
  subst hC
  have ok : ∀ w ∈ wsV own index y.cls y ws, w.before args s = true := fun w h => ht w (hT w h).1
  have hG : GoodIn Ts ws := fun w h => hT w (by unfold wsV; exact List.mem_append_right _ h)
  have hc : Cond.codeWith y bytes maxL ret hh ∈ ws := by rw [hw]; exact List.mem_cons_self
  refine ⟨⟨hrc, hrs, hR.1, hR.2, pay_in ht hG, hc⟩, ht _ (hG _ hc).1, ok _ (by simp [wsV]), ⟨hd.1, hd.2.1⟩, fun sig h => ?_, ok _ (by simp [wsV]), ok _ (by simp [wsV]), ok _ (by simp [wsV])⟩
  have h2 := hd.2.2
  rw [h] at h2
  exact (Option.some.inj h2).symm
theorem vx_runVW {y : MethodName} {bytes cc : ByteArray} {maxL nL mc ms n index : Nat} {ret : Option FieldType} {hh : List (Nat × Nat × Nat × Nat)} {ws : List Cond} {rm : Room} {Pc : Array Value → State → Prop} {Qc : Array Value → State → Outcome → State → Prop} {free : Addr → Prop} {Ts : List Cond} {own C : String} {b : Addr} {As rest : List Value} {g : JFrame}
    (S : CallFix p m c cc nL s args Ts own) (hM : Met l y ws rm Pc Qc mc ms free) (cw : vx_CVW R s args own C index y bytes maxL ret hh ws rm mc ms n) (hp : PreV s H C b Pc As)
    (hg : g.method = m) (hn : As.length = n) (hsize : g.locals.size = nL) (hstack : g.stack = As.reverse ++ .ref b :: rest) (hW : 2 * g.monitorRoom + (rest.map fun v => v.category).sum ≤ 8) (hdg : decode cc g.pc = .ok (.invokevirtual index, 3)) (hf : cells + mc ≤ R.cells ∧ slots + ms ≤ R.slots) :
    va_Run p l e R s m args below meth c H locs cells slots mc ms g rest (Qc (Value.ref b :: As).toArray) free := by
  obtain ⟨⟨hrc, hrs, hfr, hlo, hws, hcw⟩, hcode, hini, hy, hlen, hl, hin, hse⟩ := cw
  have hK : Back l R p e below s args y 3 8 (PreOf R mc ms Pc) (PostOf Qc mc ms free) := va_backW (hh := hh) (bytes := bytes) (maxL := maxL) (ret := ret) hM hp.1 hrc hrs hfr hlo hws hcw (fun a' U hW => word_at hW (Or.inl (by first | rfl | simp [Cond.onTables, Cond.keeps, Cond.steady])) hini)
  obtain ⟨hx, hb, hml, ho, -⟩ := S
  obtain ⟨-, ⟨cellB, hcB, hoB, hclB⟩, hPc⟩ := hp
  intro T hT X
  obtain ⟨v, vm₁, ⟨U', l2, c2, s2⟩, hW₁, X', ⟨g', mk, t, L, e1, e2, hq, h1, hL, h2, h3⟩, st⟩ := vx_callVW X hx (C := C) (hh := hh) (bytes := bytes) (maxL := maxL) (ret := ret) ho hl hin hse hcode hy hK (by rw [hT]; exact hcB) hoB hclB hg (hsize.trans hml.symm) (argsL := As) (rest := rest) (fun sig h => hn.trans (hlen sig h)) hstack hW (by rw [hb]; exact hdg)
    (fun vm₁ hW₁ => ⟨hf.1, hf.2, hPc (T.setVm vm₁) hT hW₁⟩)
  dsimp only [Pt.U, Pt.locs, Pt.cells, Pt.slots] at X' e1 e2 h1 h2 h3 st
  subst h1; subst h2; subst h3
  exact ⟨v, (T.setVm vm₁).calling g' mk (Value.ref b :: As).toArray, t, U', L, hT, X', hL, e1, e2, hq, st⟩
section
variable {y : MethodName} {bytes cc : ByteArray} {maxL nL mc ms n index : Nat} {ret : Option FieldType} {ws : List Cond} {rm : Room} {Pc : Array Value → State → Prop} {Qc : Array Value → State → Outcome → State → Prop} {XC : String → State → State → Prop} {free : Addr → Prop} {Ts : List Cond} {own C : String} {b : Addr} {As rest : List Value} {g : JFrame}
theorem vx_runVX {hh : List (Nat × Nat × Nat × Nat)} (S : CallFix p m c cc nL s args Ts own) (hM : vx_Met l y ws rm Pc Qc XC mc ms free) (cw : vx_CVW R s args own C index y bytes maxL ret hh ws rm mc ms n) (hp : PreV s H C b Pc As)
    (hg : g.method = m) (hn : As.length = n) (hsize : g.locals.size = nL) (hstack : g.stack = As.reverse ++ .ref b :: rest) (hW : 2 * g.monitorRoom + (rest.map fun v => v.category).sum ≤ 8) (hdg : decode cc g.pc = .ok (.invokevirtual index, 3)) (hf : cells + mc ≤ R.cells ∧ slots + ms ≤ R.slots) :
    vx_Run p l e R s m args below meth c H locs cells slots mc ms g rest (Qc (Value.ref b :: As).toArray) XC free := by
  obtain ⟨⟨hrc, hrs, hfr, hlo, hws, hcw⟩, hcode, hini, hy, hlen, hl, hin, hse⟩ := cw
  have hK : vx_Back l R p e below s args y 3 8 (PreOf R mc ms Pc) (PostOf Qc mc ms free) (vx_Post XC mc ms free) := vx_backW (hh := hh) (bytes := bytes) (maxL := maxL) (ret := ret) hM hp.1 hrc hrs hfr hlo hws hcw (fun a' U hW => word_at hW (Or.inl (by first | rfl | simp [Cond.onTables, Cond.keeps, Cond.steady])) hini)
  obtain ⟨hx, hb, hml, ho, -⟩ := S
  obtain ⟨-, ⟨cellB, hcB, hoB, hclB⟩, hPc⟩ := hp
  intro T hT X
  rcases vx_callVX X hx (C := C) (hh := hh) (bytes := bytes) (maxL := maxL) (ret := ret) ho hl hin hse hcode hy hK (by rw [hT]; exact hcB) hoB hclB hg (hsize.trans hml.symm) (argsL := As) (rest := rest) (fun sig h => hn.trans (hlen sig h)) hstack hW (by rw [hb]; exact hdg)
    (fun vm₁ hW₁ => ⟨hf.1, hf.2, hPc (T.setVm vm₁) hT hW₁⟩) with ⟨v, vm₁, ⟨U', l2, c2, s2⟩, hW₁, X', ⟨g', mk, t, L, e1, e2, hq, h1, hL, h2, h3⟩, st⟩ | ⟨q, vm₁, ⟨U', l2, c2, s2⟩, hW₁, X', ⟨g', mk, t, L, E, ce, e1, e2, hq, hce, hcv, hcl, h1, hL, h2, h3⟩, st⟩
  · dsimp only [Pt.U, Pt.locs, Pt.cells, Pt.slots] at X' e1 e2 h1 h2 h3 st
    subst h1; subst h2; subst h3
    exact Or.inl ⟨v, (T.setVm vm₁).calling g' mk (Value.ref b :: As).toArray, t, U', L, hT, X', hL, e1, e2, hq, st⟩
  · dsimp only [Pt.U, Pt.locs, Pt.cells, Pt.slots] at X' e1 e2 h1 h2 h3 st hcl
    subst h1; subst h2; subst h3
    exact Or.inr ⟨q, (T.setVm vm₁).calling g' mk (Value.ref b :: As).toArray, t, U', L, E, ce, hT, X', hL, e1, e2, hq, hce, hcv, vx_cls hW₁ hcl, st⟩
theorem vx_runSX {hh : List (Nat × Nat × Nat × Nat)} (S : CallFix p m c cc nL s args Ts own) (hM : vx_Met l y ws rm Pc Qc XC mc ms free) (cw : vx_CSW R s args own index y bytes maxL ret hh ws rm mc ms n) (hp : PreS s H Pc As)
    (hg : g.method = m) (hn : As.length = n) (hsize : g.locals.size = nL) (hstack : g.stack = As.reverse ++ rest) (hW : 2 * g.monitorRoom + (rest.map fun v => v.category).sum ≤ 8) (hdg : decode cc g.pc = .ok (.invokestatic index, 3)) (hf : cells + mc ≤ R.cells ∧ slots + ms ≤ R.slots) :
    vx_Run p l e R s m args below meth c H locs cells slots mc ms g rest (Qc As.toArray) XC free := by
  obtain ⟨⟨hrc, hrs, hfr, hlo, hws, hcw⟩, hcode, hini, hy, hlen, hl, hstt⟩ := cw
  have hK : vx_Back l R p e below s args y 3 8 (PreOf R mc ms Pc) (PostOf Qc mc ms free) (vx_Post XC mc ms free) := vx_backW (hh := hh) (bytes := bytes) (maxL := maxL) (ret := ret) hM hp.1 hrc hrs hfr hlo hws hcw (fun a' U hW => word_at hW (Or.inl (by first | rfl | simp [Cond.onTables, Cond.keeps, Cond.steady])) hini)
  obtain ⟨hx, hb, hml, ho, -⟩ := S
  intro T hT X
  rcases vx_callSX X hx (hh := hh) (bytes := bytes) (maxL := maxL) (ret := ret) ho hl hstt hini hcode hy hK hg (hsize.trans hml.symm) (argsL := As) (rest := rest) (fun sig h => hn.trans (hlen sig h)) hstack hW (by rw [hb]; exact hdg)
    (fun vm₁ hW₁ => ⟨hf.1, hf.2, hp.2 (T.setVm vm₁) hT hW₁⟩) with ⟨v, vm₁, ⟨U', l2, c2, s2⟩, hW₁, X', ⟨g', mk, t, L, e1, e2, hq, h1, hL, h2, h3⟩, st⟩ | ⟨q, vm₁, ⟨U', l2, c2, s2⟩, hW₁, X', ⟨g', mk, t, L, E, ce, e1, e2, hq, hce, hcv, hcl, h1, hL, h2, h3⟩, st⟩
  · dsimp only [Pt.U, Pt.locs, Pt.cells, Pt.slots] at X' e1 e2 h1 h2 h3 st
    subst h1; subst h2; subst h3
    exact Or.inl ⟨v, (T.setVm vm₁).calling g' mk As.toArray, t, U', L, hT, X', hL, e1, e2, hq, st⟩
  · dsimp only [Pt.U, Pt.locs, Pt.cells, Pt.slots] at X' e1 e2 h1 h2 h3 st hcl
    subst h1; subst h2; subst h3
    exact Or.inr ⟨q, (T.setVm vm₁).calling g' mk As.toArray, t, U', L, E, ce, hT, X', hL, e1, e2, hq, hce, hcv, vx_cls hW₁ hcl, st⟩
end
end VXH
theorem vx_ofWH {l : Launch} {y : MethodName} {ws ws' : List Cond} {rm : Room} {Pc : Array Value → State → Prop} {Qc : Array Value → State → Outcome → State → Prop} {XC : String → State → State → Prop} {mc ms : Nat} {free : Addr → Prop} {cc : ByteArray} {maxL : Nat} {ret : Option FieldType} {hh : List (Nat × Nat × Nat × Nat)}
    (hy : plainName y.cls = true) (hw : ws = Cond.codeWith y cc maxL ret hh :: ws')
    (body : ∀ p e s m args below meth c s₁, BodyLoose p l y (headSpec ws rm) cc maxL ret e s m args below meth c s₁ → c.maxLocals = maxL → Pc args s →
      W p l e (headSpec ws rm).room s m args below meth c s.heap [] 0 0 (vx_MQ below Qc XC args s mc ms free) (entryFrame m args maxL)) : vx_Met l y ws rm Pc Qc XC mc ms free := by
  refine MetFree.of_bodyS (code := cc) (maxLocals := maxL) (ret := ret) hy ?_ ?_
  · intro args s m h hn
    obtain ⟨m9, meth, c, hn9, h1, h2, h3, h4, -, h5, h6, -⟩ := Cond.codeWith_spec (atoms_spec (ws := ws) h _ (by rw [hw]; exact List.mem_cons_self))
    cases hn.symm.trans hn9
    exact ⟨meth, c, h1, h2, h3, h4, h5, h6⟩
  · intro p e s m args below meth c s₁ B hml hP _
    have hh0 : s₁.heap = s.heap := by rw [B.state]; rfl
    obtain ⟨t, a1, o, b1, b2, b3⟩ := body p e s m args below meth c s₁ B hml hP s₁ hh0 (Stand.of_body B)
    exact ⟨t, o, a1, b1, b2, b3⟩
/-! ===== END ===== -/
end
section
def zRAL : String := "java/util/ArrayList"
def zTAL : u_T := fun k => match k with
  | 0 => ("java/util/AbstractList", "modCount", "I", false)
  | 1 => ("java/util/ArrayList", "elementData", "[Ljava/lang/Object;", false)
  | _ => ("java/util/ArrayList", "size", "I", false)
/-- the words that any method may use: those of the tables that stay when classes are warmed -/
def GW : List Cond := lw_tbl.filter goodWord
theorem zGWin {w : Cond} (h : w ∈ lw_tbl) (hg : goodWord w = true) : w ∈ GW := List.mem_filter.mpr ⟨h, hg⟩
theorem zGWt {w : Cond} (h : w ∈ GW) : w ∈ lw_tbl := (List.mem_filter.mp h).1
theorem zGWg {w : Cond} (h : w ∈ GW) : (w.onTables && w.keeps) = true ∨ ∃ ty, w = .arrayClass ty := good_of_word (List.mem_filter.mp h).2
/-- ghosts: where the new cells begin, the classes, the array classes, some addresses, the launch -/
abbrev zGh : Type := Nat × va_G × (Nat → ClassId) × (Nat → Nat) × Launch
abbrev zM : Type := Nat → Option va_E
def zup (M : zM) (a : Nat) (e : va_E) : zM := fun q => if q = a then some e else M q
theorem zup_same {M : zM} {a : Nat} {e : va_E} : zup M a e a = some e := by simp [zup]
theorem zup_ne {M : zM} {a q : Nat} {e : va_E} (h : q ≠ a) : zup M a e q = M q := by simp [zup, h]
def zH (cl : List vw_C) (g : zGh) (M : zM) (H : Heap) : Prop := ∃ ws : va_W, va_P g.2.1 cl ws H ∧ va_D (fun q => g.1 ≤ q) ws ∧ ∀ (a : Nat) (e : va_E), M a = some e ↔ (a, e) ∈ ws
theorem zset_iff {cl : List vw_C} {D : va_G} {H : Heap} {A : Nat → Prop} {M : zM} {ws : va_W} {a k : Nat} {e0 e : va_E} (hP : va_P D cl ws H) (hD : va_D A ws) (hM : ∀ (a : Nat) (e : va_E), M a = some e ↔ (a, e) ∈ ws) (hk : ws[k]? = some (a, e0)) : ∀ (x : Nat) (e' : va_E), zup M a e x = some e' ↔ (x, e') ∈ ws.set k (a, e) := by
  have hl : k < ws.length := (List.getElem?_eq_some_iff.mp hk).1
  intro x e'
  constructor
  · intro h
    by_cases hx : x = a
    · subst hx
      rw [zup_same] at h
      cases h
      exact List.mem_of_getElem? (i := k) (List.getElem?_set_self hl)
    · rw [zup_ne hx] at h
      obtain ⟨j, hj⟩ := List.getElem?_of_mem ((hM x e').mp h)
      have hjk : k ≠ j := by
        rintro rfl
        rw [hk] at hj
        cases hj
        exact hx rfl
      exact List.mem_of_getElem? (i := j) (by rw [List.getElem?_set_ne hjk]; exact hj)
  · intro h
    obtain ⟨j, hj⟩ := List.getElem?_of_mem h
    by_cases hjk : k = j
    · subst hjk
      rw [List.getElem?_set_self hl] at hj
      cases hj
      exact zup_same
    · rw [List.getElem?_set_ne hjk] at hj
      have hx : x ≠ a := by
        rintro rfl
        exact hjk (hD.1 k j _ _ hk hj rfl)
      rw [zup_ne hx]
      exact (hM x e').mpr (List.mem_of_getElem? hj)
theorem zpush_fresh {A : Nat → Prop} {M : zM} {ws : va_W} {q : Nat} {e : va_E} (hD : va_D A (ws ++ [(q, e)])) (hM : ∀ (a : Nat) (e : va_E), M a = some e ↔ (a, e) ∈ ws) : M q = none := by
  cases h : M q with
  | none => rfl
  | some e1 =>
    obtain ⟨j, hj⟩ := List.getElem?_of_mem ((hM q e1).mp h)
    have hl : j < ws.length := (List.getElem?_eq_some_iff.mp hj).1
    have h1 : (ws ++ [(q, e)])[j]? = some (q, e1) := by rw [List.getElem?_append_left hl]; exact hj
    have h2 : (ws ++ [(q, e)])[ws.length]? = some (q, e) := by simp
    have := hD.1 j ws.length _ _ h1 h2 rfl
    omega
theorem zpush_iff {A : Nat → Prop} {M : zM} {ws : va_W} {q : Nat} {e : va_E} (hD : va_D A (ws ++ [(q, e)])) (hM : ∀ (a : Nat) (e : va_E), M a = some e ↔ (a, e) ∈ ws) : ∀ (x : Nat) (e' : va_E), zup M q e x = some e' ↔ (x, e') ∈ ws ++ [(q, e)] := by
  have hf := zpush_fresh hD hM
  intro x e'
  rw [List.mem_append, List.mem_singleton, ← hM]
  by_cases hx : x = q
  · subst hx
    rw [zup_same, hf]
    constructor
    · intro h; cases h; exact Or.inr rfl
    · rintro (h | h)
      · cases h
      · cases h; rfl
  · rw [zup_ne hx]
    constructor
    · intro h; exact Or.inl h
    · rintro (h | h)
      · exact h
      · cases h; exact absurd rfl hx
theorem zH.at {cl : List vw_C} {g : zGh} {M : zM} {H : Heap} (h : zH cl g M H) {a : Nat} {e : va_E} (hM : M a = some e) : va_at g.2.1 cl (a, e) H := by
  obtain ⟨ws, hP, -, hi⟩ := h
  obtain ⟨k, hk⟩ := List.getElem?_of_mem ((hi a e).mp hM)
  exact hP k _ hk
theorem zH.lt {cl : List vw_C} {g : zGh} {M : zM} {H : Heap} (h : zH cl g M H) {a : Nat} {e : va_E} (hM : M a = some e) : a < H.size := (h.at hM).lt
theorem zH.kept {cl : List vw_C} {g : zGh} {M : zM} {H H1 : Heap} (h : zH cl g M H) (hq : ∀ q : Nat, q < H.size → H1[q]? = H[q]?) : zH cl g M H1 := by
  obtain ⟨ws, hP, hD, hi⟩ := h
  exact ⟨ws, hP.kept (fun k q hk => hq q.1 (hP k q hk).lt), hD, hi⟩
-- locals by their places
def zas : Nat → List (Option Value) → List (Nat × Value)
  | _, [] => []
  | i, none :: t => zas (i + 1) t
  | i, some v :: t => (i, v) :: zas (i + 1) t
theorem zas_get : ∀ (L : List (Option Value)) (b i : Nat) (v : Value), L[i]? = some (some v) → (b + i, v) ∈ zas b L
  | [], b, i, v, h => by simp at h
  | none :: t, b, 0, v, h => by simp at h
  | some w :: t, b, 0, v, h => by
    simp at h
    subst h
    exact List.mem_cons_self
  | none :: t, b, i + 1, v, h => by
    have := zas_get t (b + 1) i v (by simpa using h)
    rw [show b + (i + 1) = b + 1 + i by omega]
    exact this
  | some w :: t, b, i + 1, v, h => by
    have := zas_get t (b + 1) i v (by simpa using h)
    rw [show b + (i + 1) = b + 1 + i by omega]
    exact List.mem_cons_of_mem _ this
theorem zas_ge : ∀ (L : List (Option Value)) (b : Nat) (q : Nat × Value), q ∈ zas b L → b ≤ q.1
  | [], b, q, h => by simp [zas] at h
  | none :: t, b, q, h => by
    have := zas_ge t (b + 1) q h
    omega
  | some w :: t, b, q, h => by
    rcases List.mem_cons.mp h with h | h
    · rw [h]; exact Nat.le_refl _
    · have := zas_ge t (b + 1) q h
      omega
def zk1 : Option Value → Option Value
  | some (.long _) => none
  | some (.double _) => none
  | o => o
def zk2 (v : Value) (t : List (Option Value)) : List (Option Value) := match v with
  | .long _ => none :: t.drop 1
  | .double _ => none :: t.drop 1
  | _ => t
def zst : List (Option Value) → Nat → Value → List (Option Value)
  | [], _, _ => []
  | _ :: t, 0, v => some v :: zk2 v t
  | o :: t, 1, v => zk1 o :: zst t 0 v
  | o :: t, i + 2, v => o :: zst t (i + 1) v
theorem zk2_mem {v : Value} {t : List (Option Value)} {b : Nat} {q : Nat × Value} (h : q ∈ zas (b + 1) (zk2 v t)) : q ∈ zas (b + 1) t ∧ (v.category = 2 → q.1 ≠ b + 1) := by
  have key : ∀ t : List (Option Value), q ∈ zas (b + 1) (none :: t.drop 1) → q ∈ zas (b + 1) t ∧ q.1 ≠ b + 1 := by
    intro t h
    have h1 : q ∈ zas (b + 1 + 1) (t.drop 1) := h
    have h2 := zas_ge _ _ _ h1
    cases t with
    | nil => simp [zas] at h1
    | cons o t =>
      refine ⟨?_, by omega⟩
      cases o with
      | none => exact h1
      | some w => exact List.mem_cons_of_mem _ h1
  cases v with
  | long x => exact ⟨(key t h).1, fun _ => (key t h).2⟩
  | double x => exact ⟨(key t h).1, fun _ => (key t h).2⟩
  | _ => exact ⟨h, fun h2 => by simp [Value.category] at h2⟩
theorem zst_mem : ∀ (L : List (Option Value)) (b i : Nat) (v : Value) (q : Nat × Value), q ∈ zas b (zst L i v) → q = (b + i, v) ∨ (q ∈ zas b L ∧ q.1 ≠ b + i ∧ ¬ (q.1 + 1 = b + i ∧ q.2.category = 2) ∧ (v.category = 2 → q.1 ≠ b + i + 1))
  | [], b, i, v, q, h => by simp [zst, zas] at h
  | o :: t, b, 0, v, q, h => by
    have h : q ∈ zas b (some v :: zk2 v t) := h
    rcases List.mem_cons.mp h with h | h
    · exact Or.inl h
    · have h1 := zk2_mem h
      have h2 := zas_ge _ _ _ h1.1
      refine Or.inr ⟨?_, by omega, by omega, h1.2⟩
      cases o with
      | none => exact h1.1
      | some w => exact List.mem_cons_of_mem _ h1.1
  | o :: t, b, 1, v, q, h => by
    have h : q ∈ zas b (zk1 o :: zst t 0 v) := h
    have key : q ∈ zas (b + 1) (zst t 0 v) → q = (b + 1, v) ∨ (q ∈ zas b (o :: t) ∧ q.1 ≠ b + 1 ∧ ¬ (q.1 + 1 = b + 1 ∧ q.2.category = 2) ∧ (v.category = 2 → q.1 ≠ b + 1 + 1)) := by
      intro h
      rcases zst_mem t (b + 1) 0 v q h with h | ⟨h1, h2, h3, h4⟩
      · exact Or.inl h
      · have h5 := zas_ge _ _ _ h1
        refine Or.inr ⟨?_, by omega, by omega, fun hc => by have := h4 hc; omega⟩
        cases o with
        | none => exact h1
        | some w => exact List.mem_cons_of_mem _ h1
    cases o with
    | none => exact key h
    | some w =>
      cases w with
      | long x => exact key h
      | double x => exact key h
      | _ =>
        rcases List.mem_cons.mp h with h | h
        · subst h
          exact Or.inr ⟨List.mem_cons_self, by simp, by simp [Value.category], fun _ => by show b ≠ b + 1 + 1; omega⟩
        · exact key h
  | o :: t, b, i + 2, v, q, h => by
    have h : q ∈ zas b (o :: zst t (i + 1) v) := h
    have key : q ∈ zas (b + 1) (zst t (i + 1) v) → q = (b + (i + 2), v) ∨ (q ∈ zas b (o :: t) ∧ q.1 ≠ b + (i + 2) ∧ ¬ (q.1 + 1 = b + (i + 2) ∧ q.2.category = 2) ∧ (v.category = 2 → q.1 ≠ b + (i + 2) + 1)) := by
      intro h
      rcases zst_mem t (b + 1) (i + 1) v q h with h | ⟨h1, h2, h3, h4⟩
      · exact Or.inl (by rw [h]; congr 1; omega)
      · refine Or.inr ⟨?_, by omega, fun hc => h3 ⟨by omega, hc.2⟩, fun hc => by have := h4 hc; omega⟩
        cases o with
        | none => exact h1
        | some w => exact List.mem_cons_of_mem _ h1
    cases o with
    | none => exact key h
    | some w =>
      rcases List.mem_cons.mp h with h | h
      · subst h
        exact Or.inr ⟨List.mem_cons_self, by simp, by simp, fun _ => by show b ≠ b + (i + 2) + 1; omega⟩
      · exact key h
theorem zst_len : ∀ (L : List (Option Value)) (i : Nat) (v : Value), (v.category = 2 → i + 1 < L.length) → (zst L i v).length = L.length
  | [], i, v, h => rfl
  | o :: t, 0, v, h => by
    show (zk2 v t).length + 1 = t.length + 1
    cases v with
    | long x => have := h rfl; simp [zk2] at this ⊢; omega
    | double x => have := h rfl; simp [zk2] at this ⊢; omega
    | _ => rfl
  | o :: t, 1, v, h => by
    show (zst t 0 v).length + 1 = t.length + 1
    rw [zst_len t 0 v (fun hc => by have := h hc; simp at this; omega)]
  | o :: t, i + 2, v, h => by
    show (zst t (i + 1) v).length + 1 = t.length + 1
    rw [zst_len t (i + 1) v (fun hc => by have := h hc; simp at this; omega)]
theorem lv_has.mono {ls : Array Slot} {nL : Nat} {l l' : List (Nat × Value)} (h : lv_has ls nL l) (hm : ∀ q ∈ l', q ∈ l) : lv_has ls nL l' := ⟨h.1, h.2.1, fun q hq => h.2.2 q (hm q hq)⟩
theorem zhas_get {ls : Array Slot} {nL : Nat} {L : List (Option Value)} (h : lv_has ls nL (zas 0 L)) {i : Nat} {v : Value} (hi : L[i]? = some (some v)) : ls[i]? = some (.val v) := h.2.2 (i, v) (by have := zas_get L 0 i v hi; rwa [Nat.zero_add] at this)
theorem zst1 {L L' : List (Option Value)} {i : Nat} {v : Value} (hc : v.category = 1) (hL : zst L i v = L') {ls : Array Slot} {nL : Nat} (h : lv_has ls nL ((i, v) :: (zas 0 L).filter (fun q => !(q.1 == i) && !(q.1 + 1 == i && q.2.category == 2)))) : lv_has ls nL (zas 0 L') := by
  subst hL
  refine h.mono fun q hq => ?_
  rcases zst_mem L 0 i v q hq with h | ⟨h1, h2, h3, h4⟩
  · rw [Nat.zero_add] at h; rw [h]; exact List.mem_cons_self
  · refine List.mem_cons_of_mem _ (List.mem_filter.mpr ⟨h1, ?_⟩)
    rw [Nat.zero_add] at h2 h3
    simp only [Bool.and_eq_true, Bool.not_eq_true', beq_eq_false_iff_ne, ne_eq, h2, not_false_eq_true, true_and, Bool.and_eq_false_iff]
    by_cases e : q.1 + 1 = i
    · exact Or.inr fun e2 => h3 ⟨e, e2⟩
    · exact Or.inl e
theorem zst2 {L L' : List (Option Value)} {i : Nat} {v : Value} (hc : v.category = 2) (hL : zst L i v = L') {ls : Array Slot} {nL : Nat} (h : lv_has ls nL ((i, v) :: (zas 0 L).filter (fun q => !(q.1 == i) && (!(q.1 == i + 1) && !(q.1 + 1 == i && q.2.category == 2))))) : lv_has ls nL (zas 0 L') := by
  subst hL
  refine h.mono fun q hq => ?_
  rcases zst_mem L 0 i v q hq with h | ⟨h1, h2, h3, h4⟩
  · rw [Nat.zero_add] at h; rw [h]; exact List.mem_cons_self
  · refine List.mem_cons_of_mem _ (List.mem_filter.mpr ⟨h1, ?_⟩)
    have h4 := h4 hc
    rw [Nat.zero_add] at h2 h3 h4
    simp only [Bool.and_eq_true, Bool.not_eq_true', beq_eq_false_iff_ne, ne_eq, h2, h4, not_false_eq_true, true_and, Bool.and_eq_false_iff]
    by_cases e : q.1 + 1 = i
    · exact Or.inr fun e2 => h3 ⟨e, e2⟩
    · exact Or.inl e
end
section
def RX0 : String := "Milletcourt$Chronicle"
def TX0 : u_T := fun k => match k with
  | 0 => ("Milletcourt$Chronicle", "days", "[I", false)
  | 1 => ("Milletcourt$Chronicle", "numbers", "[I", false)
  | _ => ("Milletcourt$Chronicle", "count", "I", false)
def tyX0 : Nat → FieldType := fun k => match k with
  | 0 => .array .int
  | 1 => .array .int
  | _ => .int
abbrev wsX00 : List Cond := u_ws RX0 TX0 3
theorem nmX0 : ∀ a, a < 3 → ∀ b, b < 3 → a ≠ b → (TX0 a).2.1 ≠ (TX0 b).2.1 := by decide +kernel
theorem tyX0_ok : ∀ k, k < 3 → parseFieldDescriptor (TX0 k).2.2.1 = some (tyX0 k) := by decide +kernel
abbrev cX0_init : ByteArray := prog_2_method_1_code
def yX0_init : MethodName := ⟨RX0, "<init>", "(II)V"⟩
abbrev cX0_numberOn : ByteArray := prog_2_method_2_code
def yX0_numberOn : MethodName := ⟨RX0, "numberOn", "(I)I"⟩
abbrev cX0_newest : ByteArray := prog_2_method_3_code
def yX0_newest : MethodName := ⟨RX0, "newest", "()I"⟩
abbrev cX0_newestDay : ByteArray := prog_2_method_4_code
def yX0_newestDay : MethodName := ⟨RX0, "newestDay", "()I"⟩
abbrev cX0_goesBackBy : ByteArray := prog_2_method_5_code
def yX0_goesBackBy : MethodName := ⟨RX0, "goesBackBy", "(I)Z"⟩
abbrev cX0_dropNewest : ByteArray := prog_2_method_6_code
def yX0_dropNewest : MethodName := ⟨RX0, "dropNewest", "()V"⟩
abbrev cX0_tell : ByteArray := prog_2_method_7_code
def yX0_tell : MethodName := ⟨RX0, "tell", "(II)V"⟩
abbrev cX0_makeRoom : ByteArray := prog_2_method_8_code
def yX0_makeRoom : MethodName := ⟨RX0, "makeRoom", "()V"⟩
def RX1 : String := "Milletcourt$Community"
def TX1 : u_T := fun k => match k with
  | 0 => ("Milletcourt$Community", "law", "LMilletcourt$Law;", true)
  | _ => ("Milletcourt$Community", "recognition", "LMilletcourt$Chronicle;", true)
def tyX1 : Nat → FieldType := fun k => match k with
  | 0 => .object "Milletcourt$Law"
  | _ => .object "Milletcourt$Chronicle"
abbrev wsX10 : List Cond := u_ws RX1 TX1 2
theorem nmX1 : ∀ a, a < 2 → ∀ b, b < 2 → a ≠ b → (TX1 a).2.1 ≠ (TX1 b).2.1 := by decide +kernel
theorem tyX1_ok : ∀ k, k < 2 → parseFieldDescriptor (TX1 k).2.2.1 = some (tyX1 k) := by decide +kernel
abbrev cX1_init : ByteArray := prog_3_method_1_code
def yX1_init : MethodName := ⟨RX1, "<init>", "(I)V"⟩
def RX2 : String := "Milletcourt$Law"
def TX2 : u_T := fun k => match k with
  | _ => ("Milletcourt$Law", "numbers", "[LMilletcourt$Chronicle;", true)
def tyX2 : Nat → FieldType := fun k => match k with
  | _ => .array (.object "Milletcourt$Chronicle")
abbrev wsX20 : List Cond := u_ws RX2 TX2 1
theorem nmX2 : ∀ a, a < 1 → ∀ b, b < 1 → a ≠ b → (TX2 a).2.1 ≠ (TX2 b).2.1 := by decide +kernel
theorem tyX2_ok : ∀ k, k < 1 → parseFieldDescriptor (TX2 k).2.2.1 = some (tyX2 k) := by decide +kernel
abbrev cX2_init : ByteArray := prog_4_method_1_code
def yX2_init : MethodName := ⟨RX2, "<init>", "()V"⟩
abbrev cX2_numberOn : ByteArray := prog_4_method_2_code
def yX2_numberOn : MethodName := ⟨RX2, "numberOn", "(II)I"⟩
def RX3 : String := "Milletcourt$Marriage"
def TX3 : u_T := fun k => match k with
  | 0 => ("Milletcourt$Marriage", "husband", "LMilletcourt$Person;", true)
  | 1 => ("Milletcourt$Marriage", "wife", "LMilletcourt$Person;", true)
  | 2 => ("Milletcourt$Marriage", "court", "I", true)
  | 3 => ("Milletcourt$Marriage", "status", "I", false)
  | 4 => ("Milletcourt$Marriage", "owed", "I", false)
  | 5 => ("Milletcourt$Marriage", "hasHusbandAsked", "Z", false)
  | _ => ("Milletcourt$Marriage", "hasWifeAsked", "Z", false)
def tyX3 : Nat → FieldType := fun k => match k with
  | 0 => .object "Milletcourt$Person"
  | 1 => .object "Milletcourt$Person"
  | 2 => .int
  | 3 => .int
  | 4 => .int
  | 5 => .boolean
  | _ => .boolean
abbrev wsX30 : List Cond := u_ws RX3 TX3 7
theorem nmX3 : ∀ a, a < 7 → ∀ b, b < 7 → a ≠ b → (TX3 a).2.1 ≠ (TX3 b).2.1 := by decide +kernel
theorem tyX3_ok : ∀ k, k < 7 → parseFieldDescriptor (TX3 k).2.2.1 = some (tyX3 k) := by decide +kernel
abbrev cX3_init : ByteArray := prog_5_method_1_code
def yX3_init : MethodName := ⟨RX3, "<init>", "(LMilletcourt$Person;LMilletcourt$Person;II)V"⟩
abbrev cX3_lastsFor : ByteArray := prog_5_method_2_code
def yX3_lastsFor : MethodName := ⟨RX3, "lastsFor", "(LMilletcourt$Person;)Z"⟩
abbrev cX3_payDower : ByteArray := prog_5_method_3_code
def yX3_payDower : MethodName := ⟨RX3, "payDower", "()V"⟩
def RX4 : String := "Milletcourt$Person"
def TX4 : u_T := fun k => match k with
  | 0 => ("Milletcourt$Person", "number", "I", true)
  | 1 => ("Milletcourt$Person", "isMan", "Z", true)
  | 2 => ("Milletcourt$Person", "mother", "LMilletcourt$Person;", true)
  | 3 => ("Milletcourt$Person", "father", "LMilletcourt$Person;", true)
  | 4 => ("Milletcourt$Person", "birthday", "I", true)
  | 5 => ("Milletcourt$Person", "faiths", "LMilletcourt$Chronicle;", true)
  | 6 => ("Milletcourt$Person", "lives", "Z", false)
  | 7 => ("Milletcourt$Person", "goods", "J", false)
  | 8 => ("Milletcourt$Person", "turnsTo", "I", false)
  | 9 => ("Milletcourt$Person", "turnsOn", "I", false)
  | _ => ("Milletcourt$Person", "leads", "Z", false)
def tyX4 : Nat → FieldType := fun k => match k with
  | 0 => .int
  | 1 => .boolean
  | 2 => .object "Milletcourt$Person"
  | 3 => .object "Milletcourt$Person"
  | 4 => .int
  | 5 => .object "Milletcourt$Chronicle"
  | 6 => .boolean
  | 7 => .long
  | 8 => .int
  | 9 => .int
  | _ => .boolean
abbrev wsX40 : List Cond := u_ws RX4 TX4 11
theorem nmX4 : ∀ a, a < 11 → ∀ b, b < 11 → a ≠ b → (TX4 a).2.1 ≠ (TX4 b).2.1 := by decide +kernel
theorem tyX4_ok : ∀ k, k < 11 → parseFieldDescriptor (TX4 k).2.2.1 = some (tyX4 k) := by decide +kernel
abbrev cX4_init : ByteArray := prog_6_method_1_code
def yX4_init : MethodName := ⟨RX4, "<init>", "(IZLMilletcourt$Person;LMilletcourt$Person;II)V"⟩
abbrev cX4_faithNow : ByteArray := prog_6_method_2_code
def yX4_faithNow : MethodName := ⟨RX4, "faithNow", "()I"⟩
abbrev cX4_isMinorOn : ByteArray := prog_6_method_3_code
def yX4_isMinorOn : MethodName := ⟨RX4, "isMinorOn", "(I)Z"⟩
abbrev cX4_isGrownOn : ByteArray := prog_6_method_4_code
def yX4_isGrownOn : MethodName := ⟨RX4, "isGrownOn", "(I)Z"⟩
abbrev cX4_isTurning : ByteArray := prog_6_method_5_code
def yX4_isTurning : MethodName := ⟨RX4, "isTurning", "()Z"⟩
abbrev cX4_endTurning : ByteArray := prog_6_method_6_code
def yX4_endTurning : MethodName := ⟨RX4, "endTurning", "()V"⟩
abbrev cX4_leader : ByteArray := prog_6_method_7_code
def yX4_leader : MethodName := ⟨RX4, "leader", "()LMilletcourt$Person;"⟩
abbrev cX4_isLivingChildOf : ByteArray := prog_6_method_8_code
def yX4_isLivingChildOf : MethodName := ⟨RX4, "isLivingChildOf", "(LMilletcourt$Person;)Z"⟩
abbrev cX4_shares : ByteArray := prog_6_method_9_code
def yX4_shares : MethodName := ⟨RX4, "shares", "(Z)I"⟩
abbrev cX4_payUpTo : ByteArray := prog_6_method_10_code
def yX4_payUpTo : MethodName := ⟨RX4, "payUpTo", "(ILMilletcourt$Person;)I"⟩
def RX5 : String := "Milletcourt$Suit"
def TX5 : u_T := fun k => match k with
  | 0 => ("Milletcourt$Suit", "plaintiff", "LMilletcourt$Person;", true)
  | 1 => ("Milletcourt$Suit", "defendant", "LMilletcourt$Person;", true)
  | 2 => ("Milletcourt$Suit", "court", "I", true)
  | 3 => ("Milletcourt$Suit", "cents", "I", true)
  | 4 => ("Milletcourt$Suit", "witnesses", "Ljava/util/ArrayList;", true)
  | 5 => ("Milletcourt$Suit", "status", "I", false)
  | 6 => ("Milletcourt$Suit", "canJudge", "Z", false)
  | 7 => ("Milletcourt$Suit", "owed", "I", false)
  | 8 => ("Milletcourt$Suit", "judgedOn", "I", false)
  | _ => ("Milletcourt$Suit", "wasAppealed", "Z", false)
def tyX5 : Nat → FieldType := fun k => match k with
  | 0 => .object "Milletcourt$Person"
  | 1 => .object "Milletcourt$Person"
  | 2 => .int
  | 3 => .int
  | 4 => .object "java/util/ArrayList"
  | 5 => .int
  | 6 => .boolean
  | 7 => .int
  | 8 => .int
  | _ => .boolean
abbrev wsX50 : List Cond := u_ws RX5 TX5 10
theorem nmX5 : ∀ a, a < 10 → ∀ b, b < 10 → a ≠ b → (TX5 a).2.1 ≠ (TX5 b).2.1 := by decide +kernel
theorem tyX5_ok : ∀ k, k < 10 → parseFieldDescriptor (TX5 k).2.2.1 = some (tyX5 k) := by decide +kernel
abbrev cX5_init : ByteArray := prog_7_method_1_code
def yX5_init : MethodName := ⟨RX5, "<init>", "(LMilletcourt$Person;LMilletcourt$Person;II)V"⟩
abbrev cX5_isBetween : ByteArray := prog_7_method_2_code
def yX5_isBetween : MethodName := ⟨RX5, "isBetween", "(LMilletcourt$Person;)Z"⟩
abbrev cX5_doBothLive : ByteArray := prog_7_method_3_code
def yX5_doBothLive : MethodName := ⟨RX5, "doBothLive", "()Z"⟩
abbrev cX5_hasHeard : ByteArray := prog_7_method_4_code
def yX5_hasHeard : MethodName := ⟨RX5, "hasHeard", "(LMilletcourt$Person;)Z"⟩
abbrev cX5_settle : ByteArray := prog_7_method_5_code
def yX5_settle : MethodName := ⟨RX5, "settle", "(ZI)V"⟩
abbrev cX5_giveBack : ByteArray := prog_7_method_6_code
def yX5_giveBack : MethodName := ⟨RX5, "giveBack", "()V"⟩
def RX6 : String := "Milletcourt$Witness"
def TX6 : u_T := fun k => match k with
  | 0 => ("Milletcourt$Witness", "person", "LMilletcourt$Person;", true)
  | _ => ("Milletcourt$Witness", "isFor", "Z", true)
def tyX6 : Nat → FieldType := fun k => match k with
  | 0 => .object "Milletcourt$Person"
  | _ => .boolean
abbrev wsX60 : List Cond := u_ws RX6 TX6 2
theorem nmX6 : ∀ a, a < 2 → ∀ b, b < 2 → a ≠ b → (TX6 a).2.1 ≠ (TX6 b).2.1 := by decide +kernel
theorem tyX6_ok : ∀ k, k < 2 → parseFieldDescriptor (TX6 k).2.2.1 = some (tyX6 k) := by decide +kernel
abbrev cX6_init : ByteArray := prog_8_method_1_code
def yX6_init : MethodName := ⟨RX6, "<init>", "(LMilletcourt$Person;Z)V"⟩
def RX7 : String := "Milletcourt"
def TX7 : u_T := fun k => match k with
  | 0 => ("Milletcourt", "crown", "LMilletcourt$Law;", true)
  | 1 => ("Milletcourt", "communities", "Ljava/util/ArrayList;", true)
  | 2 => ("Milletcourt", "rules", "[LMilletcourt$Chronicle;", true)
  | 3 => ("Milletcourt", "persons", "Ljava/util/ArrayList;", true)
  | 4 => ("Milletcourt", "marriages", "Ljava/util/ArrayList;", true)
  | 5 => ("Milletcourt", "suits", "Ljava/util/ArrayList;", true)
  | 6 => ("Milletcourt", "decreesTold", "I", false)
  | 7 => ("Milletcourt", "rulesTold", "I", false)
  | 8 => ("Milletcourt", "today", "I", false)
  | _ => ("Milletcourt", "crownGoods", "J", false)
def tyX7 : Nat → FieldType := fun k => match k with
  | 0 => .object "Milletcourt$Law"
  | 1 => .object "java/util/ArrayList"
  | 2 => .array (.object "Milletcourt$Chronicle")
  | 3 => .object "java/util/ArrayList"
  | 4 => .object "java/util/ArrayList"
  | 5 => .object "java/util/ArrayList"
  | 6 => .int
  | 7 => .int
  | 8 => .int
  | _ => .long
abbrev wsX70 : List Cond := u_ws RX7 TX7 10
theorem nmX7 : ∀ a, a < 10 → ∀ b, b < 10 → a ≠ b → (TX7 a).2.1 ≠ (TX7 b).2.1 := by decide +kernel
theorem tyX7_ok : ∀ k, k < 10 → parseFieldDescriptor (TX7 k).2.2.1 = some (tyX7 k) := by decide +kernel
abbrev cX7_init : ByteArray := prog_1_method_1_code
def yX7_init : MethodName := ⟨RX7, "<init>", "()V"⟩
abbrev cX7_community : ByteArray := prog_1_method_2_code
def yX7_community : MethodName := ⟨RX7, "community", "()I"⟩
abbrev cX7_recognise : ByteArray := prog_1_method_3_code
def yX7_recognise : MethodName := ⟨RX7, "recognise", "(IZ)Z"⟩
abbrev cX7_decree : ByteArray := prog_1_method_4_code
def yX7_decree : MethodName := ⟨RX7, "decree", "(III)I"⟩
abbrev cX7_rule : ByteArray := prog_1_method_5_code
def yX7_rule : MethodName := ⟨RX7, "rule", "(II)I"⟩
abbrev cX7_law : ByteArray := prog_1_method_6_code
def yX7_law : MethodName := ⟨RX7, "law", "(III)I"⟩
abbrev cX7_court : ByteArray := prog_1_method_7_code
def yX7_court : MethodName := ⟨RX7, "court", "(IIII)I"⟩
abbrev cX7_person : ByteArray := prog_1_method_8_code
def yX7_person : MethodName := ⟨RX7, "person", "(ZIII)I"⟩
abbrev cX7_turn : ByteArray := prog_1_method_9_code
def yX7_turn : MethodName := ⟨RX7, "turn", "(IIII)I"⟩
abbrev cX7_recant : ByteArray := prog_1_method_10_code
def yX7_recant : MethodName := ⟨RX7, "recant", "(I)I"⟩
abbrev cX7_faith : ByteArray := prog_1_method_11_code
def yX7_faith : MethodName := ⟨RX7, "faith", "(II)I"⟩
abbrev cX7_marry : ByteArray := prog_1_method_12_code
def yX7_marry : MethodName := ⟨RX7, "marry", "(III)I"⟩
abbrev cX7_divorce : ByteArray := prog_1_method_13_code
def yX7_divorce : MethodName := ⟨RX7, "divorce", "(IZ)Z"⟩
abbrev cX7_goods : ByteArray := prog_1_method_14_code
def yX7_goods : MethodName := ⟨RX7, "goods", "(II)J"⟩
abbrev cX7_dies : ByteArray := prog_1_method_15_code
def yX7_dies : MethodName := ⟨RX7, "dies", "(I)J"⟩
abbrev cX7_sue : ByteArray := prog_1_method_16_code
def yX7_sue : MethodName := ⟨RX7, "sue", "(IIII)I"⟩
abbrev cX7_appear : ByteArray := prog_1_method_17_code
def yX7_appear : MethodName := ⟨RX7, "appear", "(I)Z"⟩
abbrev cX7_testify : ByteArray := prog_1_method_18_code
def yX7_testify : MethodName := ⟨RX7, "testify", "(IIZ)I"⟩
abbrev cX7_judge : ByteArray := prog_1_method_19_code
def yX7_judge : MethodName := ⟨RX7, "judge", "(I)Z"⟩
abbrev cX7_appeal : ByteArray := prog_1_method_20_code
def yX7_appeal : MethodName := ⟨RX7, "appeal", "(I)Z"⟩
abbrev cX7_execute : ByteArray := prog_1_method_21_code
def yX7_execute : MethodName := ⟨RX7, "execute", "(I)J"⟩
abbrev cX7_wins : ByteArray := prog_1_method_22_code
def yX7_wins : MethodName := ⟨RX7, "wins", "(II)Z"⟩
abbrev cX7_ofPerson : ByteArray := prog_1_method_23_code
def yX7_ofPerson : MethodName := ⟨RX7, "ofPerson", "(II)J"⟩
abbrev cX7_ofMarriage : ByteArray := prog_1_method_24_code
def yX7_ofMarriage : MethodName := ⟨RX7, "ofMarriage", "(II)I"⟩
abbrev cX7_ofSuit : ByteArray := prog_1_method_25_code
def yX7_ofSuit : MethodName := ⟨RX7, "ofSuit", "(II)I"⟩
abbrev cX7_treasury : ByteArray := prog_1_method_26_code
def yX7_treasury : MethodName := ⟨RX7, "treasury", "()J"⟩
abbrev cX7_all : ByteArray := prog_1_method_27_code
def yX7_all : MethodName := ⟨RX7, "all", "()J"⟩
abbrev cX7_pass : ByteArray := prog_1_method_28_code
def yX7_pass : MethodName := ⟨RX7, "pass", "(I)I"⟩
abbrev cX7_needWithin : ByteArray := prog_1_method_29_code
def yX7_needWithin : MethodName := ⟨RX7, "needWithin", "(III)V"⟩
abbrev cX7_communityAt : ByteArray := prog_1_method_30_code
def yX7_communityAt : MethodName := ⟨RX7, "communityAt", "(I)LMilletcourt$Community;"⟩
abbrev cX7_lawAt : ByteArray := prog_1_method_31_code
def yX7_lawAt : MethodName := ⟨RX7, "lawAt", "(I)LMilletcourt$Law;"⟩
abbrev cX7_personAt : ByteArray := prog_1_method_32_code
def yX7_personAt : MethodName := ⟨RX7, "personAt", "(I)LMilletcourt$Person;"⟩
abbrev cX7_personOrNullAt : ByteArray := prog_1_method_33_code
def yX7_personOrNullAt : MethodName := ⟨RX7, "personOrNullAt", "(I)LMilletcourt$Person;"⟩
abbrev cX7_marriageAt : ByteArray := prog_1_method_34_code
def yX7_marriageAt : MethodName := ⟨RX7, "marriageAt", "(I)LMilletcourt$Marriage;"⟩
abbrev cX7_suitAt : ByteArray := prog_1_method_35_code
def yX7_suitAt : MethodName := ⟨RX7, "suitAt", "(I)LMilletcourt$Suit;"⟩
abbrev cX7_needSeised : ByteArray := prog_1_method_36_code
def yX7_needSeised : MethodName := ⟨RX7, "needSeised", "(LMilletcourt$Suit;)V"⟩
abbrev cX7_chroniclesFrom : ByteArray := prog_1_method_37_code
def yX7_chroniclesFrom : MethodName := ⟨RX7, "chroniclesFrom", "([I)[LMilletcourt$Chronicle;"⟩
abbrev cX7_courtOf : ByteArray := prog_1_method_38_code
def yX7_courtOf : MethodName := ⟨RX7, "courtOf", "(ILMilletcourt$Person;LMilletcourt$Person;I)I"⟩
abbrev cX7_faithThatRules : ByteArray := prog_1_method_39_code
def yX7_faithThatRules : MethodName := ⟨RX7, "faithThatRules", "(III)I"⟩
abbrev cX7_faithAtBirth : ByteArray := prog_1_method_40_code
def yX7_faithAtBirth : MethodName := ⟨RX7, "faithAtBirth", "(LMilletcourt$Person;LMilletcourt$Person;I)I"⟩
abbrev cX7_canWitnessTurn : ByteArray := prog_1_method_41_code
def yX7_canWitnessTurn : MethodName := ⟨RX7, "canWitnessTurn", "(LMilletcourt$Person;I)Z"⟩
abbrev cX7_takeFaithsDue : ByteArray := prog_1_method_42_code
def yX7_takeFaithsDue : MethodName := ⟨RX7, "takeFaithsDue", "()V"⟩
abbrev cX7_takeByTurning : ByteArray := prog_1_method_43_code
def yX7_takeByTurning : MethodName := ⟨RX7, "takeByTurning", "(LMilletcourt$Person;I)V"⟩
abbrev cX7_leadChildren : ByteArray := prog_1_method_44_code
def yX7_leadChildren : MethodName := ⟨RX7, "leadChildren", "(LMilletcourt$Person;I)V"⟩
abbrev cX7_mayMarry : ByteArray := prog_1_method_45_code
def yX7_mayMarry : MethodName := ⟨RX7, "mayMarry", "(LMilletcourt$Person;LMilletcourt$Person;LMilletcourt$Law;)Z"⟩
abbrev cX7_howManyLast : ByteArray := prog_1_method_46_code
def yX7_howManyLast : MethodName := ⟨RX7, "howManyLast", "(LMilletcourt$Person;)I"⟩
abbrev cX7_lowestThatLasts : ByteArray := prog_1_method_47_code
def yX7_lowestThatLasts : MethodName := ⟨RX7, "lowestThatLasts", "(LMilletcourt$Person;)I"⟩
abbrev cX7_endsByAsking : ByteArray := prog_1_method_48_code
def yX7_endsByAsking : MethodName := ⟨RX7, "endsByAsking", "(LMilletcourt$Marriage;ZI)Z"⟩
abbrev cX7_endMarriagesOf : ByteArray := prog_1_method_49_code
def yX7_endMarriagesOf : MethodName := ⟨RX7, "endMarriagesOf", "(LMilletcourt$Person;)Ljava/util/ArrayList;"⟩
abbrev cX7_livingChildrenOf : ByteArray := prog_1_method_50_code
def yX7_livingChildrenOf : MethodName := ⟨RX7, "livingChildrenOf", "(LMilletcourt$Person;)Ljava/util/ArrayList;"⟩
abbrev cX7_howManyChildrenLive : ByteArray := prog_1_method_51_code
def yX7_howManyChildrenLive : MethodName := ⟨RX7, "howManyChildrenLive", "(LMilletcourt$Person;)I"⟩
abbrev cX7_removeOtherFaiths : ByteArray := prog_1_method_52_code
def yX7_removeOtherFaiths : MethodName := ⟨RX7, "removeOtherFaiths", "(Ljava/util/ArrayList;I)V"⟩
abbrev cX7_leaveEstate : ByteArray := prog_1_method_53_code
def yX7_leaveEstate : MethodName := ⟨RX7, "leaveEstate", "(LMilletcourt$Person;Ljava/util/ArrayList;Ljava/util/ArrayList;LMilletcourt$Law;)J"⟩
abbrev cX7_divide : ByteArray := prog_1_method_54_code
def yX7_divide : MethodName := ⟨RX7, "divide", "(JLjava/util/ArrayList;Z)V"⟩
abbrev cX7_lowestOf : ByteArray := prog_1_method_55_code
def yX7_lowestOf : MethodName := ⟨RX7, "lowestOf", "(Ljava/util/ArrayList;)LMilletcourt$Person;"⟩
abbrev cX7_isSeisedBetween : ByteArray := prog_1_method_56_code
def yX7_isSeisedBetween : MethodName := ⟨RX7, "isSeisedBetween", "(LMilletcourt$Person;LMilletcourt$Person;)Z"⟩
abbrev cX7_isWonBefore : ByteArray := prog_1_method_57_code
def yX7_isWonBefore : MethodName := ⟨RX7, "isWonBefore", "(LMilletcourt$Suit;LMilletcourt$Law;)Z"⟩
def RX8 : String := "MilletcourtModel"
def TX8 : u_T := fun k => match k with
  | 0 => ("MilletcourtModel", "thrown", "I", false)
  | 1 => ("MilletcourtModel", "today", "I", false)
  | 2 => ("MilletcourtModel", "communities", "I", false)
  | 3 => ("MilletcourtModel", "recognised", "[I", true)
  | 4 => ("MilletcourtModel", "decrees", "I", false)
  | 5 => ("MilletcourtModel", "decreeOf", "[I", true)
  | 6 => ("MilletcourtModel", "decreeWhat", "[I", true)
  | 7 => ("MilletcourtModel", "decreeNumber", "[I", true)
  | 8 => ("MilletcourtModel", "decreeDay", "[I", true)
  | 9 => ("MilletcourtModel", "rules", "I", false)
  | 10 => ("MilletcourtModel", "ruleOf", "[I", true)
  | 11 => ("MilletcourtModel", "ruleIs", "[I", true)
  | 12 => ("MilletcourtModel", "ruleDay", "[I", true)
  | 13 => ("MilletcourtModel", "persons", "I", false)
  | 14 => ("MilletcourtModel", "areMen", "[Z", true)
  | 15 => ("MilletcourtModel", "mothers", "[I", true)
  | 16 => ("MilletcourtModel", "fathers", "[I", true)
  | 17 => ("MilletcourtModel", "births", "[I", true)
  | 18 => ("MilletcourtModel", "areDead", "[Z", true)
  | 19 => ("MilletcourtModel", "wealth", "[J", true)
  | 20 => ("MilletcourtModel", "taken", "[I", true)
  | 21 => ("MilletcourtModel", "faiths", "[I", true)
  | 22 => ("MilletcourtModel", "turnsTo", "[I", true)
  | 23 => ("MilletcourtModel", "turnsOn", "[I", true)
  | 24 => ("MilletcourtModel", "follow", "[Z", true)
  | 25 => ("MilletcourtModel", "marriages", "I", false)
  | 26 => ("MilletcourtModel", "husbands", "[I", true)
  | 27 => ("MilletcourtModel", "wives", "[I", true)
  | 28 => ("MilletcourtModel", "marriageState", "[I", true)
  | 29 => ("MilletcourtModel", "dowers", "[I", true)
  | 30 => ("MilletcourtModel", "marriageCourt", "[I", true)
  | 31 => ("MilletcourtModel", "heAsked", "[Z", true)
  | 32 => ("MilletcourtModel", "sheAsked", "[Z", true)
  | 33 => ("MilletcourtModel", "suits", "I", false)
  | 34 => ("MilletcourtModel", "plaintiffs", "[I", true)
  | 35 => ("MilletcourtModel", "defendants", "[I", true)
  | 36 => ("MilletcourtModel", "suitCourt", "[I", true)
  | 37 => ("MilletcourtModel", "suitCents", "[I", true)
  | 38 => ("MilletcourtModel", "areProper", "[Z", true)
  | 39 => ("MilletcourtModel", "suitState", "[I", true)
  | 40 => ("MilletcourtModel", "haveAppeared", "[Z", true)
  | 41 => ("MilletcourtModel", "witnesses", "[I", true)
  | 42 => ("MilletcourtModel", "owed", "[J", true)
  | 43 => ("MilletcourtModel", "paid", "[J", true)
  | 44 => ("MilletcourtModel", "judgedOn", "[I", true)
  | 45 => ("MilletcourtModel", "areAppealed", "[Z", true)
  | 46 => ("MilletcourtModel", "crown", "J", false)
  | _ => ("MilletcourtModel", "get", "[Z", true)
def tyX8 : Nat → FieldType := fun k => match k with
  | 0 => .int
  | 1 => .int
  | 2 => .int
  | 3 => .array .int
  | 4 => .int
  | 5 => .array .int
  | 6 => .array .int
  | 7 => .array .int
  | 8 => .array .int
  | 9 => .int
  | 10 => .array .int
  | 11 => .array .int
  | 12 => .array .int
  | 13 => .int
  | 14 => .array .boolean
  | 15 => .array .int
  | 16 => .array .int
  | 17 => .array .int
  | 18 => .array .boolean
  | 19 => .array .long
  | 20 => .array .int
  | 21 => .array .int
  | 22 => .array .int
  | 23 => .array .int
  | 24 => .array .boolean
  | 25 => .int
  | 26 => .array .int
  | 27 => .array .int
  | 28 => .array .int
  | 29 => .array .int
  | 30 => .array .int
  | 31 => .array .boolean
  | 32 => .array .boolean
  | 33 => .int
  | 34 => .array .int
  | 35 => .array .int
  | 36 => .array .int
  | 37 => .array .int
  | 38 => .array .boolean
  | 39 => .array .int
  | 40 => .array .boolean
  | 41 => .array .int
  | 42 => .array .long
  | 43 => .array .long
  | 44 => .array .int
  | 45 => .array .boolean
  | 46 => .long
  | _ => .array .boolean
abbrev wsX80 : List Cond := u_ws RX8 TX8 48
theorem nmX8 : ∀ a, a < 48 → ∀ b, b < 48 → a ≠ b → (TX8 a).2.1 ≠ (TX8 b).2.1 := by decide +kernel
theorem tyX8_ok : ∀ k, k < 48 → parseFieldDescriptor (TX8 k).2.2.1 = some (tyX8 k) := by decide +kernel
abbrev cX8_init : ByteArray := prog_10_method_1_code
def yX8_init : MethodName := ⟨RX8, "<init>", "()V"⟩
abbrev cX8_thrown : ByteArray := prog_10_method_2_code
def yX8_thrown : MethodName := ⟨RX8, "thrown", "()I"⟩
abbrev cX8_holds : ByteArray := prog_10_method_3_code
def yX8_holds : MethodName := ⟨RX8, "holds", "(I)Z"⟩
abbrev cX8_in : ByteArray := prog_10_method_4_code
def yX8_in : MethodName := ⟨RX8, "in", "(III)Z"⟩
abbrev cX8_isCommunity : ByteArray := prog_10_method_5_code
def yX8_isCommunity : MethodName := ⟨RX8, "isCommunity", "(I)Z"⟩
abbrev cX8_isCourt : ByteArray := prog_10_method_6_code
def yX8_isCourt : MethodName := ⟨RX8, "isCourt", "(I)Z"⟩
abbrev cX8_isPerson : ByteArray := prog_10_method_7_code
def yX8_isPerson : MethodName := ⟨RX8, "isPerson", "(I)Z"⟩
abbrev cX8_isMarriage : ByteArray := prog_10_method_8_code
def yX8_isMarriage : MethodName := ⟨RX8, "isMarriage", "(I)Z"⟩
abbrev cX8_isSuit : ByteArray := prog_10_method_9_code
def yX8_isSuit : MethodName := ⟨RX8, "isSuit", "(I)Z"⟩
abbrev cX8_isRecognised : ByteArray := prog_10_method_10_code
def yX8_isRecognised : MethodName := ⟨RX8, "isRecognised", "(II)Z"⟩
abbrev cX8_recognises : ByteArray := prog_10_method_11_code
def yX8_recognises : MethodName := ⟨RX8, "recognises", "(IZ)V"⟩
abbrev cX8_community : ByteArray := prog_10_method_12_code
def yX8_community : MethodName := ⟨RX8, "community", "()I"⟩
abbrev cX8_recognise : ByteArray := prog_10_method_13_code
def yX8_recognise : MethodName := ⟨RX8, "recognise", "(IZ)Z"⟩
abbrev cX8_isNumber : ByteArray := prog_10_method_14_code
def yX8_isNumber : MethodName := ⟨RX8, "isNumber", "(II)Z"⟩
abbrev cX8_lawOf : ByteArray := prog_10_method_15_code
def yX8_lawOf : MethodName := ⟨RX8, "lawOf", "(III)I"⟩
abbrev cX8_decree : ByteArray := prog_10_method_16_code
def yX8_decree : MethodName := ⟨RX8, "decree", "(III)I"⟩
abbrev cX8_ruleOn : ByteArray := prog_10_method_17_code
def yX8_ruleOn : MethodName := ⟨RX8, "ruleOn", "(II)I"⟩
abbrev cX8_rule : ByteArray := prog_10_method_18_code
def yX8_rule : MethodName := ⟨RX8, "rule", "(II)I"⟩
abbrev cX8_law : ByteArray := prog_10_method_19_code
def yX8_law : MethodName := ⟨RX8, "law", "(III)I"⟩
abbrev cX8_faithOn : ByteArray := prog_10_method_20_code
def yX8_faithOn : MethodName := ⟨RX8, "faithOn", "(II)I"⟩
abbrev cX8_courtOn : ByteArray := prog_10_method_21_code
def yX8_courtOn : MethodName := ⟨RX8, "courtOn", "(IIII)I"⟩
abbrev cX8_court : ByteArray := prog_10_method_22_code
def yX8_court : MethodName := ⟨RX8, "court", "(IIII)I"⟩
abbrev cX8_takes : ByteArray := prog_10_method_23_code
def yX8_takes : MethodName := ⟨RX8, "takes", "(II)V"⟩
abbrev cX8_person : ByteArray := prog_10_method_24_code
def yX8_person : MethodName := ⟨RX8, "person", "(ZIII)I"⟩
abbrev cX8_isMinor : ByteArray := prog_10_method_25_code
def yX8_isMinor : MethodName := ⟨RX8, "isMinor", "(I)Z"⟩
abbrev cX8_isGrown : ByteArray := prog_10_method_26_code
def yX8_isGrown : MethodName := ⟨RX8, "isGrown", "(I)Z"⟩
abbrev cX8_canWitness : ByteArray := prog_10_method_27_code
def yX8_canWitness : MethodName := ⟨RX8, "canWitness", "(II)Z"⟩
abbrev cX8_turn : ByteArray := prog_10_method_28_code
def yX8_turn : MethodName := ⟨RX8, "turn", "(IIII)I"⟩
abbrev cX8_stays : ByteArray := prog_10_method_29_code
def yX8_stays : MethodName := ⟨RX8, "stays", "(I)V"⟩
abbrev cX8_recant : ByteArray := prog_10_method_30_code
def yX8_recant : MethodName := ⟨RX8, "recant", "(I)I"⟩
abbrev cX8_faith : ByteArray := prog_10_method_31_code
def yX8_faith : MethodName := ⟨RX8, "faith", "(II)I"⟩
abbrev cX8_follows : ByteArray := prog_10_method_32_code
def yX8_follows : MethodName := ⟨RX8, "follows", "(II)Z"⟩
abbrev cX8_turns : ByteArray := prog_10_method_33_code
def yX8_turns : MethodName := ⟨RX8, "turns", "(I)V"⟩
abbrev cX8_lasting : ByteArray := prog_10_method_34_code
def yX8_lasting : MethodName := ⟨RX8, "lasting", "(I)I"⟩
abbrev cX8_canMarry : ByteArray := prog_10_method_35_code
def yX8_canMarry : MethodName := ⟨RX8, "canMarry", "(II)Z"⟩
abbrev cX8_marry : ByteArray := prog_10_method_36_code
def yX8_marry : MethodName := ⟨RX8, "marry", "(III)I"⟩
abbrev cX8_paysDower : ByteArray := prog_10_method_37_code
def yX8_paysDower : MethodName := ⟨RX8, "paysDower", "(I)V"⟩
abbrev cX8_divorce : ByteArray := prog_10_method_38_code
def yX8_divorce : MethodName := ⟨RX8, "divorce", "(IZ)Z"⟩
abbrev cX8_goods : ByteArray := prog_10_method_39_code
def yX8_goods : MethodName := ⟨RX8, "goods", "(II)J"⟩
abbrev cX8_isChild : ByteArray := prog_10_method_40_code
def yX8_isChild : MethodName := ⟨RX8, "isChild", "(II)Z"⟩
abbrev cX8_units : ByteArray := prog_10_method_41_code
def yX8_units : MethodName := ⟨RX8, "units", "(I)I"⟩
abbrev cX8_gives : ByteArray := prog_10_method_42_code
def yX8_gives : MethodName := ⟨RX8, "gives", "(JI)V"⟩
abbrev cX8_lowestThatGets : ByteArray := prog_10_method_43_code
def yX8_lowestThatGets : MethodName := ⟨RX8, "lowestThatGets", "()I"⟩
abbrev cX8_isBarred : ByteArray := prog_10_method_44_code
def yX8_isBarred : MethodName := ⟨RX8, "isBarred", "(IIZ)Z"⟩
abbrev cX8_findsWidows : ByteArray := prog_10_method_45_code
def yX8_findsWidows : MethodName := ⟨RX8, "findsWidows", "(IZ)V"⟩
abbrev cX8_dies : ByteArray := prog_10_method_46_code
def yX8_dies : MethodName := ⟨RX8, "dies", "(I)J"⟩
abbrev cX8_sue : ByteArray := prog_10_method_47_code
def yX8_sue : MethodName := ⟨RX8, "sue", "(IIII)I"⟩
abbrev cX8_canJudge : ByteArray := prog_10_method_48_code
def yX8_canJudge : MethodName := ⟨RX8, "canJudge", "(I)Z"⟩
abbrev cX8_appear : ByteArray := prog_10_method_49_code
def yX8_appear : MethodName := ⟨RX8, "appear", "(I)Z"⟩
abbrev cX8_heard : ByteArray := prog_10_method_50_code
def yX8_heard : MethodName := ⟨RX8, "heard", "(I)I"⟩
abbrev cX8_canTestify : ByteArray := prog_10_method_51_code
def yX8_canTestify : MethodName := ⟨RX8, "canTestify", "(II)Z"⟩
abbrev cX8_testify : ByteArray := prog_10_method_52_code
def yX8_testify : MethodName := ⟨RX8, "testify", "(IIZ)I"⟩
abbrev cX8_isWonAt : ByteArray := prog_10_method_53_code
def yX8_isWonAt : MethodName := ⟨RX8, "isWonAt", "(II)Z"⟩
abbrev cX8_judge : ByteArray := prog_10_method_54_code
def yX8_judge : MethodName := ⟨RX8, "judge", "(I)Z"⟩
abbrev cX8_bothLive : ByteArray := prog_10_method_55_code
def yX8_bothLive : MethodName := ⟨RX8, "bothLive", "(I)Z"⟩
abbrev cX8_canAppeal : ByteArray := prog_10_method_56_code
def yX8_canAppeal : MethodName := ⟨RX8, "canAppeal", "(I)Z"⟩
abbrev cX8_goesBack : ByteArray := prog_10_method_57_code
def yX8_goesBack : MethodName := ⟨RX8, "goesBack", "(I)V"⟩
abbrev cX8_appeal : ByteArray := prog_10_method_58_code
def yX8_appeal : MethodName := ⟨RX8, "appeal", "(I)Z"⟩
abbrev cX8_execute : ByteArray := prog_10_method_59_code
def yX8_execute : MethodName := ⟨RX8, "execute", "(I)J"⟩
abbrev cX8_wins : ByteArray := prog_10_method_60_code
def yX8_wins : MethodName := ⟨RX8, "wins", "(II)Z"⟩
abbrev cX8_lowestMarriage : ByteArray := prog_10_method_61_code
def yX8_lowestMarriage : MethodName := ⟨RX8, "lowestMarriage", "(I)I"⟩
abbrev cX8_children : ByteArray := prog_10_method_62_code
def yX8_children : MethodName := ⟨RX8, "children", "(I)I"⟩
abbrev cX8_ofPerson : ByteArray := prog_10_method_63_code
def yX8_ofPerson : MethodName := ⟨RX8, "ofPerson", "(II)J"⟩
abbrev cX8_ofMarriage : ByteArray := prog_10_method_64_code
def yX8_ofMarriage : MethodName := ⟨RX8, "ofMarriage", "(II)I"⟩
abbrev cX8_ofSuit : ByteArray := prog_10_method_65_code
def yX8_ofSuit : MethodName := ⟨RX8, "ofSuit", "(II)I"⟩
abbrev cX8_treasury : ByteArray := prog_10_method_66_code
def yX8_treasury : MethodName := ⟨RX8, "treasury", "()J"⟩
abbrev cX8_all : ByteArray := prog_10_method_67_code
def yX8_all : MethodName := ⟨RX8, "all", "()J"⟩
abbrev cX8_pass : ByteArray := prog_10_method_68_code
def yX8_pass : MethodName := ⟨RX8, "pass", "(I)I"⟩
def RJx145de : String := "java/io/Serializable"
def TJx145de : u_T := fun k => match k with
  | _ => ("", "", "", false)
def tyJx145de : Nat → FieldType := fun k => match k with
  | _ => .int
abbrev wsJx145de0 : List Cond := u_ws RJx145de TJx145de 0
theorem nmJx145de : ∀ a, a < 0 → ∀ b, b < 0 → a ≠ b → (TJx145de a).2.1 ≠ (TJx145de b).2.1 := by decide +kernel
theorem tyJx145de_ok : ∀ k, k < 0 → parseFieldDescriptor (TJx145de k).2.2.1 = some (tyJx145de k) := by decide +kernel
def RJx8e188 : String := "java/lang/Cloneable"
def TJx8e188 : u_T := fun k => match k with
  | _ => ("", "", "", false)
def tyJx8e188 : Nat → FieldType := fun k => match k with
  | _ => .int
abbrev wsJx8e1880 : List Cond := u_ws RJx8e188 TJx8e188 0
theorem nmJx8e188 : ∀ a, a < 0 → ∀ b, b < 0 → a ≠ b → (TJx8e188 a).2.1 ≠ (TJx8e188 b).2.1 := by decide +kernel
theorem tyJx8e188_ok : ∀ k, k < 0 → parseFieldDescriptor (TJx8e188 k).2.2.1 = some (tyJx8e188 k) := by decide +kernel
def RJxab1ab : String := "java/lang/Iterable"
def TJxab1ab : u_T := fun k => match k with
  | _ => ("", "", "", false)
def tyJxab1ab : Nat → FieldType := fun k => match k with
  | _ => .int
abbrev wsJxab1ab0 : List Cond := u_ws RJxab1ab TJxab1ab 0
theorem nmJxab1ab : ∀ a, a < 0 → ∀ b, b < 0 → a ≠ b → (TJxab1ab a).2.1 ≠ (TJxab1ab b).2.1 := by decide +kernel
theorem tyJxab1ab_ok : ∀ k, k < 0 → parseFieldDescriptor (TJxab1ab k).2.2.1 = some (tyJxab1ab k) := by decide +kernel
def RJ9 : String := "java/lang/Math"
def TJ9 : u_T := fun k => match k with
  | _ => ("", "", "", false)
def tyJ9 : Nat → FieldType := fun k => match k with
  | _ => .int
abbrev wsJ90 : List Cond := u_ws RJ9 TJ9 0
theorem nmJ9 : ∀ a, a < 0 → ∀ b, b < 0 → a ≠ b → (TJ9 a).2.1 ≠ (TJ9 b).2.1 := by decide +kernel
theorem tyJ9_ok : ∀ k, k < 0 → parseFieldDescriptor (TJ9 k).2.2.1 = some (tyJ9 k) := by decide +kernel
abbrev cJ9_max_7cf53 : ByteArray := prog_18_method_65_code
def yJ9_max_7cf53 : MethodName := ⟨RJ9, "max", "(II)I"⟩
abbrev cJ9_min_7cf53 : ByteArray := prog_18_method_69_code
def yJ9_min_7cf53 : MethodName := ⟨RJ9, "min", "(II)I"⟩
abbrev cJ9_min_f86c9 : ByteArray := prog_18_method_70_code
def yJ9_min_f86c9 : MethodName := ⟨RJ9, "min", "(JJ)J"⟩
def RJ0 : String := "java/lang/String"
def TJ0 : u_T := fun k => match k with
  | _ => ("", "", "", false)
def tyJ0 : Nat → FieldType := fun k => match k with
  | _ => .int
abbrev wsJ00 : List Cond := u_ws RJ0 TJ0 0
theorem nmJ0 : ∀ a, a < 0 → ∀ b, b < 0 → a ≠ b → (TJ0 a).2.1 ≠ (TJ0 b).2.1 := by decide +kernel
theorem tyJ0_ok : ∀ k, k < 0 → parseFieldDescriptor (TJ0 k).2.2.1 = some (tyJ0 k) := by decide +kernel
def RJ10 : String := "java/lang/System"
def TJ10 : u_T := fun k => match k with
  | _ => ("", "", "", false)
def tyJ10 : Nat → FieldType := fun k => match k with
  | _ => .int
abbrev wsJ100 : List Cond := u_ws RJ10 TJ10 0
theorem nmJ10 : ∀ a, a < 0 → ∀ b, b < 0 → a ≠ b → (TJ10 a).2.1 ≠ (TJ10 b).2.1 := by decide +kernel
theorem tyJ10_ok : ∀ k, k < 0 → parseFieldDescriptor (TJ10 k).2.2.1 = some (tyJ10 k) := by decide +kernel
def RJxa1e45 : String := "java/util/AbstractCollection"
def TJxa1e45 : u_T := fun k => match k with
  | _ => ("", "", "", false)
def tyJxa1e45 : Nat → FieldType := fun k => match k with
  | _ => .int
abbrev wsJxa1e450 : List Cond := u_ws RJxa1e45 TJxa1e45 0
theorem nmJxa1e45 : ∀ a, a < 0 → ∀ b, b < 0 → a ≠ b → (TJxa1e45 a).2.1 ≠ (TJxa1e45 b).2.1 := by decide +kernel
theorem tyJxa1e45_ok : ∀ k, k < 0 → parseFieldDescriptor (TJxa1e45 k).2.2.1 = some (tyJxa1e45 k) := by decide +kernel
abbrev cJxa1e45_init_da8c8 : ByteArray := prog_23_method_1_code
def yJxa1e45_init_da8c8 : MethodName := ⟨RJxa1e45, "<init>", "()V"⟩
def RJxc12de : String := "java/util/AbstractList"
def TJxc12de : u_T := fun k => match k with
  | _ => ("", "", "", false)
def tyJxc12de : Nat → FieldType := fun k => match k with
  | _ => .int
abbrev wsJxc12de0 : List Cond := u_ws RJxc12de TJxc12de 0
theorem nmJxc12de : ∀ a, a < 0 → ∀ b, b < 0 → a ≠ b → (TJxc12de a).2.1 ≠ (TJxc12de b).2.1 := by decide +kernel
theorem tyJxc12de_ok : ∀ k, k < 0 → parseFieldDescriptor (TJxc12de k).2.2.1 = some (tyJxc12de k) := by decide +kernel
abbrev cJxc12de_init_da8c8 : ByteArray := prog_24_method_1_code
def yJxc12de_init_da8c8 : MethodName := ⟨RJxc12de, "<init>", "()V"⟩
def RJx4a65c : String := "java/util/ArrayList"
def TJx4a65c : u_T := fun k => match k with
  | 0 => ("java/util/AbstractList", "modCount", "I", false)
  | 1 => ("java/util/ArrayList", "elementData", "[Ljava/lang/Object;", false)
  | _ => ("java/util/ArrayList", "size", "I", false)
def tyJx4a65c : Nat → FieldType := fun k => match k with
  | 0 => .int
  | 1 => .array (.object "java/lang/Object")
  | _ => .int
abbrev wsJx4a65c0 : List Cond := u_ws RJx4a65c TJx4a65c 3
theorem nmJx4a65c : ∀ a, a < 3 → ∀ b, b < 3 → a ≠ b → (TJx4a65c a).2.1 ≠ (TJx4a65c b).2.1 := by decide +kernel
theorem tyJx4a65c_ok : ∀ k, k < 3 → parseFieldDescriptor (TJx4a65c k).2.2.1 = some (tyJx4a65c k) := by decide +kernel
abbrev cJx4a65c_init_da8c8 : ByteArray := prog_25_method_2_code
def yJx4a65c_init_da8c8 : MethodName := ⟨RJx4a65c, "<init>", "()V"⟩
abbrev cJx4a65c_grow_92f84 : ByteArray := prog_25_method_6_code
def yJx4a65c_grow_92f84 : MethodName := ⟨RJx4a65c, "grow", "(I)[Ljava/lang/Object;"⟩
abbrev cJx4a65c_grow_d5877 : ByteArray := prog_25_method_7_code
def yJx4a65c_grow_d5877 : MethodName := ⟨RJx4a65c, "grow", "()[Ljava/lang/Object;"⟩
abbrev cJx4a65c_size_8abf5 : ByteArray := prog_25_method_8_code
def yJx4a65c_size_8abf5 : MethodName := ⟨RJx4a65c, "size", "()I"⟩
abbrev cJx4a65c_isEmpty_aae02 : ByteArray := prog_25_method_9_code
def yJx4a65c_isEmpty_aae02 : MethodName := ⟨RJx4a65c, "isEmpty", "()Z"⟩
abbrev cJx4a65c_elementData_915e3 : ByteArray := prog_25_method_18_code
def yJx4a65c_elementData_915e3 : MethodName := ⟨RJx4a65c, "elementData", "(I)Ljava/lang/Object;"⟩
abbrev cJx4a65c_get_915e3 : ByteArray := prog_25_method_20_code
def yJx4a65c_get_915e3 : MethodName := ⟨RJx4a65c, "get", "(I)Ljava/lang/Object;"⟩
abbrev cJx4a65c_add_72be8 : ByteArray := prog_25_method_24_code
def yJx4a65c_add_72be8 : MethodName := ⟨RJx4a65c, "add", "(Ljava/lang/Object;[Ljava/lang/Object;I)V"⟩
abbrev cJx4a65c_add_9ea2d : ByteArray := prog_25_method_25_code
def yJx4a65c_add_9ea2d : MethodName := ⟨RJx4a65c, "add", "(Ljava/lang/Object;)Z"⟩
abbrev cJx4a65c_remove_915e3 : ByteArray := prog_25_method_29_code
def yJx4a65c_remove_915e3 : MethodName := ⟨RJx4a65c, "remove", "(I)Ljava/lang/Object;"⟩
abbrev cJx4a65c_fastRemove_b59b0 : ByteArray := prog_25_method_39_code
def yJx4a65c_fastRemove_b59b0 : MethodName := ⟨RJx4a65c, "fastRemove", "([Ljava/lang/Object;I)V"⟩
def RJ7 : String := "java/util/Arrays"
def TJ7 : u_T := fun k => match k with
  | _ => ("", "", "", false)
def tyJ7 : Nat → FieldType := fun k => match k with
  | _ => .int
abbrev wsJ70 : List Cond := u_ws RJ7 TJ7 0
theorem nmJ7 : ∀ a, a < 0 → ∀ b, b < 0 → a ≠ b → (TJ7 a).2.1 ≠ (TJ7 b).2.1 := by decide +kernel
theorem tyJ7_ok : ∀ k, k < 0 → parseFieldDescriptor (TJ7 k).2.2.1 = some (tyJ7 k) := by decide +kernel
abbrev cJ7_copyOf_1904c : ByteArray := prog_26_method_119_code
def yJ7_copyOf_1904c : MethodName := ⟨RJ7, "copyOf", "([Ljava/lang/Object;I)[Ljava/lang/Object;"⟩
abbrev cJ7_copyOf_6403c : ByteArray := prog_26_method_120_code
def yJ7_copyOf_6403c : MethodName := ⟨RJ7, "copyOf", "([Ljava/lang/Object;ILjava/lang/Class;)[Ljava/lang/Object;"⟩
abbrev cJ7_copyOf_59c91 : ByteArray := prog_26_method_123_code
def yJ7_copyOf_59c91 : MethodName := ⟨RJ7, "copyOf", "([II)[I"⟩
def RJx5ef63 : String := "java/util/Collection"
def TJx5ef63 : u_T := fun k => match k with
  | _ => ("", "", "", false)
def tyJx5ef63 : Nat → FieldType := fun k => match k with
  | _ => .int
abbrev wsJx5ef630 : List Cond := u_ws RJx5ef63 TJx5ef63 0
theorem nmJx5ef63 : ∀ a, a < 0 → ∀ b, b < 0 → a ≠ b → (TJx5ef63 a).2.1 ≠ (TJx5ef63 b).2.1 := by decide +kernel
theorem tyJx5ef63_ok : ∀ k, k < 0 → parseFieldDescriptor (TJx5ef63 k).2.2.1 = some (tyJx5ef63 k) := by decide +kernel
def RJxbd725 : String := "java/util/List"
def TJxbd725 : u_T := fun k => match k with
  | _ => ("", "", "", false)
def tyJxbd725 : Nat → FieldType := fun k => match k with
  | _ => .int
abbrev wsJxbd7250 : List Cond := u_ws RJxbd725 TJxbd725 0
theorem nmJxbd725 : ∀ a, a < 0 → ∀ b, b < 0 → a ≠ b → (TJxbd725 a).2.1 ≠ (TJxbd725 b).2.1 := by decide +kernel
theorem tyJxbd725_ok : ∀ k, k < 0 → parseFieldDescriptor (TJxbd725 k).2.2.1 = some (tyJxbd725 k) := by decide +kernel
def RJ15 : String := "java/util/Objects"
def TJ15 : u_T := fun k => match k with
  | _ => ("", "", "", false)
def tyJ15 : Nat → FieldType := fun k => match k with
  | _ => .int
abbrev wsJ150 : List Cond := u_ws RJ15 TJ15 0
theorem nmJ15 : ∀ a, a < 0 → ∀ b, b < 0 → a ≠ b → (TJ15 a).2.1 ≠ (TJ15 b).2.1 := by decide +kernel
theorem tyJ15_ok : ∀ k, k < 0 → parseFieldDescriptor (TJ15 k).2.2.1 = some (tyJ15 k) := by decide +kernel
abbrev cJ15_checkIndex_7cf53 : ByteArray := prog_29_method_17_code
def yJ15_checkIndex_7cf53 : MethodName := ⟨RJ15, "checkIndex", "(II)I"⟩
def RJxf0a74 : String := "java/util/RandomAccess"
def TJxf0a74 : u_T := fun k => match k with
  | _ => ("", "", "", false)
def tyJxf0a74 : Nat → FieldType := fun k => match k with
  | _ => .int
abbrev wsJxf0a740 : List Cond := u_ws RJxf0a74 TJxf0a74 0
theorem nmJxf0a74 : ∀ a, a < 0 → ∀ b, b < 0 → a ≠ b → (TJxf0a74 a).2.1 ≠ (TJxf0a74 b).2.1 := by decide +kernel
theorem tyJxf0a74_ok : ∀ k, k < 0 → parseFieldDescriptor (TJxf0a74 k).2.2.1 = some (tyJxf0a74 k) := by decide +kernel
def RJxa66e6 : String := "java/util/SequencedCollection"
def TJxa66e6 : u_T := fun k => match k with
  | _ => ("", "", "", false)
def tyJxa66e6 : Nat → FieldType := fun k => match k with
  | _ => .int
abbrev wsJxa66e60 : List Cond := u_ws RJxa66e6 TJxa66e6 0
theorem nmJxa66e6 : ∀ a, a < 0 → ∀ b, b < 0 → a ≠ b → (TJxa66e6 a).2.1 ≠ (TJxa66e6 b).2.1 := by decide +kernel
theorem tyJxa66e6_ok : ∀ k, k < 0 → parseFieldDescriptor (TJxa66e6 k).2.2.1 = some (tyJxa66e6 k) := by decide +kernel
def RJ8 : String := "jdk/internal/util/ArraysSupport"
def TJ8 : u_T := fun k => match k with
  | _ => ("", "", "", false)
def tyJ8 : Nat → FieldType := fun k => match k with
  | _ => .int
abbrev wsJ80 : List Cond := u_ws RJ8 TJ8 0
theorem nmJ8 : ∀ a, a < 0 → ∀ b, b < 0 → a ≠ b → (TJ8 a).2.1 ≠ (TJ8 b).2.1 := by decide +kernel
theorem tyJ8_ok : ∀ k, k < 0 → parseFieldDescriptor (TJ8 k).2.2.1 = some (tyJ8 k) := by decide +kernel
abbrev cJ8_newLength_cabcc : ByteArray := prog_32_method_27_code
def yJ8_newLength_cabcc : MethodName := ⟨RJ8, "newLength", "(III)I"⟩
abbrev cJ8_hugeLength_7cf53 : ByteArray := prog_32_method_28_code
def yJ8_hugeLength_7cf53 : MethodName := ⟨RJ8, "hugeLength", "(II)I"⟩
def RJ3 : String := "jdk/internal/util/Preconditions"
def TJ3 : u_T := fun k => match k with
  | _ => ("", "", "", false)
def tyJ3 : Nat → FieldType := fun k => match k with
  | _ => .int
abbrev wsJ30 : List Cond := u_ws RJ3 TJ3 0
theorem nmJ3 : ∀ a, a < 0 → ∀ b, b < 0 → a ≠ b → (TJ3 a).2.1 ≠ (TJ3 b).2.1 := by decide +kernel
theorem tyJ3_ok : ∀ k, k < 0 → parseFieldDescriptor (TJ3 k).2.2.1 = some (tyJ3 k) := by decide +kernel
abbrev cJ3_checkIndex_8e157 : ByteArray := prog_33_method_11_code
def yJ3_checkIndex_8e157 : MethodName := ⟨RJ3, "checkIndex", "(IILjava/util/function/BiFunction;)I"⟩
def RL : String := "MilletcourtLaw"
abbrev cL_community : ByteArray := method_3_code
def yL_community : MethodName := ⟨RL, "community", "(LMilletcourt;[J)I"⟩
abbrev cL_recognise : ByteArray := method_4_code
def yL_recognise : MethodName := ⟨RL, "recognise", "(LMilletcourt;IZ[J)I"⟩
abbrev cL_decree : ByteArray := method_5_code
def yL_decree : MethodName := ⟨RL, "decree", "(LMilletcourt;III[J)I"⟩
abbrev cL_rule : ByteArray := method_6_code
def yL_rule : MethodName := ⟨RL, "rule", "(LMilletcourt;II[J)I"⟩
abbrev cL_law : ByteArray := method_7_code
def yL_law : MethodName := ⟨RL, "law", "(LMilletcourt;III[J)I"⟩
abbrev cL_court : ByteArray := method_8_code
def yL_court : MethodName := ⟨RL, "court", "(LMilletcourt;IIII[J)I"⟩
abbrev cL_person : ByteArray := method_9_code
def yL_person : MethodName := ⟨RL, "person", "(LMilletcourt;ZIII[J)I"⟩
abbrev cL_turn : ByteArray := method_10_code
def yL_turn : MethodName := ⟨RL, "turn", "(LMilletcourt;IIII[J)I"⟩
abbrev cL_recant : ByteArray := method_11_code
def yL_recant : MethodName := ⟨RL, "recant", "(LMilletcourt;I[J)I"⟩
abbrev cL_faith : ByteArray := method_12_code
def yL_faith : MethodName := ⟨RL, "faith", "(LMilletcourt;II[J)I"⟩
abbrev cL_marry : ByteArray := method_13_code
def yL_marry : MethodName := ⟨RL, "marry", "(LMilletcourt;III[J)I"⟩
abbrev cL_divorce : ByteArray := method_14_code
def yL_divorce : MethodName := ⟨RL, "divorce", "(LMilletcourt;IZ[J)I"⟩
abbrev cL_goods : ByteArray := method_15_code
def yL_goods : MethodName := ⟨RL, "goods", "(LMilletcourt;II[J)I"⟩
abbrev cL_dies : ByteArray := method_16_code
def yL_dies : MethodName := ⟨RL, "dies", "(LMilletcourt;I[J)I"⟩
abbrev cL_sue : ByteArray := method_17_code
def yL_sue : MethodName := ⟨RL, "sue", "(LMilletcourt;IIII[J)I"⟩
abbrev cL_appear : ByteArray := method_18_code
def yL_appear : MethodName := ⟨RL, "appear", "(LMilletcourt;I[J)I"⟩
abbrev cL_testify : ByteArray := method_19_code
def yL_testify : MethodName := ⟨RL, "testify", "(LMilletcourt;IIZ[J)I"⟩
abbrev cL_judge : ByteArray := method_20_code
def yL_judge : MethodName := ⟨RL, "judge", "(LMilletcourt;I[J)I"⟩
abbrev cL_appeal : ByteArray := method_21_code
def yL_appeal : MethodName := ⟨RL, "appeal", "(LMilletcourt;I[J)I"⟩
abbrev cL_execute : ByteArray := method_22_code
def yL_execute : MethodName := ⟨RL, "execute", "(LMilletcourt;I[J)I"⟩
abbrev cL_wins : ByteArray := method_23_code
def yL_wins : MethodName := ⟨RL, "wins", "(LMilletcourt;II[J)I"⟩
abbrev cL_ofPerson : ByteArray := method_24_code
def yL_ofPerson : MethodName := ⟨RL, "ofPerson", "(LMilletcourt;II[J)I"⟩
abbrev cL_ofMarriage : ByteArray := method_25_code
def yL_ofMarriage : MethodName := ⟨RL, "ofMarriage", "(LMilletcourt;II[J)I"⟩
abbrev cL_ofSuit : ByteArray := method_26_code
def yL_ofSuit : MethodName := ⟨RL, "ofSuit", "(LMilletcourt;II[J)I"⟩
abbrev cL_pass : ByteArray := method_27_code
def yL_pass : MethodName := ⟨RL, "pass", "(LMilletcourt;I[J)I"⟩
abbrev cL_law_ : ByteArray := code
def yL_law_ : MethodName := ⟨RL, "law", "([I)Z"⟩
abbrev vwCl : List vw_C := [(RJx4a65c, TJx4a65c, 3), (RX0, TX0, 3), (RX1, TX1, 2), (RX2, TX2, 1), (RX3, TX3, 7), (RX4, TX4, 11), (RX5, TX5, 10), (RX6, TX6, 2), (RX7, TX7, 10), (RX8, TX8, 48)]
def zTX : List (String × Nat × String) := [("Milletcourt", 64, "there are 6 communities"), ("Milletcourt", 397, "there is no such community"), ("Milletcourt", 393, "a number is out of range"), ("Milletcourt", 112, "there were 100 decrees"), ("Milletcourt", 121, "there were 40 rules"), ("Milletcourt", 403, "there is no such person"), ("Milletcourt", 150, "the mother is no woman"), ("Milletcourt", 153, "the father is no man"), ("Milletcourt", 155, "a faith is told without mother and father alone"), ("Milletcourt", 157, "there are 40 persons"), ("Milletcourt", 166, "the person and the witnesses are not three"), ("Milletcourt", 179, "the person cannot turn to it now"), ("Milletcourt", 185, "a witness does not live, is a minor or of another faith"), ("Milletcourt", 193, "the person is not turning"), ("Milletcourt", 204, "the husband is no man, or the wife no woman"), ("Milletcourt", 207, "one does not live, or is a minor"), ("Milletcourt", 213, "the law does not take it"), ("Milletcourt", 215, "there are 30 marriages"), ("Milletcourt", 405, "there is no such marriage"), ("Milletcourt", 229, "the marriage does not last"), ("Milletcourt", 254, "the person does not live"), ("Milletcourt", 274, "both persons are the same"), ("Milletcourt", 276, "one does not live"), ("Milletcourt", 278, "there are 20 suits"), ("Milletcourt", 407, "there is no such suit"), ("Milletcourt", 409, "the suit is not seised"), ("Milletcourt", 302, "the defendant does not live"), ("Milletcourt", 311, "the person cannot be a witness in it"), ("Milletcourt", 321, "its court cannot judge it"), ("Milletcourt", 340, "it is neither won nor lost"), ("Milletcourt", 348, "it cannot be appealed any more"), ("Milletcourt", 353, "it is not won, or nothing is owed any more"), ("Milletcourt", 358, "one of both does not live"), ("Milletcourt", 377, "what is out of range"), ("Milletcourt", 388, "it would be above the day 30000")]
end
section
theorem dX0_init_0 : decode cX0_init 0 = .ok (.aload_n 0, 1) := by decide +kernel
theorem dX0_init_1 : decode cX0_init 1 = .ok (.invokespecial 1, 3) := by decide +kernel
theorem dX0_init_4 : decode cX0_init 4 = .ok (.aload_n 0, 1) := by decide +kernel
theorem dX0_init_5 : decode cX0_init 5 = .ok (.iconst 2, 1) := by decide +kernel
theorem dX0_init_6 : decode cX0_init 6 = .ok (.newarray .int, 2) := by decide +kernel
theorem dX0_init_8 : decode cX0_init 8 = .ok (.putfield 7, 3) := by decide +kernel
theorem dX0_init_11 : decode cX0_init 11 = .ok (.aload_n 0, 1) := by decide +kernel
theorem dX0_init_12 : decode cX0_init 12 = .ok (.iconst 2, 1) := by decide +kernel
theorem dX0_init_13 : decode cX0_init 13 = .ok (.newarray .int, 2) := by decide +kernel
theorem dX0_init_15 : decode cX0_init 15 = .ok (.putfield 13, 3) := by decide +kernel
theorem dX0_init_18 : decode cX0_init 18 = .ok (.aload_n 0, 1) := by decide +kernel
theorem dX0_init_19 : decode cX0_init 19 = .ok (.iconst 1, 1) := by decide +kernel
theorem dX0_init_20 : decode cX0_init 20 = .ok (.putfield 16, 3) := by decide +kernel
theorem dX0_init_23 : decode cX0_init 23 = .ok (.aload_n 0, 1) := by decide +kernel
theorem dX0_init_24 : decode cX0_init 24 = .ok (.getfield 7, 3) := by decide +kernel
theorem dX0_init_27 : decode cX0_init 27 = .ok (.iconst 0, 1) := by decide +kernel
theorem dX0_init_28 : decode cX0_init 28 = .ok (.iload_n 1, 1) := by decide +kernel
theorem dX0_init_29 : decode cX0_init 29 = .ok (.iastore, 1) := by decide +kernel
theorem dX0_init_30 : decode cX0_init 30 = .ok (.aload_n 0, 1) := by decide +kernel
theorem dX0_init_31 : decode cX0_init 31 = .ok (.getfield 13, 3) := by decide +kernel
theorem dX0_init_34 : decode cX0_init 34 = .ok (.iconst 0, 1) := by decide +kernel
theorem dX0_init_35 : decode cX0_init 35 = .ok (.iload_n 2, 1) := by decide +kernel
theorem dX0_init_36 : decode cX0_init 36 = .ok (.iastore, 1) := by decide +kernel
theorem dX0_init_37 : decode cX0_init 37 = .ok (.return_, 1) := by decide +kernel
theorem dX0_numberOn_0 : decode cX0_numberOn 0 = .ok (.aload_n 0, 1) := by decide +kernel
theorem dX0_numberOn_1 : decode cX0_numberOn 1 = .ok (.getfield 16, 3) := by decide +kernel
theorem dX0_numberOn_4 : decode cX0_numberOn 4 = .ok (.iconst 1, 1) := by decide +kernel
theorem dX0_numberOn_5 : decode cX0_numberOn 5 = .ok (.isub, 1) := by decide +kernel
theorem dX0_numberOn_6 : decode cX0_numberOn 6 = .ok (.istore_n 2, 1) := by decide +kernel
theorem dX0_numberOn_7 : decode cX0_numberOn 7 = .ok (.iload_n 2, 1) := by decide +kernel
theorem dX0_numberOn_8 : decode cX0_numberOn 8 = .ok (.ifCond .le 26, 3) := by decide +kernel
theorem dX0_numberOn_11 : decode cX0_numberOn 11 = .ok (.aload_n 0, 1) := by decide +kernel
theorem dX0_numberOn_12 : decode cX0_numberOn 12 = .ok (.getfield 7, 3) := by decide +kernel
theorem dX0_numberOn_15 : decode cX0_numberOn 15 = .ok (.iload_n 2, 1) := by decide +kernel
theorem dX0_numberOn_16 : decode cX0_numberOn 16 = .ok (.iaload, 1) := by decide +kernel
theorem dX0_numberOn_17 : decode cX0_numberOn 17 = .ok (.iload_n 1, 1) := by decide +kernel
theorem dX0_numberOn_18 : decode cX0_numberOn 18 = .ok (.if_icmp .gt 10, 3) := by decide +kernel
theorem dX0_numberOn_21 : decode cX0_numberOn 21 = .ok (.aload_n 0, 1) := by decide +kernel
theorem dX0_numberOn_22 : decode cX0_numberOn 22 = .ok (.getfield 13, 3) := by decide +kernel
theorem dX0_numberOn_25 : decode cX0_numberOn 25 = .ok (.iload_n 2, 1) := by decide +kernel
theorem dX0_numberOn_26 : decode cX0_numberOn 26 = .ok (.iaload, 1) := by decide +kernel
theorem dX0_numberOn_27 : decode cX0_numberOn 27 = .ok (.ireturn, 1) := by decide +kernel
theorem dX0_numberOn_28 : decode cX0_numberOn 28 = .ok (.iinc 2 (-1), 3) := by decide +kernel
theorem dX0_numberOn_31 : decode cX0_numberOn 31 = .ok (.goto (-24), 3) := by decide +kernel
theorem dX0_numberOn_34 : decode cX0_numberOn 34 = .ok (.aload_n 0, 1) := by decide +kernel
theorem dX0_numberOn_35 : decode cX0_numberOn 35 = .ok (.getfield 13, 3) := by decide +kernel
theorem dX0_numberOn_38 : decode cX0_numberOn 38 = .ok (.iconst 0, 1) := by decide +kernel
theorem dX0_numberOn_39 : decode cX0_numberOn 39 = .ok (.iaload, 1) := by decide +kernel
theorem dX0_numberOn_40 : decode cX0_numberOn 40 = .ok (.ireturn, 1) := by decide +kernel
theorem dX0_newest_0 : decode cX0_newest 0 = .ok (.aload_n 0, 1) := by decide +kernel
theorem dX0_newest_1 : decode cX0_newest 1 = .ok (.getfield 13, 3) := by decide +kernel
theorem dX0_newest_4 : decode cX0_newest 4 = .ok (.aload_n 0, 1) := by decide +kernel
theorem dX0_newest_5 : decode cX0_newest 5 = .ok (.getfield 16, 3) := by decide +kernel
theorem dX0_newest_8 : decode cX0_newest 8 = .ok (.iconst 1, 1) := by decide +kernel
theorem dX0_newest_9 : decode cX0_newest 9 = .ok (.isub, 1) := by decide +kernel
theorem dX0_newest_10 : decode cX0_newest 10 = .ok (.iaload, 1) := by decide +kernel
theorem dX0_newest_11 : decode cX0_newest 11 = .ok (.ireturn, 1) := by decide +kernel
theorem dX0_newestDay_0 : decode cX0_newestDay 0 = .ok (.aload_n 0, 1) := by decide +kernel
theorem dX0_newestDay_1 : decode cX0_newestDay 1 = .ok (.getfield 7, 3) := by decide +kernel
theorem dX0_newestDay_4 : decode cX0_newestDay 4 = .ok (.aload_n 0, 1) := by decide +kernel
theorem dX0_newestDay_5 : decode cX0_newestDay 5 = .ok (.getfield 16, 3) := by decide +kernel
theorem dX0_newestDay_8 : decode cX0_newestDay 8 = .ok (.iconst 1, 1) := by decide +kernel
theorem dX0_newestDay_9 : decode cX0_newestDay 9 = .ok (.isub, 1) := by decide +kernel
theorem dX0_newestDay_10 : decode cX0_newestDay 10 = .ok (.iaload, 1) := by decide +kernel
theorem dX0_newestDay_11 : decode cX0_newestDay 11 = .ok (.ireturn, 1) := by decide +kernel
theorem dX0_goesBackBy_0 : decode cX0_goesBackBy 0 = .ok (.aload_n 0, 1) := by decide +kernel
theorem dX0_goesBackBy_1 : decode cX0_goesBackBy 1 = .ok (.getfield 16, 3) := by decide +kernel
theorem dX0_goesBackBy_4 : decode cX0_goesBackBy 4 = .ok (.iconst 1, 1) := by decide +kernel
theorem dX0_goesBackBy_5 : decode cX0_goesBackBy 5 = .ok (.if_icmp .le 22, 3) := by decide +kernel
theorem dX0_goesBackBy_8 : decode cX0_goesBackBy 8 = .ok (.aload_n 0, 1) := by decide +kernel
theorem dX0_goesBackBy_9 : decode cX0_goesBackBy 9 = .ok (.getfield 13, 3) := by decide +kernel
theorem dX0_goesBackBy_12 : decode cX0_goesBackBy 12 = .ok (.aload_n 0, 1) := by decide +kernel
theorem dX0_goesBackBy_13 : decode cX0_goesBackBy 13 = .ok (.getfield 16, 3) := by decide +kernel
theorem dX0_goesBackBy_16 : decode cX0_goesBackBy 16 = .ok (.iconst 2, 1) := by decide +kernel
theorem dX0_goesBackBy_17 : decode cX0_goesBackBy 17 = .ok (.isub, 1) := by decide +kernel
theorem dX0_goesBackBy_18 : decode cX0_goesBackBy 18 = .ok (.iaload, 1) := by decide +kernel
theorem dX0_goesBackBy_19 : decode cX0_goesBackBy 19 = .ok (.iload_n 1, 1) := by decide +kernel
theorem dX0_goesBackBy_20 : decode cX0_goesBackBy 20 = .ok (.if_icmp .ne 7, 3) := by decide +kernel
theorem dX0_goesBackBy_23 : decode cX0_goesBackBy 23 = .ok (.iconst 1, 1) := by decide +kernel
theorem dX0_goesBackBy_24 : decode cX0_goesBackBy 24 = .ok (.goto 4, 3) := by decide +kernel
theorem dX0_goesBackBy_27 : decode cX0_goesBackBy 27 = .ok (.iconst 0, 1) := by decide +kernel
theorem dX0_goesBackBy_28 : decode cX0_goesBackBy 28 = .ok (.ireturn, 1) := by decide +kernel
theorem dX0_dropNewest_0 : decode cX0_dropNewest 0 = .ok (.aload_n 0, 1) := by decide +kernel
theorem dX0_dropNewest_1 : decode cX0_dropNewest 1 = .ok (.getfield 16, 3) := by decide +kernel
theorem dX0_dropNewest_4 : decode cX0_dropNewest 4 = .ok (.iconst 1, 1) := by decide +kernel
theorem dX0_dropNewest_5 : decode cX0_dropNewest 5 = .ok (.if_icmp .le 13, 3) := by decide +kernel
theorem dX0_dropNewest_8 : decode cX0_dropNewest 8 = .ok (.aload_n 0, 1) := by decide +kernel
theorem dX0_dropNewest_9 : decode cX0_dropNewest 9 = .ok (.dup, 1) := by decide +kernel
theorem dX0_dropNewest_10 : decode cX0_dropNewest 10 = .ok (.getfield 16, 3) := by decide +kernel
theorem dX0_dropNewest_13 : decode cX0_dropNewest 13 = .ok (.iconst 1, 1) := by decide +kernel
theorem dX0_dropNewest_14 : decode cX0_dropNewest 14 = .ok (.isub, 1) := by decide +kernel
theorem dX0_dropNewest_15 : decode cX0_dropNewest 15 = .ok (.putfield 16, 3) := by decide +kernel
theorem dX0_dropNewest_18 : decode cX0_dropNewest 18 = .ok (.return_, 1) := by decide +kernel
theorem dX0_tell_0 : decode cX0_tell 0 = .ok (.aload_n 0, 1) := by decide +kernel
theorem dX0_tell_1 : decode cX0_tell 1 = .ok (.getfield 7, 3) := by decide +kernel
theorem dX0_tell_4 : decode cX0_tell 4 = .ok (.aload_n 0, 1) := by decide +kernel
theorem dX0_tell_5 : decode cX0_tell 5 = .ok (.getfield 16, 3) := by decide +kernel
theorem dX0_tell_8 : decode cX0_tell 8 = .ok (.iconst 1, 1) := by decide +kernel
theorem dX0_tell_9 : decode cX0_tell 9 = .ok (.isub, 1) := by decide +kernel
theorem dX0_tell_10 : decode cX0_tell 10 = .ok (.iaload, 1) := by decide +kernel
theorem dX0_tell_11 : decode cX0_tell 11 = .ok (.iload_n 1, 1) := by decide +kernel
theorem dX0_tell_12 : decode cX0_tell 12 = .ok (.if_icmp .eq 27, 3) := by decide +kernel
theorem dX0_tell_15 : decode cX0_tell 15 = .ok (.aload_n 0, 1) := by decide +kernel
theorem dX0_tell_16 : decode cX0_tell 16 = .ok (.invokevirtual 20, 3) := by decide +kernel
theorem dX0_tell_19 : decode cX0_tell 19 = .ok (.aload_n 0, 1) := by decide +kernel
theorem dX0_tell_20 : decode cX0_tell 20 = .ok (.getfield 7, 3) := by decide +kernel
theorem dX0_tell_23 : decode cX0_tell 23 = .ok (.aload_n 0, 1) := by decide +kernel
theorem dX0_tell_24 : decode cX0_tell 24 = .ok (.getfield 16, 3) := by decide +kernel
theorem dX0_tell_27 : decode cX0_tell 27 = .ok (.iload_n 1, 1) := by decide +kernel
theorem dX0_tell_28 : decode cX0_tell 28 = .ok (.iastore, 1) := by decide +kernel
theorem dX0_tell_29 : decode cX0_tell 29 = .ok (.aload_n 0, 1) := by decide +kernel
theorem dX0_tell_30 : decode cX0_tell 30 = .ok (.dup, 1) := by decide +kernel
theorem dX0_tell_31 : decode cX0_tell 31 = .ok (.getfield 16, 3) := by decide +kernel
theorem dX0_tell_34 : decode cX0_tell 34 = .ok (.iconst 1, 1) := by decide +kernel
theorem dX0_tell_35 : decode cX0_tell 35 = .ok (.iadd, 1) := by decide +kernel
theorem dX0_tell_36 : decode cX0_tell 36 = .ok (.putfield 16, 3) := by decide +kernel
theorem dX0_tell_39 : decode cX0_tell 39 = .ok (.aload_n 0, 1) := by decide +kernel
theorem dX0_tell_40 : decode cX0_tell 40 = .ok (.getfield 13, 3) := by decide +kernel
theorem dX0_tell_43 : decode cX0_tell 43 = .ok (.aload_n 0, 1) := by decide +kernel
theorem dX0_tell_44 : decode cX0_tell 44 = .ok (.getfield 16, 3) := by decide +kernel
theorem dX0_tell_47 : decode cX0_tell 47 = .ok (.iconst 1, 1) := by decide +kernel
theorem dX0_tell_48 : decode cX0_tell 48 = .ok (.isub, 1) := by decide +kernel
theorem dX0_tell_49 : decode cX0_tell 49 = .ok (.iload_n 2, 1) := by decide +kernel
theorem dX0_tell_50 : decode cX0_tell 50 = .ok (.iastore, 1) := by decide +kernel
theorem dX0_tell_51 : decode cX0_tell 51 = .ok (.return_, 1) := by decide +kernel
theorem dX0_makeRoom_0 : decode cX0_makeRoom 0 = .ok (.aload_n 0, 1) := by decide +kernel
theorem dX0_makeRoom_1 : decode cX0_makeRoom 1 = .ok (.getfield 16, 3) := by decide +kernel
theorem dX0_makeRoom_4 : decode cX0_makeRoom 4 = .ok (.aload_n 0, 1) := by decide +kernel
theorem dX0_makeRoom_5 : decode cX0_makeRoom 5 = .ok (.getfield 7, 3) := by decide +kernel
theorem dX0_makeRoom_8 : decode cX0_makeRoom 8 = .ok (.arraylength, 1) := by decide +kernel
theorem dX0_makeRoom_9 : decode cX0_makeRoom 9 = .ok (.if_icmp .ne 37, 3) := by decide +kernel
theorem dX0_makeRoom_12 : decode cX0_makeRoom 12 = .ok (.aload_n 0, 1) := by decide +kernel
theorem dX0_makeRoom_13 : decode cX0_makeRoom 13 = .ok (.aload_n 0, 1) := by decide +kernel
theorem dX0_makeRoom_14 : decode cX0_makeRoom 14 = .ok (.getfield 7, 3) := by decide +kernel
theorem dX0_makeRoom_17 : decode cX0_makeRoom 17 = .ok (.iconst 2, 1) := by decide +kernel
theorem dX0_makeRoom_18 : decode cX0_makeRoom 18 = .ok (.aload_n 0, 1) := by decide +kernel
theorem dX0_makeRoom_19 : decode cX0_makeRoom 19 = .ok (.getfield 16, 3) := by decide +kernel
theorem dX0_makeRoom_22 : decode cX0_makeRoom 22 = .ok (.imul, 1) := by decide +kernel
theorem dX0_makeRoom_23 : decode cX0_makeRoom 23 = .ok (.invokestatic 23, 3) := by decide +kernel
theorem dX0_makeRoom_26 : decode cX0_makeRoom 26 = .ok (.putfield 7, 3) := by decide +kernel
theorem dX0_makeRoom_29 : decode cX0_makeRoom 29 = .ok (.aload_n 0, 1) := by decide +kernel
theorem dX0_makeRoom_30 : decode cX0_makeRoom 30 = .ok (.aload_n 0, 1) := by decide +kernel
theorem dX0_makeRoom_31 : decode cX0_makeRoom 31 = .ok (.getfield 13, 3) := by decide +kernel
theorem dX0_makeRoom_34 : decode cX0_makeRoom 34 = .ok (.iconst 2, 1) := by decide +kernel
theorem dX0_makeRoom_35 : decode cX0_makeRoom 35 = .ok (.aload_n 0, 1) := by decide +kernel
theorem dX0_makeRoom_36 : decode cX0_makeRoom 36 = .ok (.getfield 16, 3) := by decide +kernel
theorem dX0_makeRoom_39 : decode cX0_makeRoom 39 = .ok (.imul, 1) := by decide +kernel
theorem dX0_makeRoom_40 : decode cX0_makeRoom 40 = .ok (.invokestatic 23, 3) := by decide +kernel
theorem dX0_makeRoom_43 : decode cX0_makeRoom 43 = .ok (.putfield 13, 3) := by decide +kernel
theorem dX0_makeRoom_46 : decode cX0_makeRoom 46 = .ok (.return_, 1) := by decide +kernel
theorem dX1_init_0 : decode cX1_init 0 = .ok (.aload_n 0, 1) := by decide +kernel
theorem dX1_init_1 : decode cX1_init 1 = .ok (.invokespecial 1, 3) := by decide +kernel
theorem dX1_init_4 : decode cX1_init 4 = .ok (.aload_n 0, 1) := by decide +kernel
theorem dX1_init_5 : decode cX1_init 5 = .ok (.new 7, 3) := by decide +kernel
theorem dX1_init_8 : decode cX1_init 8 = .ok (.dup, 1) := by decide +kernel
theorem dX1_init_9 : decode cX1_init 9 = .ok (.invokespecial 9, 3) := by decide +kernel
theorem dX1_init_12 : decode cX1_init 12 = .ok (.putfield 10, 3) := by decide +kernel
theorem dX1_init_15 : decode cX1_init 15 = .ok (.aload_n 0, 1) := by decide +kernel
theorem dX1_init_16 : decode cX1_init 16 = .ok (.new 16, 3) := by decide +kernel
theorem dX1_init_19 : decode cX1_init 19 = .ok (.dup, 1) := by decide +kernel
theorem dX1_init_20 : decode cX1_init 20 = .ok (.iload_n 1, 1) := by decide +kernel
theorem dX1_init_21 : decode cX1_init 21 = .ok (.iconst 1, 1) := by decide +kernel
theorem dX1_init_22 : decode cX1_init 22 = .ok (.invokespecial 18, 3) := by decide +kernel
theorem dX1_init_25 : decode cX1_init 25 = .ok (.putfield 21, 3) := by decide +kernel
theorem dX1_init_28 : decode cX1_init 28 = .ok (.return_, 1) := by decide +kernel
theorem dX2_init_0 : decode cX2_init 0 = .ok (.aload_n 0, 1) := by decide +kernel
theorem dX2_init_1 : decode cX2_init 1 = .ok (.invokespecial 1, 3) := by decide +kernel
theorem dX2_init_4 : decode cX2_init 4 = .ok (.aload_n 0, 1) := by decide +kernel
theorem dX2_init_5 : decode cX2_init 5 = .ok (.getstatic 7, 3) := by decide +kernel
theorem dX2_init_8 : decode cX2_init 8 = .ok (.invokestatic 13, 3) := by decide +kernel
theorem dX2_init_11 : decode cX2_init 11 = .ok (.putfield 17, 3) := by decide +kernel
theorem dX2_init_14 : decode cX2_init 14 = .ok (.return_, 1) := by decide +kernel
theorem dX2_numberOn_0 : decode cX2_numberOn 0 = .ok (.aload_n 0, 1) := by decide +kernel
theorem dX2_numberOn_1 : decode cX2_numberOn 1 = .ok (.getfield 17, 3) := by decide +kernel
theorem dX2_numberOn_4 : decode cX2_numberOn 4 = .ok (.iload_n 1, 1) := by decide +kernel
theorem dX2_numberOn_5 : decode cX2_numberOn 5 = .ok (.aaload, 1) := by decide +kernel
theorem dX2_numberOn_6 : decode cX2_numberOn 6 = .ok (.iload_n 2, 1) := by decide +kernel
theorem dX2_numberOn_7 : decode cX2_numberOn 7 = .ok (.invokevirtual 23, 3) := by decide +kernel
theorem dX2_numberOn_10 : decode cX2_numberOn 10 = .ok (.ireturn, 1) := by decide +kernel
theorem dX3_init_0 : decode cX3_init 0 = .ok (.aload_n 0, 1) := by decide +kernel
theorem dX3_init_1 : decode cX3_init 1 = .ok (.invokespecial 3, 3) := by decide +kernel
theorem dX3_init_4 : decode cX3_init 4 = .ok (.aload_n 0, 1) := by decide +kernel
theorem dX3_init_5 : decode cX3_init 5 = .ok (.iconst 0, 1) := by decide +kernel
theorem dX3_init_6 : decode cX3_init 6 = .ok (.putfield 9, 3) := by decide +kernel
theorem dX3_init_9 : decode cX3_init 9 = .ok (.aload_n 0, 1) := by decide +kernel
theorem dX3_init_10 : decode cX3_init 10 = .ok (.iconst 0, 1) := by decide +kernel
theorem dX3_init_11 : decode cX3_init 11 = .ok (.putfield 15, 3) := by decide +kernel
theorem dX3_init_14 : decode cX3_init 14 = .ok (.aload_n 0, 1) := by decide +kernel
theorem dX3_init_15 : decode cX3_init 15 = .ok (.iconst 0, 1) := by decide +kernel
theorem dX3_init_16 : decode cX3_init 16 = .ok (.putfield 19, 3) := by decide +kernel
theorem dX3_init_19 : decode cX3_init 19 = .ok (.aload_n 0, 1) := by decide +kernel
theorem dX3_init_20 : decode cX3_init 20 = .ok (.aload_n 1, 1) := by decide +kernel
theorem dX3_init_21 : decode cX3_init 21 = .ok (.putfield 22, 3) := by decide +kernel
theorem dX3_init_24 : decode cX3_init 24 = .ok (.aload_n 0, 1) := by decide +kernel
theorem dX3_init_25 : decode cX3_init 25 = .ok (.aload_n 2, 1) := by decide +kernel
theorem dX3_init_26 : decode cX3_init 26 = .ok (.putfield 26, 3) := by decide +kernel
theorem dX3_init_29 : decode cX3_init 29 = .ok (.aload_n 0, 1) := by decide +kernel
theorem dX3_init_30 : decode cX3_init 30 = .ok (.iload_n 3, 1) := by decide +kernel
theorem dX3_init_31 : decode cX3_init 31 = .ok (.putfield 29, 3) := by decide +kernel
theorem dX3_init_34 : decode cX3_init 34 = .ok (.aload_n 0, 1) := by decide +kernel
theorem dX3_init_35 : decode cX3_init 35 = .ok (.iload 4, 2) := by decide +kernel
theorem dX3_init_37 : decode cX3_init 37 = .ok (.putfield 32, 3) := by decide +kernel
theorem dX3_init_40 : decode cX3_init 40 = .ok (.return_, 1) := by decide +kernel
theorem dX3_lastsFor_0 : decode cX3_lastsFor 0 = .ok (.aload_n 0, 1) := by decide +kernel
theorem dX3_lastsFor_1 : decode cX3_lastsFor 1 = .ok (.getfield 9, 3) := by decide +kernel
theorem dX3_lastsFor_4 : decode cX3_lastsFor 4 = .ok (.ifCond .ne 23, 3) := by decide +kernel
theorem dX3_lastsFor_7 : decode cX3_lastsFor 7 = .ok (.aload_n 0, 1) := by decide +kernel
theorem dX3_lastsFor_8 : decode cX3_lastsFor 8 = .ok (.getfield 22, 3) := by decide +kernel
theorem dX3_lastsFor_11 : decode cX3_lastsFor 11 = .ok (.aload_n 1, 1) := by decide +kernel
theorem dX3_lastsFor_12 : decode cX3_lastsFor 12 = .ok (.if_acmp .eq 11, 3) := by decide +kernel
theorem dX3_lastsFor_15 : decode cX3_lastsFor 15 = .ok (.aload_n 0, 1) := by decide +kernel
theorem dX3_lastsFor_16 : decode cX3_lastsFor 16 = .ok (.getfield 26, 3) := by decide +kernel
theorem dX3_lastsFor_19 : decode cX3_lastsFor 19 = .ok (.aload_n 1, 1) := by decide +kernel
theorem dX3_lastsFor_20 : decode cX3_lastsFor 20 = .ok (.if_acmp .ne 7, 3) := by decide +kernel
theorem dX3_lastsFor_23 : decode cX3_lastsFor 23 = .ok (.iconst 1, 1) := by decide +kernel
theorem dX3_lastsFor_24 : decode cX3_lastsFor 24 = .ok (.goto 4, 3) := by decide +kernel
theorem dX3_lastsFor_27 : decode cX3_lastsFor 27 = .ok (.iconst 0, 1) := by decide +kernel
theorem dX3_lastsFor_28 : decode cX3_lastsFor 28 = .ok (.ireturn, 1) := by decide +kernel
theorem dX3_payDower_0 : decode cX3_payDower 0 = .ok (.aload_n 0, 1) := by decide +kernel
theorem dX3_payDower_1 : decode cX3_payDower 1 = .ok (.getfield 22, 3) := by decide +kernel
theorem dX3_payDower_4 : decode cX3_payDower 4 = .ok (.aload_n 0, 1) := by decide +kernel
theorem dX3_payDower_5 : decode cX3_payDower 5 = .ok (.getfield 29, 3) := by decide +kernel
theorem dX3_payDower_8 : decode cX3_payDower 8 = .ok (.aload_n 0, 1) := by decide +kernel
theorem dX3_payDower_9 : decode cX3_payDower 9 = .ok (.getfield 26, 3) := by decide +kernel
theorem dX3_payDower_12 : decode cX3_payDower 12 = .ok (.invokevirtual 35, 3) := by decide +kernel
theorem dX3_payDower_15 : decode cX3_payDower 15 = .ok (.pop, 1) := by decide +kernel
theorem dX3_payDower_16 : decode cX3_payDower 16 = .ok (.aload_n 0, 1) := by decide +kernel
theorem dX3_payDower_17 : decode cX3_payDower 17 = .ok (.iconst 0, 1) := by decide +kernel
theorem dX3_payDower_18 : decode cX3_payDower 18 = .ok (.putfield 29, 3) := by decide +kernel
theorem dX3_payDower_21 : decode cX3_payDower 21 = .ok (.return_, 1) := by decide +kernel
theorem dX4_init_0 : decode cX4_init 0 = .ok (.aload_n 0, 1) := by decide +kernel
theorem dX4_init_1 : decode cX4_init 1 = .ok (.invokespecial 3, 3) := by decide +kernel
theorem dX4_init_4 : decode cX4_init 4 = .ok (.aload_n 0, 1) := by decide +kernel
theorem dX4_init_5 : decode cX4_init 5 = .ok (.iconst 1, 1) := by decide +kernel
theorem dX4_init_6 : decode cX4_init 6 = .ok (.putfield 9, 3) := by decide +kernel
theorem dX4_init_9 : decode cX4_init 9 = .ok (.aload_n 0, 1) := by decide +kernel
theorem dX4_init_10 : decode cX4_init 10 = .ok (.lconst 0, 1) := by decide +kernel
theorem dX4_init_11 : decode cX4_init 11 = .ok (.putfield 15, 3) := by decide +kernel
theorem dX4_init_14 : decode cX4_init 14 = .ok (.aload_n 0, 1) := by decide +kernel
theorem dX4_init_15 : decode cX4_init 15 = .ok (.iconst (-1), 1) := by decide +kernel
theorem dX4_init_16 : decode cX4_init 16 = .ok (.putfield 19, 3) := by decide +kernel
theorem dX4_init_19 : decode cX4_init 19 = .ok (.aload_n 0, 1) := by decide +kernel
theorem dX4_init_20 : decode cX4_init 20 = .ok (.iconst (-1), 1) := by decide +kernel
theorem dX4_init_21 : decode cX4_init 21 = .ok (.putfield 23, 3) := by decide +kernel
theorem dX4_init_24 : decode cX4_init 24 = .ok (.aload_n 0, 1) := by decide +kernel
theorem dX4_init_25 : decode cX4_init 25 = .ok (.iconst 0, 1) := by decide +kernel
theorem dX4_init_26 : decode cX4_init 26 = .ok (.putfield 26, 3) := by decide +kernel
theorem dX4_init_29 : decode cX4_init 29 = .ok (.aload_n 0, 1) := by decide +kernel
theorem dX4_init_30 : decode cX4_init 30 = .ok (.iload_n 1, 1) := by decide +kernel
theorem dX4_init_31 : decode cX4_init 31 = .ok (.putfield 29, 3) := by decide +kernel
theorem dX4_init_34 : decode cX4_init 34 = .ok (.aload_n 0, 1) := by decide +kernel
theorem dX4_init_35 : decode cX4_init 35 = .ok (.iload_n 2, 1) := by decide +kernel
theorem dX4_init_36 : decode cX4_init 36 = .ok (.putfield 32, 3) := by decide +kernel
theorem dX4_init_39 : decode cX4_init 39 = .ok (.aload_n 0, 1) := by decide +kernel
theorem dX4_init_40 : decode cX4_init 40 = .ok (.aload_n 3, 1) := by decide +kernel
theorem dX4_init_41 : decode cX4_init 41 = .ok (.putfield 35, 3) := by decide +kernel
theorem dX4_init_44 : decode cX4_init 44 = .ok (.aload_n 0, 1) := by decide +kernel
theorem dX4_init_45 : decode cX4_init 45 = .ok (.aload 4, 2) := by decide +kernel
theorem dX4_init_47 : decode cX4_init 47 = .ok (.putfield 39, 3) := by decide +kernel
theorem dX4_init_50 : decode cX4_init 50 = .ok (.aload_n 0, 1) := by decide +kernel
theorem dX4_init_51 : decode cX4_init 51 = .ok (.iload 5, 2) := by decide +kernel
theorem dX4_init_53 : decode cX4_init 53 = .ok (.putfield 42, 3) := by decide +kernel
theorem dX4_init_56 : decode cX4_init 56 = .ok (.aload_n 0, 1) := by decide +kernel
theorem dX4_init_57 : decode cX4_init 57 = .ok (.new 45, 3) := by decide +kernel
theorem dX4_init_60 : decode cX4_init 60 = .ok (.dup, 1) := by decide +kernel
theorem dX4_init_61 : decode cX4_init 61 = .ok (.iload 5, 2) := by decide +kernel
theorem dX4_init_63 : decode cX4_init 63 = .ok (.iload 6, 2) := by decide +kernel
theorem dX4_init_65 : decode cX4_init 65 = .ok (.invokespecial 47, 3) := by decide +kernel
theorem dX4_init_68 : decode cX4_init 68 = .ok (.putfield 50, 3) := by decide +kernel
theorem dX4_init_71 : decode cX4_init 71 = .ok (.return_, 1) := by decide +kernel
theorem dX4_faithNow_0 : decode cX4_faithNow 0 = .ok (.aload_n 0, 1) := by decide +kernel
theorem dX4_faithNow_1 : decode cX4_faithNow 1 = .ok (.getfield 50, 3) := by decide +kernel
theorem dX4_faithNow_4 : decode cX4_faithNow 4 = .ok (.invokevirtual 54, 3) := by decide +kernel
theorem dX4_faithNow_7 : decode cX4_faithNow 7 = .ok (.ireturn, 1) := by decide +kernel
theorem dX4_isMinorOn_0 : decode cX4_isMinorOn 0 = .ok (.iload_n 1, 1) := by decide +kernel
theorem dX4_isMinorOn_1 : decode cX4_isMinorOn 1 = .ok (.aload_n 0, 1) := by decide +kernel
theorem dX4_isMinorOn_2 : decode cX4_isMinorOn 2 = .ok (.getfield 42, 3) := by decide +kernel
theorem dX4_isMinorOn_5 : decode cX4_isMinorOn 5 = .ok (.isub, 1) := by decide +kernel
theorem dX4_isMinorOn_6 : decode cX4_isMinorOn 6 = .ok (.sipush 5000, 3) := by decide +kernel
theorem dX4_isMinorOn_9 : decode cX4_isMinorOn 9 = .ok (.if_icmp .ge 7, 3) := by decide +kernel
theorem dX4_isMinorOn_12 : decode cX4_isMinorOn 12 = .ok (.iconst 1, 1) := by decide +kernel
theorem dX4_isMinorOn_13 : decode cX4_isMinorOn 13 = .ok (.goto 4, 3) := by decide +kernel
theorem dX4_isMinorOn_16 : decode cX4_isMinorOn 16 = .ok (.iconst 0, 1) := by decide +kernel
theorem dX4_isMinorOn_17 : decode cX4_isMinorOn 17 = .ok (.ireturn, 1) := by decide +kernel
theorem dX4_isGrownOn_0 : decode cX4_isGrownOn 0 = .ok (.aload_n 0, 1) := by decide +kernel
theorem dX4_isGrownOn_1 : decode cX4_isGrownOn 1 = .ok (.getfield 9, 3) := by decide +kernel
theorem dX4_isGrownOn_4 : decode cX4_isGrownOn 4 = .ok (.ifCond .eq 15, 3) := by decide +kernel
theorem dX4_isGrownOn_7 : decode cX4_isGrownOn 7 = .ok (.aload_n 0, 1) := by decide +kernel
theorem dX4_isGrownOn_8 : decode cX4_isGrownOn 8 = .ok (.iload_n 1, 1) := by decide +kernel
theorem dX4_isGrownOn_9 : decode cX4_isGrownOn 9 = .ok (.invokevirtual 58, 3) := by decide +kernel
theorem dX4_isGrownOn_12 : decode cX4_isGrownOn 12 = .ok (.ifCond .ne 7, 3) := by decide +kernel
theorem dX4_isGrownOn_15 : decode cX4_isGrownOn 15 = .ok (.iconst 1, 1) := by decide +kernel
theorem dX4_isGrownOn_16 : decode cX4_isGrownOn 16 = .ok (.goto 4, 3) := by decide +kernel
theorem dX4_isGrownOn_19 : decode cX4_isGrownOn 19 = .ok (.iconst 0, 1) := by decide +kernel
theorem dX4_isGrownOn_20 : decode cX4_isGrownOn 20 = .ok (.ireturn, 1) := by decide +kernel
theorem dX4_isTurning_0 : decode cX4_isTurning 0 = .ok (.aload_n 0, 1) := by decide +kernel
theorem dX4_isTurning_1 : decode cX4_isTurning 1 = .ok (.getfield 23, 3) := by decide +kernel
theorem dX4_isTurning_4 : decode cX4_isTurning 4 = .ok (.iconst (-1), 1) := by decide +kernel
theorem dX4_isTurning_5 : decode cX4_isTurning 5 = .ok (.if_icmp .eq 7, 3) := by decide +kernel
theorem dX4_isTurning_8 : decode cX4_isTurning 8 = .ok (.iconst 1, 1) := by decide +kernel
theorem dX4_isTurning_9 : decode cX4_isTurning 9 = .ok (.goto 4, 3) := by decide +kernel
theorem dX4_isTurning_12 : decode cX4_isTurning 12 = .ok (.iconst 0, 1) := by decide +kernel
theorem dX4_isTurning_13 : decode cX4_isTurning 13 = .ok (.ireturn, 1) := by decide +kernel
theorem dX4_endTurning_0 : decode cX4_endTurning 0 = .ok (.aload_n 0, 1) := by decide +kernel
theorem dX4_endTurning_1 : decode cX4_endTurning 1 = .ok (.iconst (-1), 1) := by decide +kernel
theorem dX4_endTurning_2 : decode cX4_endTurning 2 = .ok (.putfield 19, 3) := by decide +kernel
theorem dX4_endTurning_5 : decode cX4_endTurning 5 = .ok (.aload_n 0, 1) := by decide +kernel
theorem dX4_endTurning_6 : decode cX4_endTurning 6 = .ok (.iconst (-1), 1) := by decide +kernel
theorem dX4_endTurning_7 : decode cX4_endTurning 7 = .ok (.putfield 23, 3) := by decide +kernel
theorem dX4_endTurning_10 : decode cX4_endTurning 10 = .ok (.return_, 1) := by decide +kernel
theorem dX4_leader_0 : decode cX4_leader 0 = .ok (.aload_n 0, 1) := by decide +kernel
theorem dX4_leader_1 : decode cX4_leader 1 = .ok (.getfield 39, 3) := by decide +kernel
theorem dX4_leader_4 : decode cX4_leader 4 = .ok (.ifnull 10, 3) := by decide +kernel
theorem dX4_leader_7 : decode cX4_leader 7 = .ok (.aload_n 0, 1) := by decide +kernel
theorem dX4_leader_8 : decode cX4_leader 8 = .ok (.getfield 39, 3) := by decide +kernel
theorem dX4_leader_11 : decode cX4_leader 11 = .ok (.goto 7, 3) := by decide +kernel
theorem dX4_leader_14 : decode cX4_leader 14 = .ok (.aload_n 0, 1) := by decide +kernel
theorem dX4_leader_15 : decode cX4_leader 15 = .ok (.getfield 35, 3) := by decide +kernel
theorem dX4_leader_18 : decode cX4_leader 18 = .ok (.areturn, 1) := by decide +kernel
theorem dX4_isLivingChildOf_0 : decode cX4_isLivingChildOf 0 = .ok (.aload_n 0, 1) := by decide +kernel
theorem dX4_isLivingChildOf_1 : decode cX4_isLivingChildOf 1 = .ok (.getfield 9, 3) := by decide +kernel
theorem dX4_isLivingChildOf_4 : decode cX4_isLivingChildOf 4 = .ok (.ifCond .eq 23, 3) := by decide +kernel
theorem dX4_isLivingChildOf_7 : decode cX4_isLivingChildOf 7 = .ok (.aload_n 0, 1) := by decide +kernel
theorem dX4_isLivingChildOf_8 : decode cX4_isLivingChildOf 8 = .ok (.getfield 35, 3) := by decide +kernel
theorem dX4_isLivingChildOf_11 : decode cX4_isLivingChildOf 11 = .ok (.aload_n 1, 1) := by decide +kernel
theorem dX4_isLivingChildOf_12 : decode cX4_isLivingChildOf 12 = .ok (.if_acmp .eq 11, 3) := by decide +kernel
theorem dX4_isLivingChildOf_15 : decode cX4_isLivingChildOf 15 = .ok (.aload_n 0, 1) := by decide +kernel
theorem dX4_isLivingChildOf_16 : decode cX4_isLivingChildOf 16 = .ok (.getfield 39, 3) := by decide +kernel
theorem dX4_isLivingChildOf_19 : decode cX4_isLivingChildOf 19 = .ok (.aload_n 1, 1) := by decide +kernel
theorem dX4_isLivingChildOf_20 : decode cX4_isLivingChildOf 20 = .ok (.if_acmp .ne 7, 3) := by decide +kernel
theorem dX4_isLivingChildOf_23 : decode cX4_isLivingChildOf 23 = .ok (.iconst 1, 1) := by decide +kernel
theorem dX4_isLivingChildOf_24 : decode cX4_isLivingChildOf 24 = .ok (.goto 4, 3) := by decide +kernel
theorem dX4_isLivingChildOf_27 : decode cX4_isLivingChildOf 27 = .ok (.iconst 0, 1) := by decide +kernel
theorem dX4_isLivingChildOf_28 : decode cX4_isLivingChildOf 28 = .ok (.ireturn, 1) := by decide +kernel
theorem dX4_shares_0 : decode cX4_shares 0 = .ok (.iload_n 1, 1) := by decide +kernel
theorem dX4_shares_1 : decode cX4_shares 1 = .ok (.ifCond .eq 14, 3) := by decide +kernel
theorem dX4_shares_4 : decode cX4_shares 4 = .ok (.aload_n 0, 1) := by decide +kernel
theorem dX4_shares_5 : decode cX4_shares 5 = .ok (.getfield 32, 3) := by decide +kernel
theorem dX4_shares_8 : decode cX4_shares 8 = .ok (.ifCond .eq 7, 3) := by decide +kernel
theorem dX4_shares_11 : decode cX4_shares 11 = .ok (.iconst 2, 1) := by decide +kernel
theorem dX4_shares_12 : decode cX4_shares 12 = .ok (.goto 4, 3) := by decide +kernel
theorem dX4_shares_15 : decode cX4_shares 15 = .ok (.iconst 1, 1) := by decide +kernel
theorem dX4_shares_16 : decode cX4_shares 16 = .ok (.ireturn, 1) := by decide +kernel
theorem dX4_payUpTo_0 : decode cX4_payUpTo 0 = .ok (.aload_n 0, 1) := by decide +kernel
theorem dX4_payUpTo_1 : decode cX4_payUpTo 1 = .ok (.getfield 15, 3) := by decide +kernel
theorem dX4_payUpTo_4 : decode cX4_payUpTo 4 = .ok (.iload_n 1, 1) := by decide +kernel
theorem dX4_payUpTo_5 : decode cX4_payUpTo 5 = .ok (.i2l, 1) := by decide +kernel
theorem dX4_payUpTo_6 : decode cX4_payUpTo 6 = .ok (.invokestatic 62, 3) := by decide +kernel
theorem dX4_payUpTo_9 : decode cX4_payUpTo 9 = .ok (.l2i, 1) := by decide +kernel
theorem dX4_payUpTo_10 : decode cX4_payUpTo 10 = .ok (.istore_n 3, 1) := by decide +kernel
theorem dX4_payUpTo_11 : decode cX4_payUpTo 11 = .ok (.aload_n 0, 1) := by decide +kernel
theorem dX4_payUpTo_12 : decode cX4_payUpTo 12 = .ok (.dup, 1) := by decide +kernel
theorem dX4_payUpTo_13 : decode cX4_payUpTo 13 = .ok (.getfield 15, 3) := by decide +kernel
theorem dX4_payUpTo_16 : decode cX4_payUpTo 16 = .ok (.iload_n 3, 1) := by decide +kernel
theorem dX4_payUpTo_17 : decode cX4_payUpTo 17 = .ok (.i2l, 1) := by decide +kernel
theorem dX4_payUpTo_18 : decode cX4_payUpTo 18 = .ok (.lsub, 1) := by decide +kernel
theorem dX4_payUpTo_19 : decode cX4_payUpTo 19 = .ok (.putfield 15, 3) := by decide +kernel
theorem dX4_payUpTo_22 : decode cX4_payUpTo 22 = .ok (.aload_n 2, 1) := by decide +kernel
theorem dX4_payUpTo_23 : decode cX4_payUpTo 23 = .ok (.dup, 1) := by decide +kernel
theorem dX4_payUpTo_24 : decode cX4_payUpTo 24 = .ok (.getfield 15, 3) := by decide +kernel
theorem dX4_payUpTo_27 : decode cX4_payUpTo 27 = .ok (.iload_n 3, 1) := by decide +kernel
theorem dX4_payUpTo_28 : decode cX4_payUpTo 28 = .ok (.i2l, 1) := by decide +kernel
theorem dX4_payUpTo_29 : decode cX4_payUpTo 29 = .ok (.ladd, 1) := by decide +kernel
theorem dX4_payUpTo_30 : decode cX4_payUpTo 30 = .ok (.putfield 15, 3) := by decide +kernel
theorem dX4_payUpTo_33 : decode cX4_payUpTo 33 = .ok (.iload_n 3, 1) := by decide +kernel
theorem dX4_payUpTo_34 : decode cX4_payUpTo 34 = .ok (.ireturn, 1) := by decide +kernel
theorem dX5_init_0 : decode cX5_init 0 = .ok (.aload_n 0, 1) := by decide +kernel
theorem dX5_init_1 : decode cX5_init 1 = .ok (.invokespecial 3, 3) := by decide +kernel
theorem dX5_init_4 : decode cX5_init 4 = .ok (.aload_n 0, 1) := by decide +kernel
theorem dX5_init_5 : decode cX5_init 5 = .ok (.new 9, 3) := by decide +kernel
theorem dX5_init_8 : decode cX5_init 8 = .ok (.dup, 1) := by decide +kernel
theorem dX5_init_9 : decode cX5_init 9 = .ok (.invokespecial 11, 3) := by decide +kernel
theorem dX5_init_12 : decode cX5_init 12 = .ok (.putfield 12, 3) := by decide +kernel
theorem dX5_init_15 : decode cX5_init 15 = .ok (.aload_n 0, 1) := by decide +kernel
theorem dX5_init_16 : decode cX5_init 16 = .ok (.iconst 0, 1) := by decide +kernel
theorem dX5_init_17 : decode cX5_init 17 = .ok (.putfield 18, 3) := by decide +kernel
theorem dX5_init_20 : decode cX5_init 20 = .ok (.aload_n 0, 1) := by decide +kernel
theorem dX5_init_21 : decode cX5_init 21 = .ok (.iconst 0, 1) := by decide +kernel
theorem dX5_init_22 : decode cX5_init 22 = .ok (.putfield 22, 3) := by decide +kernel
theorem dX5_init_25 : decode cX5_init 25 = .ok (.aload_n 0, 1) := by decide +kernel
theorem dX5_init_26 : decode cX5_init 26 = .ok (.iconst 0, 1) := by decide +kernel
theorem dX5_init_27 : decode cX5_init 27 = .ok (.putfield 26, 3) := by decide +kernel
theorem dX5_init_30 : decode cX5_init 30 = .ok (.aload_n 0, 1) := by decide +kernel
theorem dX5_init_31 : decode cX5_init 31 = .ok (.iconst (-1), 1) := by decide +kernel
theorem dX5_init_32 : decode cX5_init 32 = .ok (.putfield 29, 3) := by decide +kernel
theorem dX5_init_35 : decode cX5_init 35 = .ok (.aload_n 0, 1) := by decide +kernel
theorem dX5_init_36 : decode cX5_init 36 = .ok (.iconst 0, 1) := by decide +kernel
theorem dX5_init_37 : decode cX5_init 37 = .ok (.putfield 32, 3) := by decide +kernel
theorem dX5_init_40 : decode cX5_init 40 = .ok (.aload_n 0, 1) := by decide +kernel
theorem dX5_init_41 : decode cX5_init 41 = .ok (.aload_n 1, 1) := by decide +kernel
theorem dX5_init_42 : decode cX5_init 42 = .ok (.putfield 35, 3) := by decide +kernel
theorem dX5_init_45 : decode cX5_init 45 = .ok (.aload_n 0, 1) := by decide +kernel
theorem dX5_init_46 : decode cX5_init 46 = .ok (.aload_n 2, 1) := by decide +kernel
theorem dX5_init_47 : decode cX5_init 47 = .ok (.putfield 39, 3) := by decide +kernel
theorem dX5_init_50 : decode cX5_init 50 = .ok (.aload_n 0, 1) := by decide +kernel
theorem dX5_init_51 : decode cX5_init 51 = .ok (.iload_n 3, 1) := by decide +kernel
theorem dX5_init_52 : decode cX5_init 52 = .ok (.putfield 42, 3) := by decide +kernel
theorem dX5_init_55 : decode cX5_init 55 = .ok (.aload_n 0, 1) := by decide +kernel
theorem dX5_init_56 : decode cX5_init 56 = .ok (.iload 4, 2) := by decide +kernel
theorem dX5_init_58 : decode cX5_init 58 = .ok (.putfield 45, 3) := by decide +kernel
theorem dX5_init_61 : decode cX5_init 61 = .ok (.return_, 1) := by decide +kernel
theorem dX5_isBetween_0 : decode cX5_isBetween 0 = .ok (.aload_n 0, 1) := by decide +kernel
theorem dX5_isBetween_1 : decode cX5_isBetween 1 = .ok (.getfield 35, 3) := by decide +kernel
theorem dX5_isBetween_4 : decode cX5_isBetween 4 = .ok (.aload_n 1, 1) := by decide +kernel
theorem dX5_isBetween_5 : decode cX5_isBetween 5 = .ok (.if_acmp .eq 11, 3) := by decide +kernel
theorem dX5_isBetween_8 : decode cX5_isBetween 8 = .ok (.aload_n 0, 1) := by decide +kernel
theorem dX5_isBetween_9 : decode cX5_isBetween 9 = .ok (.getfield 39, 3) := by decide +kernel
theorem dX5_isBetween_12 : decode cX5_isBetween 12 = .ok (.aload_n 1, 1) := by decide +kernel
theorem dX5_isBetween_13 : decode cX5_isBetween 13 = .ok (.if_acmp .ne 7, 3) := by decide +kernel
theorem dX5_isBetween_16 : decode cX5_isBetween 16 = .ok (.iconst 1, 1) := by decide +kernel
theorem dX5_isBetween_17 : decode cX5_isBetween 17 = .ok (.goto 4, 3) := by decide +kernel
theorem dX5_isBetween_20 : decode cX5_isBetween 20 = .ok (.iconst 0, 1) := by decide +kernel
theorem dX5_isBetween_21 : decode cX5_isBetween 21 = .ok (.ireturn, 1) := by decide +kernel
theorem dX5_doBothLive_0 : decode cX5_doBothLive 0 = .ok (.aload_n 0, 1) := by decide +kernel
theorem dX5_doBothLive_1 : decode cX5_doBothLive 1 = .ok (.getfield 35, 3) := by decide +kernel
theorem dX5_doBothLive_4 : decode cX5_doBothLive 4 = .ok (.getfield 48, 3) := by decide +kernel
theorem dX5_doBothLive_7 : decode cX5_doBothLive 7 = .ok (.ifCond .eq 17, 3) := by decide +kernel
theorem dX5_doBothLive_10 : decode cX5_doBothLive 10 = .ok (.aload_n 0, 1) := by decide +kernel
theorem dX5_doBothLive_11 : decode cX5_doBothLive 11 = .ok (.getfield 39, 3) := by decide +kernel
theorem dX5_doBothLive_14 : decode cX5_doBothLive 14 = .ok (.getfield 48, 3) := by decide +kernel
theorem dX5_doBothLive_17 : decode cX5_doBothLive 17 = .ok (.ifCond .eq 7, 3) := by decide +kernel
theorem dX5_doBothLive_20 : decode cX5_doBothLive 20 = .ok (.iconst 1, 1) := by decide +kernel
theorem dX5_doBothLive_21 : decode cX5_doBothLive 21 = .ok (.goto 4, 3) := by decide +kernel
theorem dX5_doBothLive_24 : decode cX5_doBothLive 24 = .ok (.iconst 0, 1) := by decide +kernel
theorem dX5_doBothLive_25 : decode cX5_doBothLive 25 = .ok (.ireturn, 1) := by decide +kernel
theorem dX5_hasHeard_0 : decode cX5_hasHeard 0 = .ok (.iconst 0, 1) := by decide +kernel
theorem dX5_hasHeard_1 : decode cX5_hasHeard 1 = .ok (.istore_n 2, 1) := by decide +kernel
theorem dX5_hasHeard_2 : decode cX5_hasHeard 2 = .ok (.iload_n 2, 1) := by decide +kernel
theorem dX5_hasHeard_3 : decode cX5_hasHeard 3 = .ok (.aload_n 0, 1) := by decide +kernel
theorem dX5_hasHeard_4 : decode cX5_hasHeard 4 = .ok (.getfield 12, 3) := by decide +kernel
theorem dX5_hasHeard_7 : decode cX5_hasHeard 7 = .ok (.invokevirtual 53, 3) := by decide +kernel
theorem dX5_hasHeard_10 : decode cX5_hasHeard 10 = .ok (.if_icmp .ge 29, 3) := by decide +kernel
theorem dX5_hasHeard_13 : decode cX5_hasHeard 13 = .ok (.aload_n 0, 1) := by decide +kernel
theorem dX5_hasHeard_14 : decode cX5_hasHeard 14 = .ok (.getfield 12, 3) := by decide +kernel
theorem dX5_hasHeard_17 : decode cX5_hasHeard 17 = .ok (.iload_n 2, 1) := by decide +kernel
theorem dX5_hasHeard_18 : decode cX5_hasHeard 18 = .ok (.invokevirtual 57, 3) := by decide +kernel
theorem dX5_hasHeard_21 : decode cX5_hasHeard 21 = .ok (.checkcast 61, 3) := by decide +kernel
theorem dX5_hasHeard_24 : decode cX5_hasHeard 24 = .ok (.getfield 63, 3) := by decide +kernel
theorem dX5_hasHeard_27 : decode cX5_hasHeard 27 = .ok (.aload_n 1, 1) := by decide +kernel
theorem dX5_hasHeard_28 : decode cX5_hasHeard 28 = .ok (.if_acmp .ne 5, 3) := by decide +kernel
theorem dX5_hasHeard_31 : decode cX5_hasHeard 31 = .ok (.iconst 1, 1) := by decide +kernel
theorem dX5_hasHeard_32 : decode cX5_hasHeard 32 = .ok (.ireturn, 1) := by decide +kernel
theorem dX5_hasHeard_33 : decode cX5_hasHeard 33 = .ok (.iinc 2 1, 3) := by decide +kernel
theorem dX5_hasHeard_36 : decode cX5_hasHeard 36 = .ok (.goto (-34), 3) := by decide +kernel
theorem dX5_hasHeard_39 : decode cX5_hasHeard 39 = .ok (.iconst 0, 1) := by decide +kernel
theorem dX5_hasHeard_40 : decode cX5_hasHeard 40 = .ok (.ireturn, 1) := by decide +kernel
theorem dX5_settle_0 : decode cX5_settle 0 = .ok (.aload_n 0, 1) := by decide +kernel
theorem dX5_settle_1 : decode cX5_settle 1 = .ok (.iload_n 1, 1) := by decide +kernel
theorem dX5_settle_2 : decode cX5_settle 2 = .ok (.ifCond .eq 7, 3) := by decide +kernel
theorem dX5_settle_5 : decode cX5_settle 5 = .ok (.iconst 2, 1) := by decide +kernel
theorem dX5_settle_6 : decode cX5_settle 6 = .ok (.goto 4, 3) := by decide +kernel
theorem dX5_settle_9 : decode cX5_settle 9 = .ok (.iconst 3, 1) := by decide +kernel
theorem dX5_settle_10 : decode cX5_settle 10 = .ok (.putfield 18, 3) := by decide +kernel
theorem dX5_settle_13 : decode cX5_settle 13 = .ok (.aload_n 0, 1) := by decide +kernel
theorem dX5_settle_14 : decode cX5_settle 14 = .ok (.iload_n 2, 1) := by decide +kernel
theorem dX5_settle_15 : decode cX5_settle 15 = .ok (.putfield 29, 3) := by decide +kernel
theorem dX5_settle_18 : decode cX5_settle 18 = .ok (.return_, 1) := by decide +kernel
theorem dX5_giveBack_0 : decode cX5_giveBack 0 = .ok (.aload_n 0, 1) := by decide +kernel
theorem dX5_giveBack_1 : decode cX5_giveBack 1 = .ok (.invokevirtual 66, 3) := by decide +kernel
theorem dX5_giveBack_4 : decode cX5_giveBack 4 = .ok (.ifCond .eq 24, 3) := by decide +kernel
theorem dX5_giveBack_7 : decode cX5_giveBack 7 = .ok (.aload_n 0, 1) := by decide +kernel
theorem dX5_giveBack_8 : decode cX5_giveBack 8 = .ok (.getfield 35, 3) := by decide +kernel
theorem dX5_giveBack_11 : decode cX5_giveBack 11 = .ok (.aload_n 0, 1) := by decide +kernel
theorem dX5_giveBack_12 : decode cX5_giveBack 12 = .ok (.getfield 45, 3) := by decide +kernel
theorem dX5_giveBack_15 : decode cX5_giveBack 15 = .ok (.aload_n 0, 1) := by decide +kernel
theorem dX5_giveBack_16 : decode cX5_giveBack 16 = .ok (.getfield 26, 3) := by decide +kernel
theorem dX5_giveBack_19 : decode cX5_giveBack 19 = .ok (.isub, 1) := by decide +kernel
theorem dX5_giveBack_20 : decode cX5_giveBack 20 = .ok (.aload_n 0, 1) := by decide +kernel
theorem dX5_giveBack_21 : decode cX5_giveBack 21 = .ok (.getfield 39, 3) := by decide +kernel
theorem dX5_giveBack_24 : decode cX5_giveBack 24 = .ok (.invokevirtual 70, 3) := by decide +kernel
theorem dX5_giveBack_27 : decode cX5_giveBack 27 = .ok (.pop, 1) := by decide +kernel
theorem dX5_giveBack_28 : decode cX5_giveBack 28 = .ok (.aload_n 0, 1) := by decide +kernel
theorem dX5_giveBack_29 : decode cX5_giveBack 29 = .ok (.iconst 0, 1) := by decide +kernel
theorem dX5_giveBack_30 : decode cX5_giveBack 30 = .ok (.putfield 26, 3) := by decide +kernel
theorem dX5_giveBack_33 : decode cX5_giveBack 33 = .ok (.return_, 1) := by decide +kernel
theorem dX6_init_0 : decode cX6_init 0 = .ok (.aload_n 0, 1) := by decide +kernel
theorem dX6_init_1 : decode cX6_init 1 = .ok (.invokespecial 1, 3) := by decide +kernel
theorem dX6_init_4 : decode cX6_init 4 = .ok (.aload_n 0, 1) := by decide +kernel
theorem dX6_init_5 : decode cX6_init 5 = .ok (.aload_n 1, 1) := by decide +kernel
theorem dX6_init_6 : decode cX6_init 6 = .ok (.putfield 7, 3) := by decide +kernel
theorem dX6_init_9 : decode cX6_init 9 = .ok (.aload_n 0, 1) := by decide +kernel
theorem dX6_init_10 : decode cX6_init 10 = .ok (.iload_n 2, 1) := by decide +kernel
theorem dX6_init_11 : decode cX6_init 11 = .ok (.putfield 13, 3) := by decide +kernel
theorem dX6_init_14 : decode cX6_init 14 = .ok (.return_, 1) := by decide +kernel
theorem dJ9_max_7cf53_0 : decode cJ9_max_7cf53 0 = .ok (.iload_n 0, 1) := by decide +kernel
theorem dJ9_max_7cf53_1 : decode cJ9_max_7cf53 1 = .ok (.iload_n 1, 1) := by decide +kernel
theorem dJ9_max_7cf53_2 : decode cJ9_max_7cf53 2 = .ok (.if_icmp .lt 7, 3) := by decide +kernel
theorem dJ9_max_7cf53_5 : decode cJ9_max_7cf53 5 = .ok (.iload_n 0, 1) := by decide +kernel
theorem dJ9_max_7cf53_6 : decode cJ9_max_7cf53 6 = .ok (.goto 4, 3) := by decide +kernel
theorem dJ9_max_7cf53_9 : decode cJ9_max_7cf53 9 = .ok (.iload_n 1, 1) := by decide +kernel
theorem dJ9_max_7cf53_10 : decode cJ9_max_7cf53 10 = .ok (.ireturn, 1) := by decide +kernel
theorem dJ9_min_7cf53_0 : decode cJ9_min_7cf53 0 = .ok (.iload_n 0, 1) := by decide +kernel
theorem dJ9_min_7cf53_1 : decode cJ9_min_7cf53 1 = .ok (.iload_n 1, 1) := by decide +kernel
theorem dJ9_min_7cf53_2 : decode cJ9_min_7cf53 2 = .ok (.if_icmp .gt 7, 3) := by decide +kernel
theorem dJ9_min_7cf53_5 : decode cJ9_min_7cf53 5 = .ok (.iload_n 0, 1) := by decide +kernel
theorem dJ9_min_7cf53_6 : decode cJ9_min_7cf53 6 = .ok (.goto 4, 3) := by decide +kernel
theorem dJ9_min_7cf53_9 : decode cJ9_min_7cf53 9 = .ok (.iload_n 1, 1) := by decide +kernel
theorem dJ9_min_7cf53_10 : decode cJ9_min_7cf53 10 = .ok (.ireturn, 1) := by decide +kernel
theorem dJ9_min_f86c9_0 : decode cJ9_min_f86c9 0 = .ok (.lload_n 0, 1) := by decide +kernel
theorem dJ9_min_f86c9_1 : decode cJ9_min_f86c9 1 = .ok (.lload_n 2, 1) := by decide +kernel
theorem dJ9_min_f86c9_2 : decode cJ9_min_f86c9 2 = .ok (.lcmp, 1) := by decide +kernel
theorem dJ9_min_f86c9_3 : decode cJ9_min_f86c9 3 = .ok (.ifCond .gt 7, 3) := by decide +kernel
theorem dJ9_min_f86c9_6 : decode cJ9_min_f86c9 6 = .ok (.lload_n 0, 1) := by decide +kernel
theorem dJ9_min_f86c9_7 : decode cJ9_min_f86c9 7 = .ok (.goto 4, 3) := by decide +kernel
theorem dJ9_min_f86c9_10 : decode cJ9_min_f86c9 10 = .ok (.lload_n 2, 1) := by decide +kernel
theorem dJ9_min_f86c9_11 : decode cJ9_min_f86c9 11 = .ok (.lreturn, 1) := by decide +kernel
theorem dJxa1e45_init_da8c8_0 : decode cJxa1e45_init_da8c8 0 = .ok (.aload_n 0, 1) := by decide +kernel
theorem dJxa1e45_init_da8c8_1 : decode cJxa1e45_init_da8c8 1 = .ok (.invokespecial 1, 3) := by decide +kernel
theorem dJxa1e45_init_da8c8_4 : decode cJxa1e45_init_da8c8 4 = .ok (.return_, 1) := by decide +kernel
theorem dJxc12de_init_da8c8_0 : decode cJxc12de_init_da8c8 0 = .ok (.aload_n 0, 1) := by decide +kernel
theorem dJxc12de_init_da8c8_1 : decode cJxc12de_init_da8c8 1 = .ok (.invokespecial 1, 3) := by decide +kernel
theorem dJxc12de_init_da8c8_4 : decode cJxc12de_init_da8c8 4 = .ok (.aload_n 0, 1) := by decide +kernel
theorem dJxc12de_init_da8c8_5 : decode cJxc12de_init_da8c8 5 = .ok (.iconst 0, 1) := by decide +kernel
theorem dJxc12de_init_da8c8_6 : decode cJxc12de_init_da8c8 6 = .ok (.putfield 7, 3) := by decide +kernel
theorem dJxc12de_init_da8c8_9 : decode cJxc12de_init_da8c8 9 = .ok (.return_, 1) := by decide +kernel
theorem dJx4a65c_init_da8c8_0 : decode cJx4a65c_init_da8c8 0 = .ok (.aload_n 0, 1) := by decide +kernel
theorem dJx4a65c_init_da8c8_1 : decode cJx4a65c_init_da8c8 1 = .ok (.invokespecial 1, 3) := by decide +kernel
theorem dJx4a65c_init_da8c8_4 : decode cJx4a65c_init_da8c8 4 = .ok (.aload_n 0, 1) := by decide +kernel
theorem dJx4a65c_init_da8c8_5 : decode cJx4a65c_init_da8c8 5 = .ok (.getstatic 39, 3) := by decide +kernel
theorem dJx4a65c_init_da8c8_8 : decode cJx4a65c_init_da8c8 8 = .ok (.putfield 9, 3) := by decide +kernel
theorem dJx4a65c_init_da8c8_11 : decode cJx4a65c_init_da8c8 11 = .ok (.return_, 1) := by decide +kernel
theorem dJx4a65c_grow_92f84_0 : decode cJx4a65c_grow_92f84 0 = .ok (.aload_n 0, 1) := by decide +kernel
theorem dJx4a65c_grow_92f84_1 : decode cJx4a65c_grow_92f84 1 = .ok (.getfield 9, 3) := by decide +kernel
theorem dJx4a65c_grow_92f84_4 : decode cJx4a65c_grow_92f84 4 = .ok (.arraylength, 1) := by decide +kernel
theorem dJx4a65c_grow_92f84_5 : decode cJx4a65c_grow_92f84 5 = .ok (.istore_n 2, 1) := by decide +kernel
theorem dJx4a65c_grow_92f84_6 : decode cJx4a65c_grow_92f84 6 = .ok (.iload_n 2, 1) := by decide +kernel
theorem dJx4a65c_grow_92f84_7 : decode cJx4a65c_grow_92f84 7 = .ok (.ifCond .gt 13, 3) := by decide +kernel
theorem dJx4a65c_grow_92f84_10 : decode cJx4a65c_grow_92f84 10 = .ok (.aload_n 0, 1) := by decide +kernel
theorem dJx4a65c_grow_92f84_11 : decode cJx4a65c_grow_92f84 11 = .ok (.getfield 9, 3) := by decide +kernel
theorem dJx4a65c_grow_92f84_14 : decode cJx4a65c_grow_92f84 14 = .ok (.getstatic 39, 3) := by decide +kernel
theorem dJx4a65c_grow_92f84_17 : decode cJx4a65c_grow_92f84 17 = .ok (.if_acmp .eq 28, 3) := by decide +kernel
theorem dJx4a65c_grow_92f84_20 : decode cJx4a65c_grow_92f84 20 = .ok (.iload_n 2, 1) := by decide +kernel
theorem dJx4a65c_grow_92f84_21 : decode cJx4a65c_grow_92f84 21 = .ok (.iload_n 1, 1) := by decide +kernel
theorem dJx4a65c_grow_92f84_22 : decode cJx4a65c_grow_92f84 22 = .ok (.iload_n 2, 1) := by decide +kernel
theorem dJx4a65c_grow_92f84_23 : decode cJx4a65c_grow_92f84 23 = .ok (.isub, 1) := by decide +kernel
theorem dJx4a65c_grow_92f84_24 : decode cJx4a65c_grow_92f84 24 = .ok (.iload_n 2, 1) := by decide +kernel
theorem dJx4a65c_grow_92f84_25 : decode cJx4a65c_grow_92f84 25 = .ok (.iconst 1, 1) := by decide +kernel
theorem dJx4a65c_grow_92f84_26 : decode cJx4a65c_grow_92f84 26 = .ok (.ishr, 1) := by decide +kernel
theorem dJx4a65c_grow_92f84_27 : decode cJx4a65c_grow_92f84 27 = .ok (.invokestatic 73, 3) := by decide +kernel
theorem dJx4a65c_grow_92f84_30 : decode cJx4a65c_grow_92f84 30 = .ok (.istore_n 3, 1) := by decide +kernel
theorem dJx4a65c_grow_92f84_31 : decode cJx4a65c_grow_92f84 31 = .ok (.aload_n 0, 1) := by decide +kernel
theorem dJx4a65c_grow_92f84_32 : decode cJx4a65c_grow_92f84 32 = .ok (.aload_n 0, 1) := by decide +kernel
theorem dJx4a65c_grow_92f84_33 : decode cJx4a65c_grow_92f84 33 = .ok (.getfield 9, 3) := by decide +kernel
theorem dJx4a65c_grow_92f84_36 : decode cJx4a65c_grow_92f84 36 = .ok (.iload_n 3, 1) := by decide +kernel
theorem dJx4a65c_grow_92f84_37 : decode cJx4a65c_grow_92f84 37 = .ok (.invokestatic 66, 3) := by decide +kernel
theorem dJx4a65c_grow_92f84_40 : decode cJx4a65c_grow_92f84 40 = .ok (.dup_x1, 1) := by decide +kernel
theorem dJx4a65c_grow_92f84_41 : decode cJx4a65c_grow_92f84 41 = .ok (.putfield 9, 3) := by decide +kernel
theorem dJx4a65c_grow_92f84_44 : decode cJx4a65c_grow_92f84 44 = .ok (.areturn, 1) := by decide +kernel
theorem dJx4a65c_grow_92f84_45 : decode cJx4a65c_grow_92f84 45 = .ok (.aload_n 0, 1) := by decide +kernel
theorem dJx4a65c_grow_92f84_46 : decode cJx4a65c_grow_92f84 46 = .ok (.bipush 10, 2) := by decide +kernel
theorem dJx4a65c_grow_92f84_48 : decode cJx4a65c_grow_92f84 48 = .ok (.iload_n 1, 1) := by decide +kernel
theorem dJx4a65c_grow_92f84_49 : decode cJx4a65c_grow_92f84 49 = .ok (.invokestatic 79, 3) := by decide +kernel
theorem dJx4a65c_grow_92f84_52 : decode cJx4a65c_grow_92f84 52 = .ok (.anewarray 7, 3) := by decide +kernel
theorem dJx4a65c_grow_92f84_55 : decode cJx4a65c_grow_92f84 55 = .ok (.dup_x1, 1) := by decide +kernel
theorem dJx4a65c_grow_92f84_56 : decode cJx4a65c_grow_92f84 56 = .ok (.putfield 9, 3) := by decide +kernel
theorem dJx4a65c_grow_92f84_59 : decode cJx4a65c_grow_92f84 59 = .ok (.areturn, 1) := by decide +kernel
theorem dJx4a65c_grow_d5877_0 : decode cJx4a65c_grow_d5877 0 = .ok (.aload_n 0, 1) := by decide +kernel
theorem dJx4a65c_grow_d5877_1 : decode cJx4a65c_grow_d5877 1 = .ok (.aload_n 0, 1) := by decide +kernel
theorem dJx4a65c_grow_d5877_2 : decode cJx4a65c_grow_d5877 2 = .ok (.getfield 48, 3) := by decide +kernel
theorem dJx4a65c_grow_d5877_5 : decode cJx4a65c_grow_d5877 5 = .ok (.iconst 1, 1) := by decide +kernel
theorem dJx4a65c_grow_d5877_6 : decode cJx4a65c_grow_d5877 6 = .ok (.iadd, 1) := by decide +kernel
theorem dJx4a65c_grow_d5877_7 : decode cJx4a65c_grow_d5877 7 = .ok (.invokevirtual 69, 3) := by decide +kernel
theorem dJx4a65c_grow_d5877_10 : decode cJx4a65c_grow_d5877 10 = .ok (.areturn, 1) := by decide +kernel
theorem dJx4a65c_size_8abf5_0 : decode cJx4a65c_size_8abf5 0 = .ok (.aload_n 0, 1) := by decide +kernel
theorem dJx4a65c_size_8abf5_1 : decode cJx4a65c_size_8abf5 1 = .ok (.getfield 48, 3) := by decide +kernel
theorem dJx4a65c_size_8abf5_4 : decode cJx4a65c_size_8abf5 4 = .ok (.ireturn, 1) := by decide +kernel
theorem dJx4a65c_isEmpty_aae02_0 : decode cJx4a65c_isEmpty_aae02 0 = .ok (.aload_n 0, 1) := by decide +kernel
theorem dJx4a65c_isEmpty_aae02_1 : decode cJx4a65c_isEmpty_aae02 1 = .ok (.getfield 48, 3) := by decide +kernel
theorem dJx4a65c_isEmpty_aae02_4 : decode cJx4a65c_isEmpty_aae02 4 = .ok (.ifCond .ne 7, 3) := by decide +kernel
theorem dJx4a65c_isEmpty_aae02_7 : decode cJx4a65c_isEmpty_aae02 7 = .ok (.iconst 1, 1) := by decide +kernel
theorem dJx4a65c_isEmpty_aae02_8 : decode cJx4a65c_isEmpty_aae02 8 = .ok (.goto 4, 3) := by decide +kernel
theorem dJx4a65c_isEmpty_aae02_11 : decode cJx4a65c_isEmpty_aae02 11 = .ok (.iconst 0, 1) := by decide +kernel
theorem dJx4a65c_isEmpty_aae02_12 : decode cJx4a65c_isEmpty_aae02 12 = .ok (.ireturn, 1) := by decide +kernel
theorem dJx4a65c_elementData_915e3_0 : decode cJx4a65c_elementData_915e3 0 = .ok (.aload_n 0, 1) := by decide +kernel
theorem dJx4a65c_elementData_915e3_1 : decode cJx4a65c_elementData_915e3 1 = .ok (.getfield 9, 3) := by decide +kernel
theorem dJx4a65c_elementData_915e3_4 : decode cJx4a65c_elementData_915e3 4 = .ok (.iload_n 1, 1) := by decide +kernel
theorem dJx4a65c_elementData_915e3_5 : decode cJx4a65c_elementData_915e3 5 = .ok (.aaload, 1) := by decide +kernel
theorem dJx4a65c_elementData_915e3_6 : decode cJx4a65c_elementData_915e3 6 = .ok (.areturn, 1) := by decide +kernel
theorem dJx4a65c_get_915e3_0 : decode cJx4a65c_get_915e3 0 = .ok (.iload_n 1, 1) := by decide +kernel
theorem dJx4a65c_get_915e3_1 : decode cJx4a65c_get_915e3 1 = .ok (.aload_n 0, 1) := by decide +kernel
theorem dJx4a65c_get_915e3_2 : decode cJx4a65c_get_915e3 2 = .ok (.getfield 48, 3) := by decide +kernel
theorem dJx4a65c_get_915e3_5 : decode cJx4a65c_get_915e3 5 = .ok (.invokestatic 118, 3) := by decide +kernel
theorem dJx4a65c_get_915e3_8 : decode cJx4a65c_get_915e3 8 = .ok (.pop, 1) := by decide +kernel
theorem dJx4a65c_get_915e3_9 : decode cJx4a65c_get_915e3 9 = .ok (.aload_n 0, 1) := by decide +kernel
theorem dJx4a65c_get_915e3_10 : decode cJx4a65c_get_915e3 10 = .ok (.iload_n 1, 1) := by decide +kernel
theorem dJx4a65c_get_915e3_11 : decode cJx4a65c_get_915e3 11 = .ok (.invokevirtual 123, 3) := by decide +kernel
theorem dJx4a65c_get_915e3_14 : decode cJx4a65c_get_915e3 14 = .ok (.areturn, 1) := by decide +kernel
theorem dJx4a65c_add_72be8_0 : decode cJx4a65c_add_72be8 0 = .ok (.iload_n 3, 1) := by decide +kernel
theorem dJx4a65c_add_72be8_1 : decode cJx4a65c_add_72be8 1 = .ok (.aload_n 2, 1) := by decide +kernel
theorem dJx4a65c_add_72be8_2 : decode cJx4a65c_add_72be8 2 = .ok (.arraylength, 1) := by decide +kernel
theorem dJx4a65c_add_72be8_3 : decode cJx4a65c_add_72be8 3 = .ok (.if_icmp .ne 8, 3) := by decide +kernel
theorem dJx4a65c_add_72be8_6 : decode cJx4a65c_add_72be8 6 = .ok (.aload_n 0, 1) := by decide +kernel
theorem dJx4a65c_add_72be8_7 : decode cJx4a65c_add_72be8 7 = .ok (.invokevirtual 129, 3) := by decide +kernel
theorem dJx4a65c_add_72be8_10 : decode cJx4a65c_add_72be8 10 = .ok (.astore_n 2, 1) := by decide +kernel
theorem dJx4a65c_add_72be8_11 : decode cJx4a65c_add_72be8 11 = .ok (.aload_n 2, 1) := by decide +kernel
theorem dJx4a65c_add_72be8_12 : decode cJx4a65c_add_72be8 12 = .ok (.iload_n 3, 1) := by decide +kernel
theorem dJx4a65c_add_72be8_13 : decode cJx4a65c_add_72be8 13 = .ok (.aload_n 1, 1) := by decide +kernel
theorem dJx4a65c_add_72be8_14 : decode cJx4a65c_add_72be8 14 = .ok (.aastore, 1) := by decide +kernel
theorem dJx4a65c_add_72be8_15 : decode cJx4a65c_add_72be8 15 = .ok (.aload_n 0, 1) := by decide +kernel
theorem dJx4a65c_add_72be8_16 : decode cJx4a65c_add_72be8 16 = .ok (.iload_n 3, 1) := by decide +kernel
theorem dJx4a65c_add_72be8_17 : decode cJx4a65c_add_72be8 17 = .ok (.iconst 1, 1) := by decide +kernel
theorem dJx4a65c_add_72be8_18 : decode cJx4a65c_add_72be8 18 = .ok (.iadd, 1) := by decide +kernel
theorem dJx4a65c_add_72be8_19 : decode cJx4a65c_add_72be8 19 = .ok (.putfield 48, 3) := by decide +kernel
theorem dJx4a65c_add_72be8_22 : decode cJx4a65c_add_72be8 22 = .ok (.return_, 1) := by decide +kernel
theorem dJx4a65c_add_9ea2d_0 : decode cJx4a65c_add_9ea2d 0 = .ok (.aload_n 0, 1) := by decide +kernel
theorem dJx4a65c_add_9ea2d_1 : decode cJx4a65c_add_9ea2d 1 = .ok (.dup, 1) := by decide +kernel
theorem dJx4a65c_add_9ea2d_2 : decode cJx4a65c_add_9ea2d 2 = .ok (.getfield 63, 3) := by decide +kernel
theorem dJx4a65c_add_9ea2d_5 : decode cJx4a65c_add_9ea2d 5 = .ok (.iconst 1, 1) := by decide +kernel
theorem dJx4a65c_add_9ea2d_6 : decode cJx4a65c_add_9ea2d 6 = .ok (.iadd, 1) := by decide +kernel
theorem dJx4a65c_add_9ea2d_7 : decode cJx4a65c_add_9ea2d 7 = .ok (.putfield 63, 3) := by decide +kernel
theorem dJx4a65c_add_9ea2d_10 : decode cJx4a65c_add_9ea2d 10 = .ok (.aload_n 0, 1) := by decide +kernel
theorem dJx4a65c_add_9ea2d_11 : decode cJx4a65c_add_9ea2d 11 = .ok (.aload_n 1, 1) := by decide +kernel
theorem dJx4a65c_add_9ea2d_12 : decode cJx4a65c_add_9ea2d 12 = .ok (.aload_n 0, 1) := by decide +kernel
theorem dJx4a65c_add_9ea2d_13 : decode cJx4a65c_add_9ea2d 13 = .ok (.getfield 9, 3) := by decide +kernel
theorem dJx4a65c_add_9ea2d_16 : decode cJx4a65c_add_9ea2d 16 = .ok (.aload_n 0, 1) := by decide +kernel
theorem dJx4a65c_add_9ea2d_17 : decode cJx4a65c_add_9ea2d 17 = .ok (.getfield 48, 3) := by decide +kernel
theorem dJx4a65c_add_9ea2d_20 : decode cJx4a65c_add_9ea2d 20 = .ok (.invokevirtual 131, 3) := by decide +kernel
theorem dJx4a65c_add_9ea2d_23 : decode cJx4a65c_add_9ea2d 23 = .ok (.iconst 1, 1) := by decide +kernel
theorem dJx4a65c_add_9ea2d_24 : decode cJx4a65c_add_9ea2d 24 = .ok (.ireturn, 1) := by decide +kernel
theorem dJx4a65c_remove_915e3_0 : decode cJx4a65c_remove_915e3 0 = .ok (.iload_n 1, 1) := by decide +kernel
theorem dJx4a65c_remove_915e3_1 : decode cJx4a65c_remove_915e3 1 = .ok (.aload_n 0, 1) := by decide +kernel
theorem dJx4a65c_remove_915e3_2 : decode cJx4a65c_remove_915e3 2 = .ok (.getfield 48, 3) := by decide +kernel
theorem dJx4a65c_remove_915e3_5 : decode cJx4a65c_remove_915e3 5 = .ok (.invokestatic 118, 3) := by decide +kernel
theorem dJx4a65c_remove_915e3_8 : decode cJx4a65c_remove_915e3 8 = .ok (.pop, 1) := by decide +kernel
theorem dJx4a65c_remove_915e3_9 : decode cJx4a65c_remove_915e3 9 = .ok (.aload_n 0, 1) := by decide +kernel
theorem dJx4a65c_remove_915e3_10 : decode cJx4a65c_remove_915e3 10 = .ok (.getfield 9, 3) := by decide +kernel
theorem dJx4a65c_remove_915e3_13 : decode cJx4a65c_remove_915e3 13 = .ok (.astore_n 2, 1) := by decide +kernel
theorem dJx4a65c_remove_915e3_14 : decode cJx4a65c_remove_915e3 14 = .ok (.aload_n 2, 1) := by decide +kernel
theorem dJx4a65c_remove_915e3_15 : decode cJx4a65c_remove_915e3 15 = .ok (.iload_n 1, 1) := by decide +kernel
theorem dJx4a65c_remove_915e3_16 : decode cJx4a65c_remove_915e3 16 = .ok (.aaload, 1) := by decide +kernel
theorem dJx4a65c_remove_915e3_17 : decode cJx4a65c_remove_915e3 17 = .ok (.astore_n 3, 1) := by decide +kernel
theorem dJx4a65c_remove_915e3_18 : decode cJx4a65c_remove_915e3 18 = .ok (.aload_n 0, 1) := by decide +kernel
theorem dJx4a65c_remove_915e3_19 : decode cJx4a65c_remove_915e3 19 = .ok (.aload_n 2, 1) := by decide +kernel
theorem dJx4a65c_remove_915e3_20 : decode cJx4a65c_remove_915e3 20 = .ok (.iload_n 1, 1) := by decide +kernel
theorem dJx4a65c_remove_915e3_21 : decode cJx4a65c_remove_915e3 21 = .ok (.invokevirtual 144, 3) := by decide +kernel
theorem dJx4a65c_remove_915e3_24 : decode cJx4a65c_remove_915e3 24 = .ok (.aload_n 3, 1) := by decide +kernel
theorem dJx4a65c_remove_915e3_25 : decode cJx4a65c_remove_915e3 25 = .ok (.areturn, 1) := by decide +kernel
theorem dJx4a65c_fastRemove_b59b0_0 : decode cJx4a65c_fastRemove_b59b0 0 = .ok (.aload_n 0, 1) := by decide +kernel
theorem dJx4a65c_fastRemove_b59b0_1 : decode cJx4a65c_fastRemove_b59b0 1 = .ok (.dup, 1) := by decide +kernel
theorem dJx4a65c_fastRemove_b59b0_2 : decode cJx4a65c_fastRemove_b59b0 2 = .ok (.getfield 63, 3) := by decide +kernel
theorem dJx4a65c_fastRemove_b59b0_5 : decode cJx4a65c_fastRemove_b59b0 5 = .ok (.iconst 1, 1) := by decide +kernel
theorem dJx4a65c_fastRemove_b59b0_6 : decode cJx4a65c_fastRemove_b59b0 6 = .ok (.iadd, 1) := by decide +kernel
theorem dJx4a65c_fastRemove_b59b0_7 : decode cJx4a65c_fastRemove_b59b0 7 = .ok (.putfield 63, 3) := by decide +kernel
theorem dJx4a65c_fastRemove_b59b0_10 : decode cJx4a65c_fastRemove_b59b0 10 = .ok (.aload_n 0, 1) := by decide +kernel
theorem dJx4a65c_fastRemove_b59b0_11 : decode cJx4a65c_fastRemove_b59b0 11 = .ok (.getfield 48, 3) := by decide +kernel
theorem dJx4a65c_fastRemove_b59b0_14 : decode cJx4a65c_fastRemove_b59b0 14 = .ok (.iconst 1, 1) := by decide +kernel
theorem dJx4a65c_fastRemove_b59b0_15 : decode cJx4a65c_fastRemove_b59b0 15 = .ok (.isub, 1) := by decide +kernel
theorem dJx4a65c_fastRemove_b59b0_16 : decode cJx4a65c_fastRemove_b59b0 16 = .ok (.dup, 1) := by decide +kernel
theorem dJx4a65c_fastRemove_b59b0_17 : decode cJx4a65c_fastRemove_b59b0 17 = .ok (.istore_n 3, 1) := by decide +kernel
theorem dJx4a65c_fastRemove_b59b0_18 : decode cJx4a65c_fastRemove_b59b0 18 = .ok (.iload_n 2, 1) := by decide +kernel
theorem dJx4a65c_fastRemove_b59b0_19 : decode cJx4a65c_fastRemove_b59b0 19 = .ok (.if_icmp .le 15, 3) := by decide +kernel
theorem dJx4a65c_fastRemove_b59b0_22 : decode cJx4a65c_fastRemove_b59b0 22 = .ok (.aload_n 1, 1) := by decide +kernel
theorem dJx4a65c_fastRemove_b59b0_23 : decode cJx4a65c_fastRemove_b59b0 23 = .ok (.iload_n 2, 1) := by decide +kernel
theorem dJx4a65c_fastRemove_b59b0_24 : decode cJx4a65c_fastRemove_b59b0 24 = .ok (.iconst 1, 1) := by decide +kernel
theorem dJx4a65c_fastRemove_b59b0_25 : decode cJx4a65c_fastRemove_b59b0 25 = .ok (.iadd, 1) := by decide +kernel
theorem dJx4a65c_fastRemove_b59b0_26 : decode cJx4a65c_fastRemove_b59b0 26 = .ok (.aload_n 1, 1) := by decide +kernel
theorem dJx4a65c_fastRemove_b59b0_27 : decode cJx4a65c_fastRemove_b59b0 27 = .ok (.iload_n 2, 1) := by decide +kernel
theorem dJx4a65c_fastRemove_b59b0_28 : decode cJx4a65c_fastRemove_b59b0 28 = .ok (.iload_n 3, 1) := by decide +kernel
theorem dJx4a65c_fastRemove_b59b0_29 : decode cJx4a65c_fastRemove_b59b0 29 = .ok (.iload_n 2, 1) := by decide +kernel
theorem dJx4a65c_fastRemove_b59b0_30 : decode cJx4a65c_fastRemove_b59b0 30 = .ok (.isub, 1) := by decide +kernel
theorem dJx4a65c_fastRemove_b59b0_31 : decode cJx4a65c_fastRemove_b59b0 31 = .ok (.invokestatic 112, 3) := by decide +kernel
theorem dJx4a65c_fastRemove_b59b0_34 : decode cJx4a65c_fastRemove_b59b0 34 = .ok (.aload_n 1, 1) := by decide +kernel
theorem dJx4a65c_fastRemove_b59b0_35 : decode cJx4a65c_fastRemove_b59b0 35 = .ok (.aload_n 0, 1) := by decide +kernel
theorem dJx4a65c_fastRemove_b59b0_36 : decode cJx4a65c_fastRemove_b59b0 36 = .ok (.iload_n 3, 1) := by decide +kernel
theorem dJx4a65c_fastRemove_b59b0_37 : decode cJx4a65c_fastRemove_b59b0 37 = .ok (.dup_x1, 1) := by decide +kernel
theorem dJx4a65c_fastRemove_b59b0_38 : decode cJx4a65c_fastRemove_b59b0 38 = .ok (.putfield 48, 3) := by decide +kernel
theorem dJx4a65c_fastRemove_b59b0_41 : decode cJx4a65c_fastRemove_b59b0 41 = .ok (.aconst_null, 1) := by decide +kernel
theorem dJx4a65c_fastRemove_b59b0_42 : decode cJx4a65c_fastRemove_b59b0 42 = .ok (.aastore, 1) := by decide +kernel
theorem dJx4a65c_fastRemove_b59b0_43 : decode cJx4a65c_fastRemove_b59b0 43 = .ok (.return_, 1) := by decide +kernel
theorem dJ7_copyOf_1904c_0 : decode cJ7_copyOf_1904c 0 = .ok (.aload_n 0, 1) := by decide +kernel
theorem dJ7_copyOf_1904c_1 : decode cJ7_copyOf_1904c 1 = .ok (.iload_n 1, 1) := by decide +kernel
theorem dJ7_copyOf_1904c_2 : decode cJ7_copyOf_1904c 2 = .ok (.aload_n 0, 1) := by decide +kernel
theorem dJ7_copyOf_1904c_3 : decode cJ7_copyOf_1904c 3 = .ok (.invokevirtual 86, 3) := by decide +kernel
theorem dJ7_copyOf_1904c_6 : decode cJ7_copyOf_1904c 6 = .ok (.invokestatic 300, 3) := by decide +kernel
theorem dJ7_copyOf_1904c_9 : decode cJ7_copyOf_1904c 9 = .ok (.areturn, 1) := by decide +kernel
theorem dJ7_copyOf_6403c_0 : decode cJ7_copyOf_6403c 0 = .ok (.aload_n 2, 1) := by decide +kernel
theorem dJ7_copyOf_6403c_1 : decode cJ7_copyOf_6403c 1 = .ok (.ldc 110, 2) := by decide +kernel
theorem dJ7_copyOf_6403c_3 : decode cJ7_copyOf_6403c 3 = .ok (.if_acmp .ne 10, 3) := by decide +kernel
theorem dJ7_copyOf_6403c_6 : decode cJ7_copyOf_6403c 6 = .ok (.iload_n 1, 1) := by decide +kernel
theorem dJ7_copyOf_6403c_7 : decode cJ7_copyOf_6403c 7 = .ok (.anewarray 2, 3) := by decide +kernel
theorem dJ7_copyOf_6403c_10 : decode cJ7_copyOf_6403c 10 = .ok (.goto 14, 3) := by decide +kernel
theorem dJ7_copyOf_6403c_13 : decode cJ7_copyOf_6403c 13 = .ok (.aload_n 2, 1) := by decide +kernel
theorem dJ7_copyOf_6403c_14 : decode cJ7_copyOf_6403c 14 = .ok (.invokevirtual 90, 3) := by decide +kernel
theorem dJ7_copyOf_6403c_17 : decode cJ7_copyOf_6403c 17 = .ok (.iload_n 1, 1) := by decide +kernel
theorem dJ7_copyOf_6403c_18 : decode cJ7_copyOf_6403c 18 = .ok (.invokestatic 95, 3) := by decide +kernel
theorem dJ7_copyOf_6403c_21 : decode cJ7_copyOf_6403c 21 = .ok (.checkcast 110, 3) := by decide +kernel
theorem dJ7_copyOf_6403c_24 : decode cJ7_copyOf_6403c 24 = .ok (.astore_n 3, 1) := by decide +kernel
theorem dJ7_copyOf_6403c_25 : decode cJ7_copyOf_6403c 25 = .ok (.aload_n 0, 1) := by decide +kernel
theorem dJ7_copyOf_6403c_26 : decode cJ7_copyOf_6403c 26 = .ok (.iconst 0, 1) := by decide +kernel
theorem dJ7_copyOf_6403c_27 : decode cJ7_copyOf_6403c 27 = .ok (.aload_n 3, 1) := by decide +kernel
theorem dJ7_copyOf_6403c_28 : decode cJ7_copyOf_6403c 28 = .ok (.iconst 0, 1) := by decide +kernel
theorem dJ7_copyOf_6403c_29 : decode cJ7_copyOf_6403c 29 = .ok (.aload_n 0, 1) := by decide +kernel
theorem dJ7_copyOf_6403c_30 : decode cJ7_copyOf_6403c 30 = .ok (.arraylength, 1) := by decide +kernel
theorem dJ7_copyOf_6403c_31 : decode cJ7_copyOf_6403c 31 = .ok (.iload_n 1, 1) := by decide +kernel
theorem dJ7_copyOf_6403c_32 : decode cJ7_copyOf_6403c 32 = .ok (.invokestatic 304, 3) := by decide +kernel
theorem dJ7_copyOf_6403c_35 : decode cJ7_copyOf_6403c 35 = .ok (.invokestatic 150, 3) := by decide +kernel
theorem dJ7_copyOf_6403c_38 : decode cJ7_copyOf_6403c 38 = .ok (.aload_n 3, 1) := by decide +kernel
theorem dJ7_copyOf_6403c_39 : decode cJ7_copyOf_6403c 39 = .ok (.areturn, 1) := by decide +kernel
theorem dJ7_copyOf_59c91_0 : decode cJ7_copyOf_59c91 0 = .ok (.iload_n 1, 1) := by decide +kernel
theorem dJ7_copyOf_59c91_1 : decode cJ7_copyOf_59c91 1 = .ok (.aload_n 0, 1) := by decide +kernel
theorem dJ7_copyOf_59c91_2 : decode cJ7_copyOf_59c91 2 = .ok (.arraylength, 1) := by decide +kernel
theorem dJ7_copyOf_59c91_3 : decode cJ7_copyOf_59c91 3 = .ok (.if_icmp .ne 11, 3) := by decide +kernel
theorem dJ7_copyOf_59c91_6 : decode cJ7_copyOf_59c91 6 = .ok (.aload_n 0, 1) := by decide +kernel
theorem dJ7_copyOf_59c91_7 : decode cJ7_copyOf_59c91 7 = .ok (.invokevirtual 316, 3) := by decide +kernel
theorem dJ7_copyOf_59c91_10 : decode cJ7_copyOf_59c91 10 = .ok (.checkcast 317, 3) := by decide +kernel
theorem dJ7_copyOf_59c91_13 : decode cJ7_copyOf_59c91 13 = .ok (.areturn, 1) := by decide +kernel
theorem dJ7_copyOf_59c91_14 : decode cJ7_copyOf_59c91 14 = .ok (.iload_n 1, 1) := by decide +kernel
theorem dJ7_copyOf_59c91_15 : decode cJ7_copyOf_59c91 15 = .ok (.newarray .int, 2) := by decide +kernel
theorem dJ7_copyOf_59c91_17 : decode cJ7_copyOf_59c91 17 = .ok (.astore_n 2, 1) := by decide +kernel
theorem dJ7_copyOf_59c91_18 : decode cJ7_copyOf_59c91 18 = .ok (.aload_n 0, 1) := by decide +kernel
theorem dJ7_copyOf_59c91_19 : decode cJ7_copyOf_59c91 19 = .ok (.iconst 0, 1) := by decide +kernel
theorem dJ7_copyOf_59c91_20 : decode cJ7_copyOf_59c91 20 = .ok (.aload_n 2, 1) := by decide +kernel
theorem dJ7_copyOf_59c91_21 : decode cJ7_copyOf_59c91 21 = .ok (.iconst 0, 1) := by decide +kernel
theorem dJ7_copyOf_59c91_22 : decode cJ7_copyOf_59c91 22 = .ok (.aload_n 0, 1) := by decide +kernel
theorem dJ7_copyOf_59c91_23 : decode cJ7_copyOf_59c91 23 = .ok (.arraylength, 1) := by decide +kernel
theorem dJ7_copyOf_59c91_24 : decode cJ7_copyOf_59c91 24 = .ok (.iload_n 1, 1) := by decide +kernel
theorem dJ7_copyOf_59c91_25 : decode cJ7_copyOf_59c91 25 = .ok (.invokestatic 304, 3) := by decide +kernel
theorem dJ7_copyOf_59c91_28 : decode cJ7_copyOf_59c91 28 = .ok (.invokestatic 150, 3) := by decide +kernel
theorem dJ7_copyOf_59c91_31 : decode cJ7_copyOf_59c91 31 = .ok (.aload_n 2, 1) := by decide +kernel
theorem dJ7_copyOf_59c91_32 : decode cJ7_copyOf_59c91 32 = .ok (.areturn, 1) := by decide +kernel
theorem dJ15_checkIndex_7cf53_0 : decode cJ15_checkIndex_7cf53 0 = .ok (.iload_n 0, 1) := by decide +kernel
theorem dJ15_checkIndex_7cf53_1 : decode cJ15_checkIndex_7cf53 1 = .ok (.iload_n 1, 1) := by decide +kernel
theorem dJ15_checkIndex_7cf53_2 : decode cJ15_checkIndex_7cf53 2 = .ok (.aconst_null, 1) := by decide +kernel
theorem dJ15_checkIndex_7cf53_3 : decode cJ15_checkIndex_7cf53 3 = .ok (.invokestatic 105, 3) := by decide +kernel
theorem dJ15_checkIndex_7cf53_6 : decode cJ15_checkIndex_7cf53 6 = .ok (.ireturn, 1) := by decide +kernel
theorem dJ8_newLength_cabcc_0 : decode cJ8_newLength_cabcc 0 = .ok (.iload_n 0, 1) := by decide +kernel
theorem dJ8_newLength_cabcc_1 : decode cJ8_newLength_cabcc 1 = .ok (.iload_n 1, 1) := by decide +kernel
theorem dJ8_newLength_cabcc_2 : decode cJ8_newLength_cabcc 2 = .ok (.iload_n 2, 1) := by decide +kernel
theorem dJ8_newLength_cabcc_3 : decode cJ8_newLength_cabcc 3 = .ok (.invokestatic 194, 3) := by decide +kernel
theorem dJ8_newLength_cabcc_6 : decode cJ8_newLength_cabcc 6 = .ok (.iadd, 1) := by decide +kernel
theorem dJ8_newLength_cabcc_7 : decode cJ8_newLength_cabcc 7 = .ok (.istore_n 3, 1) := by decide +kernel
theorem dJ8_newLength_cabcc_8 : decode cJ8_newLength_cabcc 8 = .ok (.iconst 0, 1) := by decide +kernel
theorem dJ8_newLength_cabcc_9 : decode cJ8_newLength_cabcc 9 = .ok (.iload_n 3, 1) := by decide +kernel
theorem dJ8_newLength_cabcc_10 : decode cJ8_newLength_cabcc 10 = .ok (.if_icmp .ge 11, 3) := by decide +kernel
theorem dJ8_newLength_cabcc_13 : decode cJ8_newLength_cabcc 13 = .ok (.iload_n 3, 1) := by decide +kernel
theorem dJ8_newLength_cabcc_14 : decode cJ8_newLength_cabcc 14 = .ok (.ldc 200, 2) := by decide +kernel
theorem dJ8_newLength_cabcc_16 : decode cJ8_newLength_cabcc 16 = .ok (.if_icmp .gt 5, 3) := by decide +kernel
theorem dJ8_newLength_cabcc_19 : decode cJ8_newLength_cabcc 19 = .ok (.iload_n 3, 1) := by decide +kernel
theorem dJ8_newLength_cabcc_20 : decode cJ8_newLength_cabcc 20 = .ok (.ireturn, 1) := by decide +kernel
theorem dJ8_newLength_cabcc_21 : decode cJ8_newLength_cabcc 21 = .ok (.iload_n 0, 1) := by decide +kernel
theorem dJ8_newLength_cabcc_22 : decode cJ8_newLength_cabcc 22 = .ok (.iload_n 1, 1) := by decide +kernel
theorem dJ8_newLength_cabcc_23 : decode cJ8_newLength_cabcc 23 = .ok (.invokestatic 201, 3) := by decide +kernel
theorem dJ8_newLength_cabcc_26 : decode cJ8_newLength_cabcc 26 = .ok (.ireturn, 1) := by decide +kernel
theorem dJ8_hugeLength_7cf53_0 : decode cJ8_hugeLength_7cf53 0 = .ok (.iload_n 0, 1) := by decide +kernel
theorem dJ8_hugeLength_7cf53_1 : decode cJ8_hugeLength_7cf53 1 = .ok (.iload_n 1, 1) := by decide +kernel
theorem dJ8_hugeLength_7cf53_2 : decode cJ8_hugeLength_7cf53 2 = .ok (.iadd, 1) := by decide +kernel
theorem dJ8_hugeLength_7cf53_3 : decode cJ8_hugeLength_7cf53 3 = .ok (.istore_n 2, 1) := by decide +kernel
theorem dJ8_hugeLength_7cf53_4 : decode cJ8_hugeLength_7cf53 4 = .ok (.iload_n 2, 1) := by decide +kernel
theorem dJ8_hugeLength_7cf53_5 : decode cJ8_hugeLength_7cf53 5 = .ok (.ifCond .ge 44, 3) := by decide +kernel
theorem dJ8_hugeLength_7cf53_8 : decode cJ8_hugeLength_7cf53 8 = .ok (.new 204, 3) := by decide +kernel
theorem dJ8_hugeLength_7cf53_11 : decode cJ8_hugeLength_7cf53 11 = .ok (.dup, 1) := by decide +kernel
theorem dJ8_hugeLength_7cf53_12 : decode cJ8_hugeLength_7cf53 12 = .ok (.new 89, 3) := by decide +kernel
theorem dJ8_hugeLength_7cf53_15 : decode cJ8_hugeLength_7cf53 15 = .ok (.dup, 1) := by decide +kernel
theorem dJ8_hugeLength_7cf53_16 : decode cJ8_hugeLength_7cf53 16 = .ok (.invokespecial 91, 3) := by decide +kernel
theorem dJ8_hugeLength_7cf53_19 : decode cJ8_hugeLength_7cf53 19 = .ok (.ldc 206, 2) := by decide +kernel
theorem dJ8_hugeLength_7cf53_21 : decode cJ8_hugeLength_7cf53 21 = .ok (.invokevirtual 94, 3) := by decide +kernel
theorem dJ8_hugeLength_7cf53_24 : decode cJ8_hugeLength_7cf53 24 = .ok (.iload_n 0, 1) := by decide +kernel
theorem dJ8_hugeLength_7cf53_25 : decode cJ8_hugeLength_7cf53 25 = .ok (.invokevirtual 98, 3) := by decide +kernel
theorem dJ8_hugeLength_7cf53_28 : decode cJ8_hugeLength_7cf53 28 = .ok (.ldc 208, 2) := by decide +kernel
theorem dJ8_hugeLength_7cf53_30 : decode cJ8_hugeLength_7cf53 30 = .ok (.invokevirtual 94, 3) := by decide +kernel
theorem dJ8_hugeLength_7cf53_33 : decode cJ8_hugeLength_7cf53 33 = .ok (.iload_n 1, 1) := by decide +kernel
theorem dJ8_hugeLength_7cf53_34 : decode cJ8_hugeLength_7cf53 34 = .ok (.invokevirtual 98, 3) := by decide +kernel
theorem dJ8_hugeLength_7cf53_37 : decode cJ8_hugeLength_7cf53 37 = .ok (.ldc 210, 2) := by decide +kernel
theorem dJ8_hugeLength_7cf53_39 : decode cJ8_hugeLength_7cf53 39 = .ok (.invokevirtual 94, 3) := by decide +kernel
theorem dJ8_hugeLength_7cf53_42 : decode cJ8_hugeLength_7cf53 42 = .ok (.invokevirtual 101, 3) := by decide +kernel
theorem dJ8_hugeLength_7cf53_45 : decode cJ8_hugeLength_7cf53 45 = .ok (.invokespecial 212, 3) := by decide +kernel
theorem dJ8_hugeLength_7cf53_48 : decode cJ8_hugeLength_7cf53 48 = .ok (.athrow, 1) := by decide +kernel
theorem dJ8_hugeLength_7cf53_49 : decode cJ8_hugeLength_7cf53 49 = .ok (.iload_n 2, 1) := by decide +kernel
theorem dJ8_hugeLength_7cf53_50 : decode cJ8_hugeLength_7cf53 50 = .ok (.ldc 200, 2) := by decide +kernel
theorem dJ8_hugeLength_7cf53_52 : decode cJ8_hugeLength_7cf53 52 = .ok (.if_icmp .gt 6, 3) := by decide +kernel
theorem dJ8_hugeLength_7cf53_55 : decode cJ8_hugeLength_7cf53 55 = .ok (.ldc 200, 2) := by decide +kernel
theorem dJ8_hugeLength_7cf53_57 : decode cJ8_hugeLength_7cf53 57 = .ok (.ireturn, 1) := by decide +kernel
theorem dJ8_hugeLength_7cf53_58 : decode cJ8_hugeLength_7cf53 58 = .ok (.iload_n 2, 1) := by decide +kernel
theorem dJ8_hugeLength_7cf53_59 : decode cJ8_hugeLength_7cf53 59 = .ok (.ireturn, 1) := by decide +kernel
theorem dJ3_checkIndex_8e157_0 : decode cJ3_checkIndex_8e157 0 = .ok (.iload_n 0, 1) := by decide +kernel
theorem dJ3_checkIndex_8e157_1 : decode cJ3_checkIndex_8e157 1 = .ok (.ifCond .lt 8, 3) := by decide +kernel
theorem dJ3_checkIndex_8e157_4 : decode cJ3_checkIndex_8e157 4 = .ok (.iload_n 0, 1) := by decide +kernel
theorem dJ3_checkIndex_8e157_5 : decode cJ3_checkIndex_8e157 5 = .ok (.iload_n 1, 1) := by decide +kernel
theorem dJ3_checkIndex_8e157_6 : decode cJ3_checkIndex_8e157 6 = .ok (.if_icmp .lt 10, 3) := by decide +kernel
theorem dJ3_checkIndex_8e157_9 : decode cJ3_checkIndex_8e157 9 = .ok (.aload_n 2, 1) := by decide +kernel
theorem dJ3_checkIndex_8e157_10 : decode cJ3_checkIndex_8e157 10 = .ok (.iload_n 0, 1) := by decide +kernel
theorem dJ3_checkIndex_8e157_11 : decode cJ3_checkIndex_8e157 11 = .ok (.iload_n 1, 1) := by decide +kernel
theorem dJ3_checkIndex_8e157_12 : decode cJ3_checkIndex_8e157 12 = .ok (.invokestatic 95, 3) := by decide +kernel
theorem dJ3_checkIndex_8e157_15 : decode cJ3_checkIndex_8e157 15 = .ok (.athrow, 1) := by decide +kernel
theorem dJ3_checkIndex_8e157_16 : decode cJ3_checkIndex_8e157 16 = .ok (.iload_n 0, 1) := by decide +kernel
theorem dJ3_checkIndex_8e157_17 : decode cJ3_checkIndex_8e157 17 = .ok (.ireturn, 1) := by decide +kernel
end
section
theorem dX7_init_0 : decode cX7_init 0 = .ok (.aload_n 0, 1) := by decide +kernel
theorem dX7_init_1 : decode cX7_init 1 = .ok (.invokespecial 1, 3) := by decide +kernel
theorem dX7_init_4 : decode cX7_init 4 = .ok (.aload_n 0, 1) := by decide +kernel
theorem dX7_init_5 : decode cX7_init 5 = .ok (.new 7, 3) := by decide +kernel
theorem dX7_init_8 : decode cX7_init 8 = .ok (.dup, 1) := by decide +kernel
theorem dX7_init_9 : decode cX7_init 9 = .ok (.invokespecial 9, 3) := by decide +kernel
theorem dX7_init_12 : decode cX7_init 12 = .ok (.putfield 10, 3) := by decide +kernel
theorem dX7_init_15 : decode cX7_init 15 = .ok (.aload_n 0, 1) := by decide +kernel
theorem dX7_init_16 : decode cX7_init 16 = .ok (.new 16, 3) := by decide +kernel
theorem dX7_init_19 : decode cX7_init 19 = .ok (.dup, 1) := by decide +kernel
theorem dX7_init_20 : decode cX7_init 20 = .ok (.invokespecial 18, 3) := by decide +kernel
theorem dX7_init_23 : decode cX7_init 23 = .ok (.putfield 19, 3) := by decide +kernel
theorem dX7_init_26 : decode cX7_init 26 = .ok (.aload_n 0, 1) := by decide +kernel
theorem dX7_init_27 : decode cX7_init 27 = .ok (.getstatic 23, 3) := by decide +kernel
theorem dX7_init_30 : decode cX7_init 30 = .ok (.invokestatic 27, 3) := by decide +kernel
theorem dX7_init_33 : decode cX7_init 33 = .ok (.putfield 31, 3) := by decide +kernel
theorem dX7_init_36 : decode cX7_init 36 = .ok (.aload_n 0, 1) := by decide +kernel
theorem dX7_init_37 : decode cX7_init 37 = .ok (.new 16, 3) := by decide +kernel
theorem dX7_init_40 : decode cX7_init 40 = .ok (.dup, 1) := by decide +kernel
theorem dX7_init_41 : decode cX7_init 41 = .ok (.invokespecial 18, 3) := by decide +kernel
theorem dX7_init_44 : decode cX7_init 44 = .ok (.putfield 35, 3) := by decide +kernel
theorem dX7_init_47 : decode cX7_init 47 = .ok (.aload_n 0, 1) := by decide +kernel
theorem dX7_init_48 : decode cX7_init 48 = .ok (.new 16, 3) := by decide +kernel
theorem dX7_init_51 : decode cX7_init 51 = .ok (.dup, 1) := by decide +kernel
theorem dX7_init_52 : decode cX7_init 52 = .ok (.invokespecial 18, 3) := by decide +kernel
theorem dX7_init_55 : decode cX7_init 55 = .ok (.putfield 38, 3) := by decide +kernel
theorem dX7_init_58 : decode cX7_init 58 = .ok (.aload_n 0, 1) := by decide +kernel
theorem dX7_init_59 : decode cX7_init 59 = .ok (.new 16, 3) := by decide +kernel
theorem dX7_init_62 : decode cX7_init 62 = .ok (.dup, 1) := by decide +kernel
theorem dX7_init_63 : decode cX7_init 63 = .ok (.invokespecial 18, 3) := by decide +kernel
theorem dX7_init_66 : decode cX7_init 66 = .ok (.putfield 41, 3) := by decide +kernel
theorem dX7_init_69 : decode cX7_init 69 = .ok (.aload_n 0, 1) := by decide +kernel
theorem dX7_init_70 : decode cX7_init 70 = .ok (.iconst 0, 1) := by decide +kernel
theorem dX7_init_71 : decode cX7_init 71 = .ok (.putfield 44, 3) := by decide +kernel
theorem dX7_init_74 : decode cX7_init 74 = .ok (.aload_n 0, 1) := by decide +kernel
theorem dX7_init_75 : decode cX7_init 75 = .ok (.iconst 0, 1) := by decide +kernel
theorem dX7_init_76 : decode cX7_init 76 = .ok (.putfield 48, 3) := by decide +kernel
theorem dX7_init_79 : decode cX7_init 79 = .ok (.aload_n 0, 1) := by decide +kernel
theorem dX7_init_80 : decode cX7_init 80 = .ok (.iconst 0, 1) := by decide +kernel
theorem dX7_init_81 : decode cX7_init 81 = .ok (.putfield 51, 3) := by decide +kernel
theorem dX7_init_84 : decode cX7_init 84 = .ok (.aload_n 0, 1) := by decide +kernel
theorem dX7_init_85 : decode cX7_init 85 = .ok (.lconst 0, 1) := by decide +kernel
theorem dX7_init_86 : decode cX7_init 86 = .ok (.putfield 54, 3) := by decide +kernel
theorem dX7_init_89 : decode cX7_init 89 = .ok (.return_, 1) := by decide +kernel
theorem dX7_community_0 : decode cX7_community 0 = .ok (.aload_n 0, 1) := by decide +kernel
theorem dX7_community_1 : decode cX7_community 1 = .ok (.getfield 19, 3) := by decide +kernel
theorem dX7_community_4 : decode cX7_community 4 = .ok (.invokevirtual 58, 3) := by decide +kernel
theorem dX7_community_7 : decode cX7_community 7 = .ok (.bipush 6, 2) := by decide +kernel
theorem dX7_community_9 : decode cX7_community 9 = .ok (.if_icmp .lt 13, 3) := by decide +kernel
theorem dX7_community_12 : decode cX7_community 12 = .ok (.new 62, 3) := by decide +kernel
theorem dX7_community_15 : decode cX7_community 15 = .ok (.dup, 1) := by decide +kernel
theorem dX7_community_16 : decode cX7_community 16 = .ok (.ldc 64, 2) := by decide +kernel
theorem dX7_community_18 : decode cX7_community 18 = .ok (.invokespecial 66, 3) := by decide +kernel
theorem dX7_community_21 : decode cX7_community 21 = .ok (.athrow, 1) := by decide +kernel
theorem dX7_community_22 : decode cX7_community 22 = .ok (.aload_n 0, 1) := by decide +kernel
theorem dX7_community_23 : decode cX7_community 23 = .ok (.getfield 19, 3) := by decide +kernel
theorem dX7_community_26 : decode cX7_community 26 = .ok (.new 69, 3) := by decide +kernel
theorem dX7_community_29 : decode cX7_community 29 = .ok (.dup, 1) := by decide +kernel
theorem dX7_community_30 : decode cX7_community 30 = .ok (.aload_n 0, 1) := by decide +kernel
theorem dX7_community_31 : decode cX7_community 31 = .ok (.getfield 51, 3) := by decide +kernel
theorem dX7_community_34 : decode cX7_community 34 = .ok (.invokespecial 71, 3) := by decide +kernel
theorem dX7_community_37 : decode cX7_community 37 = .ok (.invokevirtual 74, 3) := by decide +kernel
theorem dX7_community_40 : decode cX7_community 40 = .ok (.pop, 1) := by decide +kernel
theorem dX7_community_41 : decode cX7_community 41 = .ok (.aload_n 0, 1) := by decide +kernel
theorem dX7_community_42 : decode cX7_community 42 = .ok (.getfield 19, 3) := by decide +kernel
theorem dX7_community_45 : decode cX7_community 45 = .ok (.invokevirtual 58, 3) := by decide +kernel
theorem dX7_community_48 : decode cX7_community 48 = .ok (.iconst 1, 1) := by decide +kernel
theorem dX7_community_49 : decode cX7_community 49 = .ok (.isub, 1) := by decide +kernel
theorem dX7_community_50 : decode cX7_community 50 = .ok (.ireturn, 1) := by decide +kernel
theorem dX7_recognise_0 : decode cX7_recognise 0 = .ok (.aload_n 0, 1) := by decide +kernel
theorem dX7_recognise_1 : decode cX7_recognise 1 = .ok (.iload_n 1, 1) := by decide +kernel
theorem dX7_recognise_2 : decode cX7_recognise 2 = .ok (.invokevirtual 78, 3) := by decide +kernel
theorem dX7_recognise_5 : decode cX7_recognise 5 = .ok (.astore_n 3, 1) := by decide +kernel
theorem dX7_recognise_6 : decode cX7_recognise 6 = .ok (.aload_n 3, 1) := by decide +kernel
theorem dX7_recognise_7 : decode cX7_recognise 7 = .ok (.getfield 82, 3) := by decide +kernel
theorem dX7_recognise_10 : decode cX7_recognise 10 = .ok (.invokevirtual 86, 3) := by decide +kernel
theorem dX7_recognise_13 : decode cX7_recognise 13 = .ok (.iconst 1, 1) := by decide +kernel
theorem dX7_recognise_14 : decode cX7_recognise 14 = .ok (.if_icmp .ne 7, 3) := by decide +kernel
theorem dX7_recognise_17 : decode cX7_recognise 17 = .ok (.iconst 1, 1) := by decide +kernel
theorem dX7_recognise_18 : decode cX7_recognise 18 = .ok (.goto 4, 3) := by decide +kernel
theorem dX7_recognise_21 : decode cX7_recognise 21 = .ok (.iconst 0, 1) := by decide +kernel
theorem dX7_recognise_22 : decode cX7_recognise 22 = .ok (.istore 4, 2) := by decide +kernel
theorem dX7_recognise_24 : decode cX7_recognise 24 = .ok (.aload_n 3, 1) := by decide +kernel
theorem dX7_recognise_25 : decode cX7_recognise 25 = .ok (.getfield 82, 3) := by decide +kernel
theorem dX7_recognise_28 : decode cX7_recognise 28 = .ok (.aload_n 0, 1) := by decide +kernel
theorem dX7_recognise_29 : decode cX7_recognise 29 = .ok (.getfield 51, 3) := by decide +kernel
theorem dX7_recognise_32 : decode cX7_recognise 32 = .ok (.iload_n 2, 1) := by decide +kernel
theorem dX7_recognise_33 : decode cX7_recognise 33 = .ok (.ifCond .eq 7, 3) := by decide +kernel
theorem dX7_recognise_36 : decode cX7_recognise 36 = .ok (.iconst 1, 1) := by decide +kernel
theorem dX7_recognise_37 : decode cX7_recognise 37 = .ok (.goto 4, 3) := by decide +kernel
theorem dX7_recognise_40 : decode cX7_recognise 40 = .ok (.iconst 0, 1) := by decide +kernel
theorem dX7_recognise_41 : decode cX7_recognise 41 = .ok (.invokevirtual 91, 3) := by decide +kernel
theorem dX7_recognise_44 : decode cX7_recognise 44 = .ok (.iload 4, 2) := by decide +kernel
theorem dX7_recognise_46 : decode cX7_recognise 46 = .ok (.ireturn, 1) := by decide +kernel
theorem dX7_decree_0 : decode cX7_decree 0 = .ok (.aload_n 0, 1) := by decide +kernel
theorem dX7_decree_1 : decode cX7_decree 1 = .ok (.iload_n 1, 1) := by decide +kernel
theorem dX7_decree_2 : decode cX7_decree 2 = .ok (.invokevirtual 95, 3) := by decide +kernel
theorem dX7_decree_5 : decode cX7_decree 5 = .ok (.astore 4, 2) := by decide +kernel
theorem dX7_decree_7 : decode cX7_decree 7 = .ok (.iload_n 2, 1) := by decide +kernel
theorem dX7_decree_8 : decode cX7_decree 8 = .ok (.iconst 0, 1) := by decide +kernel
theorem dX7_decree_9 : decode cX7_decree 9 = .ok (.getstatic 99, 3) := by decide +kernel
theorem dX7_decree_12 : decode cX7_decree 12 = .ok (.arraylength, 1) := by decide +kernel
theorem dX7_decree_13 : decode cX7_decree 13 = .ok (.iconst 1, 1) := by decide +kernel
theorem dX7_decree_14 : decode cX7_decree 14 = .ok (.isub, 1) := by decide +kernel
theorem dX7_decree_15 : decode cX7_decree 15 = .ok (.invokestatic 102, 3) := by decide +kernel
theorem dX7_decree_18 : decode cX7_decree 18 = .ok (.iload_n 3, 1) := by decide +kernel
theorem dX7_decree_19 : decode cX7_decree 19 = .ok (.getstatic 106, 3) := by decide +kernel
theorem dX7_decree_22 : decode cX7_decree 22 = .ok (.iload_n 2, 1) := by decide +kernel
theorem dX7_decree_23 : decode cX7_decree 23 = .ok (.iaload, 1) := by decide +kernel
theorem dX7_decree_24 : decode cX7_decree 24 = .ok (.getstatic 109, 3) := by decide +kernel
theorem dX7_decree_27 : decode cX7_decree 27 = .ok (.iload_n 2, 1) := by decide +kernel
theorem dX7_decree_28 : decode cX7_decree 28 = .ok (.iaload, 1) := by decide +kernel
theorem dX7_decree_29 : decode cX7_decree 29 = .ok (.invokestatic 102, 3) := by decide +kernel
theorem dX7_decree_32 : decode cX7_decree 32 = .ok (.aload_n 0, 1) := by decide +kernel
theorem dX7_decree_33 : decode cX7_decree 33 = .ok (.getfield 44, 3) := by decide +kernel
theorem dX7_decree_36 : decode cX7_decree 36 = .ok (.bipush 100, 2) := by decide +kernel
theorem dX7_decree_38 : decode cX7_decree 38 = .ok (.if_icmp .lt 13, 3) := by decide +kernel
theorem dX7_decree_41 : decode cX7_decree 41 = .ok (.new 62, 3) := by decide +kernel
theorem dX7_decree_44 : decode cX7_decree 44 = .ok (.dup, 1) := by decide +kernel
theorem dX7_decree_45 : decode cX7_decree 45 = .ok (.ldc 112, 2) := by decide +kernel
theorem dX7_decree_47 : decode cX7_decree 47 = .ok (.invokespecial 66, 3) := by decide +kernel
theorem dX7_decree_50 : decode cX7_decree 50 = .ok (.athrow, 1) := by decide +kernel
theorem dX7_decree_51 : decode cX7_decree 51 = .ok (.aload 4, 2) := by decide +kernel
theorem dX7_decree_53 : decode cX7_decree 53 = .ok (.iload_n 2, 1) := by decide +kernel
theorem dX7_decree_54 : decode cX7_decree 54 = .ok (.aload_n 0, 1) := by decide +kernel
theorem dX7_decree_55 : decode cX7_decree 55 = .ok (.getfield 51, 3) := by decide +kernel
theorem dX7_decree_58 : decode cX7_decree 58 = .ok (.invokevirtual 114, 3) := by decide +kernel
theorem dX7_decree_61 : decode cX7_decree 61 = .ok (.istore 5, 2) := by decide +kernel
theorem dX7_decree_63 : decode cX7_decree 63 = .ok (.aload 4, 2) := by decide +kernel
theorem dX7_decree_65 : decode cX7_decree 65 = .ok (.getfield 118, 3) := by decide +kernel
theorem dX7_decree_68 : decode cX7_decree 68 = .ok (.iload_n 2, 1) := by decide +kernel
theorem dX7_decree_69 : decode cX7_decree 69 = .ok (.aaload, 1) := by decide +kernel
theorem dX7_decree_70 : decode cX7_decree 70 = .ok (.aload_n 0, 1) := by decide +kernel
theorem dX7_decree_71 : decode cX7_decree 71 = .ok (.getfield 51, 3) := by decide +kernel
theorem dX7_decree_74 : decode cX7_decree 74 = .ok (.iload_n 3, 1) := by decide +kernel
theorem dX7_decree_75 : decode cX7_decree 75 = .ok (.invokevirtual 91, 3) := by decide +kernel
theorem dX7_decree_78 : decode cX7_decree 78 = .ok (.aload_n 0, 1) := by decide +kernel
theorem dX7_decree_79 : decode cX7_decree 79 = .ok (.dup, 1) := by decide +kernel
theorem dX7_decree_80 : decode cX7_decree 80 = .ok (.getfield 44, 3) := by decide +kernel
theorem dX7_decree_83 : decode cX7_decree 83 = .ok (.iconst 1, 1) := by decide +kernel
theorem dX7_decree_84 : decode cX7_decree 84 = .ok (.iadd, 1) := by decide +kernel
theorem dX7_decree_85 : decode cX7_decree 85 = .ok (.putfield 44, 3) := by decide +kernel
theorem dX7_decree_88 : decode cX7_decree 88 = .ok (.iload 5, 2) := by decide +kernel
theorem dX7_decree_90 : decode cX7_decree 90 = .ok (.ireturn, 1) := by decide +kernel
theorem dX7_rule_0 : decode cX7_rule 0 = .ok (.iload_n 1, 1) := by decide +kernel
theorem dX7_rule_1 : decode cX7_rule 1 = .ok (.iconst 0, 1) := by decide +kernel
theorem dX7_rule_2 : decode cX7_rule 2 = .ok (.iconst 3, 1) := by decide +kernel
theorem dX7_rule_3 : decode cX7_rule 3 = .ok (.invokestatic 102, 3) := by decide +kernel
theorem dX7_rule_6 : decode cX7_rule 6 = .ok (.iload_n 2, 1) := by decide +kernel
theorem dX7_rule_7 : decode cX7_rule 7 = .ok (.iconst 0, 1) := by decide +kernel
theorem dX7_rule_8 : decode cX7_rule 8 = .ok (.iconst 3, 1) := by decide +kernel
theorem dX7_rule_9 : decode cX7_rule 9 = .ok (.invokestatic 102, 3) := by decide +kernel
theorem dX7_rule_12 : decode cX7_rule 12 = .ok (.aload_n 0, 1) := by decide +kernel
theorem dX7_rule_13 : decode cX7_rule 13 = .ok (.getfield 48, 3) := by decide +kernel
theorem dX7_rule_16 : decode cX7_rule 16 = .ok (.bipush 40, 2) := by decide +kernel
theorem dX7_rule_18 : decode cX7_rule 18 = .ok (.if_icmp .lt 13, 3) := by decide +kernel
theorem dX7_rule_21 : decode cX7_rule 21 = .ok (.new 62, 3) := by decide +kernel
theorem dX7_rule_24 : decode cX7_rule 24 = .ok (.dup, 1) := by decide +kernel
theorem dX7_rule_25 : decode cX7_rule 25 = .ok (.ldc 121, 2) := by decide +kernel
theorem dX7_rule_27 : decode cX7_rule 27 = .ok (.invokespecial 66, 3) := by decide +kernel
theorem dX7_rule_30 : decode cX7_rule 30 = .ok (.athrow, 1) := by decide +kernel
theorem dX7_rule_31 : decode cX7_rule 31 = .ok (.aload_n 0, 1) := by decide +kernel
theorem dX7_rule_32 : decode cX7_rule 32 = .ok (.getfield 31, 3) := by decide +kernel
theorem dX7_rule_35 : decode cX7_rule 35 = .ok (.iload_n 1, 1) := by decide +kernel
theorem dX7_rule_36 : decode cX7_rule 36 = .ok (.aaload, 1) := by decide +kernel
theorem dX7_rule_37 : decode cX7_rule 37 = .ok (.invokevirtual 86, 3) := by decide +kernel
theorem dX7_rule_40 : decode cX7_rule 40 = .ok (.istore_n 3, 1) := by decide +kernel
theorem dX7_rule_41 : decode cX7_rule 41 = .ok (.aload_n 0, 1) := by decide +kernel
theorem dX7_rule_42 : decode cX7_rule 42 = .ok (.getfield 31, 3) := by decide +kernel
theorem dX7_rule_45 : decode cX7_rule 45 = .ok (.iload_n 1, 1) := by decide +kernel
theorem dX7_rule_46 : decode cX7_rule 46 = .ok (.aaload, 1) := by decide +kernel
theorem dX7_rule_47 : decode cX7_rule 47 = .ok (.aload_n 0, 1) := by decide +kernel
theorem dX7_rule_48 : decode cX7_rule 48 = .ok (.getfield 51, 3) := by decide +kernel
theorem dX7_rule_51 : decode cX7_rule 51 = .ok (.iload_n 2, 1) := by decide +kernel
theorem dX7_rule_52 : decode cX7_rule 52 = .ok (.invokevirtual 91, 3) := by decide +kernel
theorem dX7_rule_55 : decode cX7_rule 55 = .ok (.aload_n 0, 1) := by decide +kernel
theorem dX7_rule_56 : decode cX7_rule 56 = .ok (.dup, 1) := by decide +kernel
theorem dX7_rule_57 : decode cX7_rule 57 = .ok (.getfield 48, 3) := by decide +kernel
theorem dX7_rule_60 : decode cX7_rule 60 = .ok (.iconst 1, 1) := by decide +kernel
theorem dX7_rule_61 : decode cX7_rule 61 = .ok (.iadd, 1) := by decide +kernel
theorem dX7_rule_62 : decode cX7_rule 62 = .ok (.putfield 48, 3) := by decide +kernel
theorem dX7_rule_65 : decode cX7_rule 65 = .ok (.iload_n 3, 1) := by decide +kernel
theorem dX7_rule_66 : decode cX7_rule 66 = .ok (.ireturn, 1) := by decide +kernel
theorem dX7_law_0 : decode cX7_law 0 = .ok (.aload_n 0, 1) := by decide +kernel
theorem dX7_law_1 : decode cX7_law 1 = .ok (.iload_n 1, 1) := by decide +kernel
theorem dX7_law_2 : decode cX7_law 2 = .ok (.invokevirtual 95, 3) := by decide +kernel
theorem dX7_law_5 : decode cX7_law 5 = .ok (.astore 4, 2) := by decide +kernel
theorem dX7_law_7 : decode cX7_law 7 = .ok (.iload_n 2, 1) := by decide +kernel
theorem dX7_law_8 : decode cX7_law 8 = .ok (.iconst 0, 1) := by decide +kernel
theorem dX7_law_9 : decode cX7_law 9 = .ok (.getstatic 99, 3) := by decide +kernel
theorem dX7_law_12 : decode cX7_law 12 = .ok (.arraylength, 1) := by decide +kernel
theorem dX7_law_13 : decode cX7_law 13 = .ok (.iconst 1, 1) := by decide +kernel
theorem dX7_law_14 : decode cX7_law 14 = .ok (.isub, 1) := by decide +kernel
theorem dX7_law_15 : decode cX7_law 15 = .ok (.invokestatic 102, 3) := by decide +kernel
theorem dX7_law_18 : decode cX7_law 18 = .ok (.iload_n 3, 1) := by decide +kernel
theorem dX7_law_19 : decode cX7_law 19 = .ok (.iconst 0, 1) := by decide +kernel
theorem dX7_law_20 : decode cX7_law 20 = .ok (.aload_n 0, 1) := by decide +kernel
theorem dX7_law_21 : decode cX7_law 21 = .ok (.getfield 51, 3) := by decide +kernel
theorem dX7_law_24 : decode cX7_law 24 = .ok (.invokestatic 102, 3) := by decide +kernel
theorem dX7_law_27 : decode cX7_law 27 = .ok (.aload 4, 2) := by decide +kernel
theorem dX7_law_29 : decode cX7_law 29 = .ok (.iload_n 2, 1) := by decide +kernel
theorem dX7_law_30 : decode cX7_law 30 = .ok (.iload_n 3, 1) := by decide +kernel
theorem dX7_law_31 : decode cX7_law 31 = .ok (.invokevirtual 114, 3) := by decide +kernel
theorem dX7_law_34 : decode cX7_law 34 = .ok (.ireturn, 1) := by decide +kernel
theorem dX7_court_0 : decode cX7_court 0 = .ok (.aload_n 0, 1) := by decide +kernel
theorem dX7_court_1 : decode cX7_court 1 = .ok (.iload_n 2, 1) := by decide +kernel
theorem dX7_court_2 : decode cX7_court 2 = .ok (.invokevirtual 123, 3) := by decide +kernel
theorem dX7_court_5 : decode cX7_court 5 = .ok (.astore 5, 2) := by decide +kernel
theorem dX7_court_7 : decode cX7_court 7 = .ok (.aload_n 0, 1) := by decide +kernel
theorem dX7_court_8 : decode cX7_court 8 = .ok (.iload_n 3, 1) := by decide +kernel
theorem dX7_court_9 : decode cX7_court 9 = .ok (.invokevirtual 123, 3) := by decide +kernel
theorem dX7_court_12 : decode cX7_court 12 = .ok (.astore 6, 2) := by decide +kernel
theorem dX7_court_14 : decode cX7_court 14 = .ok (.iload_n 1, 1) := by decide +kernel
theorem dX7_court_15 : decode cX7_court 15 = .ok (.iconst 0, 1) := by decide +kernel
theorem dX7_court_16 : decode cX7_court 16 = .ok (.iconst 3, 1) := by decide +kernel
theorem dX7_court_17 : decode cX7_court 17 = .ok (.invokestatic 102, 3) := by decide +kernel
theorem dX7_court_20 : decode cX7_court 20 = .ok (.iload 4, 2) := by decide +kernel
theorem dX7_court_22 : decode cX7_court 22 = .ok (.aload 5, 2) := by decide +kernel
theorem dX7_court_24 : decode cX7_court 24 = .ok (.getfield 127, 3) := by decide +kernel
theorem dX7_court_27 : decode cX7_court 27 = .ok (.aload 6, 2) := by decide +kernel
theorem dX7_court_29 : decode cX7_court 29 = .ok (.getfield 127, 3) := by decide +kernel
theorem dX7_court_32 : decode cX7_court 32 = .ok (.invokestatic 132, 3) := by decide +kernel
theorem dX7_court_35 : decode cX7_court 35 = .ok (.aload_n 0, 1) := by decide +kernel
theorem dX7_court_36 : decode cX7_court 36 = .ok (.getfield 51, 3) := by decide +kernel
theorem dX7_court_39 : decode cX7_court 39 = .ok (.invokestatic 102, 3) := by decide +kernel
theorem dX7_court_42 : decode cX7_court 42 = .ok (.aload_n 0, 1) := by decide +kernel
theorem dX7_court_43 : decode cX7_court 43 = .ok (.iload_n 1, 1) := by decide +kernel
theorem dX7_court_44 : decode cX7_court 44 = .ok (.aload 5, 2) := by decide +kernel
theorem dX7_court_46 : decode cX7_court 46 = .ok (.aload 6, 2) := by decide +kernel
theorem dX7_court_48 : decode cX7_court 48 = .ok (.iload 4, 2) := by decide +kernel
theorem dX7_court_50 : decode cX7_court 50 = .ok (.invokevirtual 137, 3) := by decide +kernel
theorem dX7_court_53 : decode cX7_court 53 = .ok (.ireturn, 1) := by decide +kernel
theorem dX7_person_0 : decode cX7_person 0 = .ok (.aload_n 0, 1) := by decide +kernel
theorem dX7_person_1 : decode cX7_person 1 = .ok (.iload_n 2, 1) := by decide +kernel
theorem dX7_person_2 : decode cX7_person 2 = .ok (.invokevirtual 141, 3) := by decide +kernel
theorem dX7_person_5 : decode cX7_person 5 = .ok (.astore 5, 2) := by decide +kernel
theorem dX7_person_7 : decode cX7_person 7 = .ok (.aload_n 0, 1) := by decide +kernel
theorem dX7_person_8 : decode cX7_person 8 = .ok (.iload_n 3, 1) := by decide +kernel
theorem dX7_person_9 : decode cX7_person 9 = .ok (.invokevirtual 141, 3) := by decide +kernel
theorem dX7_person_12 : decode cX7_person 12 = .ok (.astore 6, 2) := by decide +kernel
theorem dX7_person_14 : decode cX7_person 14 = .ok (.iload 4, 2) := by decide +kernel
theorem dX7_person_16 : decode cX7_person 16 = .ok (.iconst (-1), 1) := by decide +kernel
theorem dX7_person_17 : decode cX7_person 17 = .ok (.if_icmp .eq 10, 3) := by decide +kernel
theorem dX7_person_20 : decode cX7_person 20 = .ok (.aload_n 0, 1) := by decide +kernel
theorem dX7_person_21 : decode cX7_person 21 = .ok (.iload 4, 2) := by decide +kernel
theorem dX7_person_23 : decode cX7_person 23 = .ok (.invokevirtual 78, 3) := by decide +kernel
theorem dX7_person_26 : decode cX7_person 26 = .ok (.pop, 1) := by decide +kernel
theorem dX7_person_27 : decode cX7_person 27 = .ok (.aload 5, 2) := by decide +kernel
theorem dX7_person_29 : decode cX7_person 29 = .ok (.ifnull 21, 3) := by decide +kernel
theorem dX7_person_32 : decode cX7_person 32 = .ok (.aload 5, 2) := by decide +kernel
theorem dX7_person_34 : decode cX7_person 34 = .ok (.getfield 144, 3) := by decide +kernel
theorem dX7_person_37 : decode cX7_person 37 = .ok (.ifCond .eq 13, 3) := by decide +kernel
theorem dX7_person_40 : decode cX7_person 40 = .ok (.new 148, 3) := by decide +kernel
theorem dX7_person_43 : decode cX7_person 43 = .ok (.dup, 1) := by decide +kernel
theorem dX7_person_44 : decode cX7_person 44 = .ok (.ldc 150, 2) := by decide +kernel
theorem dX7_person_46 : decode cX7_person 46 = .ok (.invokespecial 152, 3) := by decide +kernel
theorem dX7_person_49 : decode cX7_person 49 = .ok (.athrow, 1) := by decide +kernel
theorem dX7_person_50 : decode cX7_person 50 = .ok (.aload 6, 2) := by decide +kernel
theorem dX7_person_52 : decode cX7_person 52 = .ok (.ifnull 21, 3) := by decide +kernel
theorem dX7_person_55 : decode cX7_person 55 = .ok (.aload 6, 2) := by decide +kernel
theorem dX7_person_57 : decode cX7_person 57 = .ok (.getfield 144, 3) := by decide +kernel
theorem dX7_person_60 : decode cX7_person 60 = .ok (.ifCond .ne 13, 3) := by decide +kernel
theorem dX7_person_63 : decode cX7_person 63 = .ok (.new 148, 3) := by decide +kernel
theorem dX7_person_66 : decode cX7_person 66 = .ok (.dup, 1) := by decide +kernel
theorem dX7_person_67 : decode cX7_person 67 = .ok (.ldc 153, 2) := by decide +kernel
theorem dX7_person_69 : decode cX7_person 69 = .ok (.invokespecial 152, 3) := by decide +kernel
theorem dX7_person_72 : decode cX7_person 72 = .ok (.athrow, 1) := by decide +kernel
theorem dX7_person_73 : decode cX7_person 73 = .ok (.aload 5, 2) := by decide +kernel
theorem dX7_person_75 : decode cX7_person 75 = .ok (.ifnonnull 12, 3) := by decide +kernel
theorem dX7_person_78 : decode cX7_person 78 = .ok (.aload 6, 2) := by decide +kernel
theorem dX7_person_80 : decode cX7_person 80 = .ok (.ifnonnull 7, 3) := by decide +kernel
theorem dX7_person_83 : decode cX7_person 83 = .ok (.iconst 1, 1) := by decide +kernel
theorem dX7_person_84 : decode cX7_person 84 = .ok (.goto 4, 3) := by decide +kernel
theorem dX7_person_87 : decode cX7_person 87 = .ok (.iconst 0, 1) := by decide +kernel
theorem dX7_person_88 : decode cX7_person 88 = .ok (.istore 7, 2) := by decide +kernel
theorem dX7_person_90 : decode cX7_person 90 = .ok (.iload 7, 2) := by decide +kernel
theorem dX7_person_92 : decode cX7_person 92 = .ok (.iload 4, 2) := by decide +kernel
theorem dX7_person_94 : decode cX7_person 94 = .ok (.iconst (-1), 1) := by decide +kernel
theorem dX7_person_95 : decode cX7_person 95 = .ok (.if_icmp .ne 7, 3) := by decide +kernel
theorem dX7_person_98 : decode cX7_person 98 = .ok (.iconst 1, 1) := by decide +kernel
theorem dX7_person_99 : decode cX7_person 99 = .ok (.goto 4, 3) := by decide +kernel
theorem dX7_person_102 : decode cX7_person 102 = .ok (.iconst 0, 1) := by decide +kernel
theorem dX7_person_103 : decode cX7_person 103 = .ok (.if_icmp .ne 13, 3) := by decide +kernel
theorem dX7_person_106 : decode cX7_person 106 = .ok (.new 148, 3) := by decide +kernel
theorem dX7_person_109 : decode cX7_person 109 = .ok (.dup, 1) := by decide +kernel
theorem dX7_person_110 : decode cX7_person 110 = .ok (.ldc 155, 2) := by decide +kernel
theorem dX7_person_112 : decode cX7_person 112 = .ok (.invokespecial 152, 3) := by decide +kernel
theorem dX7_person_115 : decode cX7_person 115 = .ok (.athrow, 1) := by decide +kernel
theorem dX7_person_116 : decode cX7_person 116 = .ok (.aload_n 0, 1) := by decide +kernel
theorem dX7_person_117 : decode cX7_person 117 = .ok (.getfield 35, 3) := by decide +kernel
theorem dX7_person_120 : decode cX7_person 120 = .ok (.invokevirtual 58, 3) := by decide +kernel
theorem dX7_person_123 : decode cX7_person 123 = .ok (.bipush 40, 2) := by decide +kernel
theorem dX7_person_125 : decode cX7_person 125 = .ok (.if_icmp .lt 13, 3) := by decide +kernel
theorem dX7_person_128 : decode cX7_person 128 = .ok (.new 62, 3) := by decide +kernel
theorem dX7_person_131 : decode cX7_person 131 = .ok (.dup, 1) := by decide +kernel
theorem dX7_person_132 : decode cX7_person 132 = .ok (.ldc 157, 2) := by decide +kernel
theorem dX7_person_134 : decode cX7_person 134 = .ok (.invokespecial 66, 3) := by decide +kernel
theorem dX7_person_137 : decode cX7_person 137 = .ok (.athrow, 1) := by decide +kernel
theorem dX7_person_138 : decode cX7_person 138 = .ok (.aload_n 0, 1) := by decide +kernel
theorem dX7_person_139 : decode cX7_person 139 = .ok (.getfield 35, 3) := by decide +kernel
theorem dX7_person_142 : decode cX7_person 142 = .ok (.invokevirtual 58, 3) := by decide +kernel
theorem dX7_person_145 : decode cX7_person 145 = .ok (.istore 8, 2) := by decide +kernel
theorem dX7_person_147 : decode cX7_person 147 = .ok (.aload 5, 2) := by decide +kernel
theorem dX7_person_149 : decode cX7_person 149 = .ok (.aload 6, 2) := by decide +kernel
theorem dX7_person_151 : decode cX7_person 151 = .ok (.iload 4, 2) := by decide +kernel
theorem dX7_person_153 : decode cX7_person 153 = .ok (.invokestatic 159, 3) := by decide +kernel
theorem dX7_person_156 : decode cX7_person 156 = .ok (.istore 9, 2) := by decide +kernel
theorem dX7_person_158 : decode cX7_person 158 = .ok (.aload_n 0, 1) := by decide +kernel
theorem dX7_person_159 : decode cX7_person 159 = .ok (.getfield 35, 3) := by decide +kernel
theorem dX7_person_162 : decode cX7_person 162 = .ok (.new 128, 3) := by decide +kernel
theorem dX7_person_165 : decode cX7_person 165 = .ok (.dup, 1) := by decide +kernel
theorem dX7_person_166 : decode cX7_person 166 = .ok (.iload 8, 2) := by decide +kernel
theorem dX7_person_168 : decode cX7_person 168 = .ok (.iload_n 1, 1) := by decide +kernel
theorem dX7_person_169 : decode cX7_person 169 = .ok (.aload 5, 2) := by decide +kernel
theorem dX7_person_171 : decode cX7_person 171 = .ok (.aload 6, 2) := by decide +kernel
theorem dX7_person_173 : decode cX7_person 173 = .ok (.aload_n 0, 1) := by decide +kernel
theorem dX7_person_174 : decode cX7_person 174 = .ok (.getfield 51, 3) := by decide +kernel
theorem dX7_person_177 : decode cX7_person 177 = .ok (.iload 9, 2) := by decide +kernel
theorem dX7_person_179 : decode cX7_person 179 = .ok (.invokespecial 163, 3) := by decide +kernel
theorem dX7_person_182 : decode cX7_person 182 = .ok (.invokevirtual 74, 3) := by decide +kernel
theorem dX7_person_185 : decode cX7_person 185 = .ok (.pop, 1) := by decide +kernel
theorem dX7_person_186 : decode cX7_person 186 = .ok (.iload 8, 2) := by decide +kernel
theorem dX7_person_188 : decode cX7_person 188 = .ok (.ireturn, 1) := by decide +kernel
theorem dX7_turn_0 : decode cX7_turn 0 = .ok (.aload_n 0, 1) := by decide +kernel
theorem dX7_turn_1 : decode cX7_turn 1 = .ok (.iload_n 1, 1) := by decide +kernel
theorem dX7_turn_2 : decode cX7_turn 2 = .ok (.invokevirtual 123, 3) := by decide +kernel
theorem dX7_turn_5 : decode cX7_turn 5 = .ok (.astore 5, 2) := by decide +kernel
theorem dX7_turn_7 : decode cX7_turn 7 = .ok (.aload_n 0, 1) := by decide +kernel
theorem dX7_turn_8 : decode cX7_turn 8 = .ok (.iload_n 2, 1) := by decide +kernel
theorem dX7_turn_9 : decode cX7_turn 9 = .ok (.invokevirtual 78, 3) := by decide +kernel
theorem dX7_turn_12 : decode cX7_turn 12 = .ok (.pop, 1) := by decide +kernel
theorem dX7_turn_13 : decode cX7_turn 13 = .ok (.aload_n 0, 1) := by decide +kernel
theorem dX7_turn_14 : decode cX7_turn 14 = .ok (.iload_n 3, 1) := by decide +kernel
theorem dX7_turn_15 : decode cX7_turn 15 = .ok (.invokevirtual 123, 3) := by decide +kernel
theorem dX7_turn_18 : decode cX7_turn 18 = .ok (.astore 6, 2) := by decide +kernel
theorem dX7_turn_20 : decode cX7_turn 20 = .ok (.aload_n 0, 1) := by decide +kernel
theorem dX7_turn_21 : decode cX7_turn 21 = .ok (.iload 4, 2) := by decide +kernel
theorem dX7_turn_23 : decode cX7_turn 23 = .ok (.invokevirtual 123, 3) := by decide +kernel
theorem dX7_turn_26 : decode cX7_turn 26 = .ok (.astore 7, 2) := by decide +kernel
theorem dX7_turn_28 : decode cX7_turn 28 = .ok (.iload_n 3, 1) := by decide +kernel
theorem dX7_turn_29 : decode cX7_turn 29 = .ok (.iload 4, 2) := by decide +kernel
theorem dX7_turn_31 : decode cX7_turn 31 = .ok (.if_icmp .eq 14, 3) := by decide +kernel
theorem dX7_turn_34 : decode cX7_turn 34 = .ok (.iload_n 3, 1) := by decide +kernel
theorem dX7_turn_35 : decode cX7_turn 35 = .ok (.iload_n 1, 1) := by decide +kernel
theorem dX7_turn_36 : decode cX7_turn 36 = .ok (.if_icmp .eq 9, 3) := by decide +kernel
theorem dX7_turn_39 : decode cX7_turn 39 = .ok (.iload 4, 2) := by decide +kernel
theorem dX7_turn_41 : decode cX7_turn 41 = .ok (.iload_n 1, 1) := by decide +kernel
theorem dX7_turn_42 : decode cX7_turn 42 = .ok (.if_icmp .ne 13, 3) := by decide +kernel
theorem dX7_turn_45 : decode cX7_turn 45 = .ok (.new 148, 3) := by decide +kernel
theorem dX7_turn_48 : decode cX7_turn 48 = .ok (.dup, 1) := by decide +kernel
theorem dX7_turn_49 : decode cX7_turn 49 = .ok (.ldc 166, 2) := by decide +kernel
theorem dX7_turn_51 : decode cX7_turn 51 = .ok (.invokespecial 152, 3) := by decide +kernel
theorem dX7_turn_54 : decode cX7_turn 54 = .ok (.athrow, 1) := by decide +kernel
theorem dX7_turn_55 : decode cX7_turn 55 = .ok (.aload 5, 2) := by decide +kernel
theorem dX7_turn_57 : decode cX7_turn 57 = .ok (.aload_n 0, 1) := by decide +kernel
theorem dX7_turn_58 : decode cX7_turn 58 = .ok (.getfield 51, 3) := by decide +kernel
theorem dX7_turn_61 : decode cX7_turn 61 = .ok (.invokevirtual 168, 3) := by decide +kernel
theorem dX7_turn_64 : decode cX7_turn 64 = .ok (.ifCond .eq 20, 3) := by decide +kernel
theorem dX7_turn_67 : decode cX7_turn 67 = .ok (.aload 5, 2) := by decide +kernel
theorem dX7_turn_69 : decode cX7_turn 69 = .ok (.invokevirtual 172, 3) := by decide +kernel
theorem dX7_turn_72 : decode cX7_turn 72 = .ok (.iload_n 2, 1) := by decide +kernel
theorem dX7_turn_73 : decode cX7_turn 73 = .ok (.if_icmp .eq 11, 3) := by decide +kernel
theorem dX7_turn_76 : decode cX7_turn 76 = .ok (.aload 5, 2) := by decide +kernel
theorem dX7_turn_78 : decode cX7_turn 78 = .ok (.invokevirtual 175, 3) := by decide +kernel
theorem dX7_turn_81 : decode cX7_turn 81 = .ok (.ifCond .eq 13, 3) := by decide +kernel
theorem dX7_turn_84 : decode cX7_turn 84 = .ok (.new 62, 3) := by decide +kernel
theorem dX7_turn_87 : decode cX7_turn 87 = .ok (.dup, 1) := by decide +kernel
theorem dX7_turn_88 : decode cX7_turn 88 = .ok (.ldc 179, 2) := by decide +kernel
theorem dX7_turn_90 : decode cX7_turn 90 = .ok (.invokespecial 66, 3) := by decide +kernel
theorem dX7_turn_93 : decode cX7_turn 93 = .ok (.athrow, 1) := by decide +kernel
theorem dX7_turn_94 : decode cX7_turn 94 = .ok (.aload_n 0, 1) := by decide +kernel
theorem dX7_turn_95 : decode cX7_turn 95 = .ok (.aload 6, 2) := by decide +kernel
theorem dX7_turn_97 : decode cX7_turn 97 = .ok (.iload_n 2, 1) := by decide +kernel
theorem dX7_turn_98 : decode cX7_turn 98 = .ok (.invokevirtual 181, 3) := by decide +kernel
theorem dX7_turn_101 : decode cX7_turn 101 = .ok (.ifCond .eq 13, 3) := by decide +kernel
theorem dX7_turn_104 : decode cX7_turn 104 = .ok (.aload_n 0, 1) := by decide +kernel
theorem dX7_turn_105 : decode cX7_turn 105 = .ok (.aload 7, 2) := by decide +kernel
theorem dX7_turn_107 : decode cX7_turn 107 = .ok (.iload_n 2, 1) := by decide +kernel
theorem dX7_turn_108 : decode cX7_turn 108 = .ok (.invokevirtual 181, 3) := by decide +kernel
theorem dX7_turn_111 : decode cX7_turn 111 = .ok (.ifCond .ne 13, 3) := by decide +kernel
theorem dX7_turn_114 : decode cX7_turn 114 = .ok (.new 62, 3) := by decide +kernel
theorem dX7_turn_117 : decode cX7_turn 117 = .ok (.dup, 1) := by decide +kernel
theorem dX7_turn_118 : decode cX7_turn 118 = .ok (.ldc 185, 2) := by decide +kernel
theorem dX7_turn_120 : decode cX7_turn 120 = .ok (.invokespecial 66, 3) := by decide +kernel
theorem dX7_turn_123 : decode cX7_turn 123 = .ok (.athrow, 1) := by decide +kernel
theorem dX7_turn_124 : decode cX7_turn 124 = .ok (.aload 5, 2) := by decide +kernel
theorem dX7_turn_126 : decode cX7_turn 126 = .ok (.iload_n 2, 1) := by decide +kernel
theorem dX7_turn_127 : decode cX7_turn 127 = .ok (.putfield 187, 3) := by decide +kernel
theorem dX7_turn_130 : decode cX7_turn 130 = .ok (.aload 5, 2) := by decide +kernel
theorem dX7_turn_132 : decode cX7_turn 132 = .ok (.aload_n 0, 1) := by decide +kernel
theorem dX7_turn_133 : decode cX7_turn 133 = .ok (.getfield 51, 3) := by decide +kernel
theorem dX7_turn_136 : decode cX7_turn 136 = .ok (.bipush 30, 2) := by decide +kernel
theorem dX7_turn_138 : decode cX7_turn 138 = .ok (.iadd, 1) := by decide +kernel
theorem dX7_turn_139 : decode cX7_turn 139 = .ok (.putfield 190, 3) := by decide +kernel
theorem dX7_turn_142 : decode cX7_turn 142 = .ok (.aload 5, 2) := by decide +kernel
theorem dX7_turn_144 : decode cX7_turn 144 = .ok (.getfield 190, 3) := by decide +kernel
theorem dX7_turn_147 : decode cX7_turn 147 = .ok (.ireturn, 1) := by decide +kernel
theorem dX7_recant_0 : decode cX7_recant 0 = .ok (.aload_n 0, 1) := by decide +kernel
theorem dX7_recant_1 : decode cX7_recant 1 = .ok (.iload_n 1, 1) := by decide +kernel
theorem dX7_recant_2 : decode cX7_recant 2 = .ok (.invokevirtual 123, 3) := by decide +kernel
theorem dX7_recant_5 : decode cX7_recant 5 = .ok (.astore_n 2, 1) := by decide +kernel
theorem dX7_recant_6 : decode cX7_recant 6 = .ok (.aload_n 2, 1) := by decide +kernel
theorem dX7_recant_7 : decode cX7_recant 7 = .ok (.invokevirtual 175, 3) := by decide +kernel
theorem dX7_recant_10 : decode cX7_recant 10 = .ok (.ifCond .ne 13, 3) := by decide +kernel
theorem dX7_recant_13 : decode cX7_recant 13 = .ok (.new 62, 3) := by decide +kernel
theorem dX7_recant_16 : decode cX7_recant 16 = .ok (.dup, 1) := by decide +kernel
theorem dX7_recant_17 : decode cX7_recant 17 = .ok (.ldc 193, 2) := by decide +kernel
theorem dX7_recant_19 : decode cX7_recant 19 = .ok (.invokespecial 66, 3) := by decide +kernel
theorem dX7_recant_22 : decode cX7_recant 22 = .ok (.athrow, 1) := by decide +kernel
theorem dX7_recant_23 : decode cX7_recant 23 = .ok (.aload_n 2, 1) := by decide +kernel
theorem dX7_recant_24 : decode cX7_recant 24 = .ok (.getfield 187, 3) := by decide +kernel
theorem dX7_recant_27 : decode cX7_recant 27 = .ok (.istore_n 3, 1) := by decide +kernel
theorem dX7_recant_28 : decode cX7_recant 28 = .ok (.aload_n 2, 1) := by decide +kernel
theorem dX7_recant_29 : decode cX7_recant 29 = .ok (.invokevirtual 195, 3) := by decide +kernel
theorem dX7_recant_32 : decode cX7_recant 32 = .ok (.iload_n 3, 1) := by decide +kernel
theorem dX7_recant_33 : decode cX7_recant 33 = .ok (.ireturn, 1) := by decide +kernel
theorem dX7_faith_0 : decode cX7_faith 0 = .ok (.aload_n 0, 1) := by decide +kernel
theorem dX7_faith_1 : decode cX7_faith 1 = .ok (.iload_n 1, 1) := by decide +kernel
theorem dX7_faith_2 : decode cX7_faith 2 = .ok (.invokevirtual 123, 3) := by decide +kernel
theorem dX7_faith_5 : decode cX7_faith 5 = .ok (.astore_n 3, 1) := by decide +kernel
theorem dX7_faith_6 : decode cX7_faith 6 = .ok (.iload_n 2, 1) := by decide +kernel
theorem dX7_faith_7 : decode cX7_faith 7 = .ok (.aload_n 3, 1) := by decide +kernel
theorem dX7_faith_8 : decode cX7_faith 8 = .ok (.getfield 127, 3) := by decide +kernel
theorem dX7_faith_11 : decode cX7_faith 11 = .ok (.aload_n 0, 1) := by decide +kernel
theorem dX7_faith_12 : decode cX7_faith 12 = .ok (.getfield 51, 3) := by decide +kernel
theorem dX7_faith_15 : decode cX7_faith 15 = .ok (.invokestatic 102, 3) := by decide +kernel
theorem dX7_faith_18 : decode cX7_faith 18 = .ok (.aload_n 3, 1) := by decide +kernel
theorem dX7_faith_19 : decode cX7_faith 19 = .ok (.getfield 198, 3) := by decide +kernel
theorem dX7_faith_22 : decode cX7_faith 22 = .ok (.iload_n 2, 1) := by decide +kernel
theorem dX7_faith_23 : decode cX7_faith 23 = .ok (.invokevirtual 201, 3) := by decide +kernel
theorem dX7_faith_26 : decode cX7_faith 26 = .ok (.ireturn, 1) := by decide +kernel
theorem dX7_marry_0 : decode cX7_marry 0 = .ok (.aload_n 0, 1) := by decide +kernel
theorem dX7_marry_1 : decode cX7_marry 1 = .ok (.iload_n 1, 1) := by decide +kernel
theorem dX7_marry_2 : decode cX7_marry 2 = .ok (.invokevirtual 123, 3) := by decide +kernel
theorem dX7_marry_5 : decode cX7_marry 5 = .ok (.astore 4, 2) := by decide +kernel
theorem dX7_marry_7 : decode cX7_marry 7 = .ok (.aload_n 0, 1) := by decide +kernel
theorem dX7_marry_8 : decode cX7_marry 8 = .ok (.iload_n 2, 1) := by decide +kernel
theorem dX7_marry_9 : decode cX7_marry 9 = .ok (.invokevirtual 123, 3) := by decide +kernel
theorem dX7_marry_12 : decode cX7_marry 12 = .ok (.astore 5, 2) := by decide +kernel
theorem dX7_marry_14 : decode cX7_marry 14 = .ok (.aload 4, 2) := by decide +kernel
theorem dX7_marry_16 : decode cX7_marry 16 = .ok (.getfield 144, 3) := by decide +kernel
theorem dX7_marry_19 : decode cX7_marry 19 = .ok (.ifCond .eq 11, 3) := by decide +kernel
theorem dX7_marry_22 : decode cX7_marry 22 = .ok (.aload 5, 2) := by decide +kernel
theorem dX7_marry_24 : decode cX7_marry 24 = .ok (.getfield 144, 3) := by decide +kernel
theorem dX7_marry_27 : decode cX7_marry 27 = .ok (.ifCond .eq 13, 3) := by decide +kernel
theorem dX7_marry_30 : decode cX7_marry 30 = .ok (.new 148, 3) := by decide +kernel
theorem dX7_marry_33 : decode cX7_marry 33 = .ok (.dup, 1) := by decide +kernel
theorem dX7_marry_34 : decode cX7_marry 34 = .ok (.ldc 204, 2) := by decide +kernel
theorem dX7_marry_36 : decode cX7_marry 36 = .ok (.invokespecial 152, 3) := by decide +kernel
theorem dX7_marry_39 : decode cX7_marry 39 = .ok (.athrow, 1) := by decide +kernel
theorem dX7_marry_40 : decode cX7_marry 40 = .ok (.iload_n 3, 1) := by decide +kernel
theorem dX7_marry_41 : decode cX7_marry 41 = .ok (.iconst 0, 1) := by decide +kernel
theorem dX7_marry_42 : decode cX7_marry 42 = .ok (.ldc 206, 2) := by decide +kernel
theorem dX7_marry_44 : decode cX7_marry 44 = .ok (.invokestatic 102, 3) := by decide +kernel
theorem dX7_marry_47 : decode cX7_marry 47 = .ok (.aload 4, 2) := by decide +kernel
theorem dX7_marry_49 : decode cX7_marry 49 = .ok (.aload_n 0, 1) := by decide +kernel
theorem dX7_marry_50 : decode cX7_marry 50 = .ok (.getfield 51, 3) := by decide +kernel
theorem dX7_marry_53 : decode cX7_marry 53 = .ok (.invokevirtual 168, 3) := by decide +kernel
theorem dX7_marry_56 : decode cX7_marry 56 = .ok (.ifCond .eq 15, 3) := by decide +kernel
theorem dX7_marry_59 : decode cX7_marry 59 = .ok (.aload 5, 2) := by decide +kernel
theorem dX7_marry_61 : decode cX7_marry 61 = .ok (.aload_n 0, 1) := by decide +kernel
theorem dX7_marry_62 : decode cX7_marry 62 = .ok (.getfield 51, 3) := by decide +kernel
theorem dX7_marry_65 : decode cX7_marry 65 = .ok (.invokevirtual 168, 3) := by decide +kernel
theorem dX7_marry_68 : decode cX7_marry 68 = .ok (.ifCond .ne 13, 3) := by decide +kernel
theorem dX7_marry_71 : decode cX7_marry 71 = .ok (.new 62, 3) := by decide +kernel
theorem dX7_marry_74 : decode cX7_marry 74 = .ok (.dup, 1) := by decide +kernel
theorem dX7_marry_75 : decode cX7_marry 75 = .ok (.ldc 207, 2) := by decide +kernel
theorem dX7_marry_77 : decode cX7_marry 77 = .ok (.invokespecial 66, 3) := by decide +kernel
theorem dX7_marry_80 : decode cX7_marry 80 = .ok (.athrow, 1) := by decide +kernel
theorem dX7_marry_81 : decode cX7_marry 81 = .ok (.aload_n 0, 1) := by decide +kernel
theorem dX7_marry_82 : decode cX7_marry 82 = .ok (.iconst 0, 1) := by decide +kernel
theorem dX7_marry_83 : decode cX7_marry 83 = .ok (.aload 4, 2) := by decide +kernel
theorem dX7_marry_85 : decode cX7_marry 85 = .ok (.aload 5, 2) := by decide +kernel
theorem dX7_marry_87 : decode cX7_marry 87 = .ok (.aload_n 0, 1) := by decide +kernel
theorem dX7_marry_88 : decode cX7_marry 88 = .ok (.getfield 51, 3) := by decide +kernel
theorem dX7_marry_91 : decode cX7_marry 91 = .ok (.invokevirtual 137, 3) := by decide +kernel
theorem dX7_marry_94 : decode cX7_marry 94 = .ok (.istore 6, 2) := by decide +kernel
theorem dX7_marry_96 : decode cX7_marry 96 = .ok (.aload_n 0, 1) := by decide +kernel
theorem dX7_marry_97 : decode cX7_marry 97 = .ok (.aload 4, 2) := by decide +kernel
theorem dX7_marry_99 : decode cX7_marry 99 = .ok (.aload 5, 2) := by decide +kernel
theorem dX7_marry_101 : decode cX7_marry 101 = .ok (.aload_n 0, 1) := by decide +kernel
theorem dX7_marry_102 : decode cX7_marry 102 = .ok (.iload 6, 2) := by decide +kernel
theorem dX7_marry_104 : decode cX7_marry 104 = .ok (.invokevirtual 95, 3) := by decide +kernel
theorem dX7_marry_107 : decode cX7_marry 107 = .ok (.invokevirtual 209, 3) := by decide +kernel
theorem dX7_marry_110 : decode cX7_marry 110 = .ok (.ifCond .ne 13, 3) := by decide +kernel
theorem dX7_marry_113 : decode cX7_marry 113 = .ok (.new 62, 3) := by decide +kernel
theorem dX7_marry_116 : decode cX7_marry 116 = .ok (.dup, 1) := by decide +kernel
theorem dX7_marry_117 : decode cX7_marry 117 = .ok (.ldc 213, 2) := by decide +kernel
theorem dX7_marry_119 : decode cX7_marry 119 = .ok (.invokespecial 66, 3) := by decide +kernel
theorem dX7_marry_122 : decode cX7_marry 122 = .ok (.athrow, 1) := by decide +kernel
theorem dX7_marry_123 : decode cX7_marry 123 = .ok (.aload_n 0, 1) := by decide +kernel
theorem dX7_marry_124 : decode cX7_marry 124 = .ok (.getfield 38, 3) := by decide +kernel
theorem dX7_marry_127 : decode cX7_marry 127 = .ok (.invokevirtual 58, 3) := by decide +kernel
theorem dX7_marry_130 : decode cX7_marry 130 = .ok (.bipush 30, 2) := by decide +kernel
theorem dX7_marry_132 : decode cX7_marry 132 = .ok (.if_icmp .lt 13, 3) := by decide +kernel
theorem dX7_marry_135 : decode cX7_marry 135 = .ok (.new 62, 3) := by decide +kernel
theorem dX7_marry_138 : decode cX7_marry 138 = .ok (.dup, 1) := by decide +kernel
theorem dX7_marry_139 : decode cX7_marry 139 = .ok (.ldc 215, 2) := by decide +kernel
theorem dX7_marry_141 : decode cX7_marry 141 = .ok (.invokespecial 66, 3) := by decide +kernel
theorem dX7_marry_144 : decode cX7_marry 144 = .ok (.athrow, 1) := by decide +kernel
theorem dX7_marry_145 : decode cX7_marry 145 = .ok (.aload_n 0, 1) := by decide +kernel
theorem dX7_marry_146 : decode cX7_marry 146 = .ok (.getfield 38, 3) := by decide +kernel
theorem dX7_marry_149 : decode cX7_marry 149 = .ok (.new 217, 3) := by decide +kernel
theorem dX7_marry_152 : decode cX7_marry 152 = .ok (.dup, 1) := by decide +kernel
theorem dX7_marry_153 : decode cX7_marry 153 = .ok (.aload 4, 2) := by decide +kernel
theorem dX7_marry_155 : decode cX7_marry 155 = .ok (.aload 5, 2) := by decide +kernel
theorem dX7_marry_157 : decode cX7_marry 157 = .ok (.iload_n 3, 1) := by decide +kernel
theorem dX7_marry_158 : decode cX7_marry 158 = .ok (.iload 6, 2) := by decide +kernel
theorem dX7_marry_160 : decode cX7_marry 160 = .ok (.invokespecial 219, 3) := by decide +kernel
theorem dX7_marry_163 : decode cX7_marry 163 = .ok (.invokevirtual 74, 3) := by decide +kernel
theorem dX7_marry_166 : decode cX7_marry 166 = .ok (.pop, 1) := by decide +kernel
theorem dX7_marry_167 : decode cX7_marry 167 = .ok (.aload_n 0, 1) := by decide +kernel
theorem dX7_marry_168 : decode cX7_marry 168 = .ok (.getfield 38, 3) := by decide +kernel
theorem dX7_marry_171 : decode cX7_marry 171 = .ok (.invokevirtual 58, 3) := by decide +kernel
theorem dX7_marry_174 : decode cX7_marry 174 = .ok (.iconst 1, 1) := by decide +kernel
theorem dX7_marry_175 : decode cX7_marry 175 = .ok (.isub, 1) := by decide +kernel
theorem dX7_marry_176 : decode cX7_marry 176 = .ok (.ireturn, 1) := by decide +kernel
theorem dX7_divorce_0 : decode cX7_divorce 0 = .ok (.aload_n 0, 1) := by decide +kernel
theorem dX7_divorce_1 : decode cX7_divorce 1 = .ok (.iload_n 1, 1) := by decide +kernel
theorem dX7_divorce_2 : decode cX7_divorce 2 = .ok (.invokevirtual 222, 3) := by decide +kernel
theorem dX7_divorce_5 : decode cX7_divorce 5 = .ok (.astore_n 3, 1) := by decide +kernel
theorem dX7_divorce_6 : decode cX7_divorce 6 = .ok (.aload_n 3, 1) := by decide +kernel
theorem dX7_divorce_7 : decode cX7_divorce 7 = .ok (.getfield 226, 3) := by decide +kernel
theorem dX7_divorce_10 : decode cX7_divorce 10 = .ok (.ifCond .eq 13, 3) := by decide +kernel
theorem dX7_divorce_13 : decode cX7_divorce 13 = .ok (.new 62, 3) := by decide +kernel
theorem dX7_divorce_16 : decode cX7_divorce 16 = .ok (.dup, 1) := by decide +kernel
theorem dX7_divorce_17 : decode cX7_divorce 17 = .ok (.ldc 229, 2) := by decide +kernel
theorem dX7_divorce_19 : decode cX7_divorce 19 = .ok (.invokespecial 66, 3) := by decide +kernel
theorem dX7_divorce_22 : decode cX7_divorce 22 = .ok (.athrow, 1) := by decide +kernel
theorem dX7_divorce_23 : decode cX7_divorce 23 = .ok (.iload_n 2, 1) := by decide +kernel
theorem dX7_divorce_24 : decode cX7_divorce 24 = .ok (.ifCond .eq 11, 3) := by decide +kernel
theorem dX7_divorce_27 : decode cX7_divorce 27 = .ok (.aload_n 3, 1) := by decide +kernel
theorem dX7_divorce_28 : decode cX7_divorce 28 = .ok (.iconst 1, 1) := by decide +kernel
theorem dX7_divorce_29 : decode cX7_divorce 29 = .ok (.putfield 231, 3) := by decide +kernel
theorem dX7_divorce_32 : decode cX7_divorce 32 = .ok (.goto 8, 3) := by decide +kernel
theorem dX7_divorce_35 : decode cX7_divorce 35 = .ok (.aload_n 3, 1) := by decide +kernel
theorem dX7_divorce_36 : decode cX7_divorce 36 = .ok (.iconst 1, 1) := by decide +kernel
theorem dX7_divorce_37 : decode cX7_divorce 37 = .ok (.putfield 234, 3) := by decide +kernel
theorem dX7_divorce_40 : decode cX7_divorce 40 = .ok (.aload_n 0, 1) := by decide +kernel
theorem dX7_divorce_41 : decode cX7_divorce 41 = .ok (.aload_n 0, 1) := by decide +kernel
theorem dX7_divorce_42 : decode cX7_divorce 42 = .ok (.iconst 1, 1) := by decide +kernel
theorem dX7_divorce_43 : decode cX7_divorce 43 = .ok (.aload_n 3, 1) := by decide +kernel
theorem dX7_divorce_44 : decode cX7_divorce 44 = .ok (.getfield 237, 3) := by decide +kernel
theorem dX7_divorce_47 : decode cX7_divorce 47 = .ok (.aload_n 3, 1) := by decide +kernel
theorem dX7_divorce_48 : decode cX7_divorce 48 = .ok (.getfield 241, 3) := by decide +kernel
theorem dX7_divorce_51 : decode cX7_divorce 51 = .ok (.aload_n 0, 1) := by decide +kernel
theorem dX7_divorce_52 : decode cX7_divorce 52 = .ok (.getfield 51, 3) := by decide +kernel
theorem dX7_divorce_55 : decode cX7_divorce 55 = .ok (.invokevirtual 137, 3) := by decide +kernel
theorem dX7_divorce_58 : decode cX7_divorce 58 = .ok (.invokevirtual 95, 3) := by decide +kernel
theorem dX7_divorce_61 : decode cX7_divorce 61 = .ok (.astore 4, 2) := by decide +kernel
theorem dX7_divorce_63 : decode cX7_divorce 63 = .ok (.aload_n 3, 1) := by decide +kernel
theorem dX7_divorce_64 : decode cX7_divorce 64 = .ok (.iload_n 2, 1) := by decide +kernel
theorem dX7_divorce_65 : decode cX7_divorce 65 = .ok (.aload 4, 2) := by decide +kernel
theorem dX7_divorce_67 : decode cX7_divorce 67 = .ok (.iconst 1, 1) := by decide +kernel
theorem dX7_divorce_68 : decode cX7_divorce 68 = .ok (.aload_n 0, 1) := by decide +kernel
theorem dX7_divorce_69 : decode cX7_divorce 69 = .ok (.getfield 51, 3) := by decide +kernel
theorem dX7_divorce_72 : decode cX7_divorce 72 = .ok (.invokevirtual 114, 3) := by decide +kernel
theorem dX7_divorce_75 : decode cX7_divorce 75 = .ok (.invokestatic 244, 3) := by decide +kernel
theorem dX7_divorce_78 : decode cX7_divorce 78 = .ok (.ifCond .ne 5, 3) := by decide +kernel
theorem dX7_divorce_81 : decode cX7_divorce 81 = .ok (.iconst 0, 1) := by decide +kernel
theorem dX7_divorce_82 : decode cX7_divorce 82 = .ok (.ireturn, 1) := by decide +kernel
theorem dX7_divorce_83 : decode cX7_divorce 83 = .ok (.aload_n 3, 1) := by decide +kernel
theorem dX7_divorce_84 : decode cX7_divorce 84 = .ok (.iconst 1, 1) := by decide +kernel
theorem dX7_divorce_85 : decode cX7_divorce 85 = .ok (.putfield 226, 3) := by decide +kernel
theorem dX7_divorce_88 : decode cX7_divorce 88 = .ok (.aload_n 3, 1) := by decide +kernel
theorem dX7_divorce_89 : decode cX7_divorce 89 = .ok (.invokevirtual 248, 3) := by decide +kernel
theorem dX7_divorce_92 : decode cX7_divorce 92 = .ok (.iconst 1, 1) := by decide +kernel
theorem dX7_divorce_93 : decode cX7_divorce 93 = .ok (.ireturn, 1) := by decide +kernel
theorem dX7_goods_0 : decode cX7_goods 0 = .ok (.aload_n 0, 1) := by decide +kernel
theorem dX7_goods_1 : decode cX7_goods 1 = .ok (.iload_n 1, 1) := by decide +kernel
theorem dX7_goods_2 : decode cX7_goods 2 = .ok (.invokevirtual 123, 3) := by decide +kernel
theorem dX7_goods_5 : decode cX7_goods 5 = .ok (.astore_n 3, 1) := by decide +kernel
theorem dX7_goods_6 : decode cX7_goods 6 = .ok (.iload_n 2, 1) := by decide +kernel
theorem dX7_goods_7 : decode cX7_goods 7 = .ok (.iconst 1, 1) := by decide +kernel
theorem dX7_goods_8 : decode cX7_goods 8 = .ok (.ldc 206, 2) := by decide +kernel
theorem dX7_goods_10 : decode cX7_goods 10 = .ok (.invokestatic 102, 3) := by decide +kernel
theorem dX7_goods_13 : decode cX7_goods 13 = .ok (.aload_n 3, 1) := by decide +kernel
theorem dX7_goods_14 : decode cX7_goods 14 = .ok (.getfield 251, 3) := by decide +kernel
theorem dX7_goods_17 : decode cX7_goods 17 = .ok (.ifCond .ne 13, 3) := by decide +kernel
theorem dX7_goods_20 : decode cX7_goods 20 = .ok (.new 62, 3) := by decide +kernel
theorem dX7_goods_23 : decode cX7_goods 23 = .ok (.dup, 1) := by decide +kernel
theorem dX7_goods_24 : decode cX7_goods 24 = .ok (.ldc 254, 2) := by decide +kernel
theorem dX7_goods_26 : decode cX7_goods 26 = .ok (.invokespecial 66, 3) := by decide +kernel
theorem dX7_goods_29 : decode cX7_goods 29 = .ok (.athrow, 1) := by decide +kernel
theorem dX7_goods_30 : decode cX7_goods 30 = .ok (.aload_n 3, 1) := by decide +kernel
theorem dX7_goods_31 : decode cX7_goods 31 = .ok (.dup, 1) := by decide +kernel
theorem dX7_goods_32 : decode cX7_goods 32 = .ok (.getfield 256, 3) := by decide +kernel
theorem dX7_goods_35 : decode cX7_goods 35 = .ok (.iload_n 2, 1) := by decide +kernel
theorem dX7_goods_36 : decode cX7_goods 36 = .ok (.i2l, 1) := by decide +kernel
theorem dX7_goods_37 : decode cX7_goods 37 = .ok (.ladd, 1) := by decide +kernel
theorem dX7_goods_38 : decode cX7_goods 38 = .ok (.putfield 256, 3) := by decide +kernel
theorem dX7_goods_41 : decode cX7_goods 41 = .ok (.aload_n 3, 1) := by decide +kernel
theorem dX7_goods_42 : decode cX7_goods 42 = .ok (.getfield 256, 3) := by decide +kernel
theorem dX7_goods_45 : decode cX7_goods 45 = .ok (.lreturn, 1) := by decide +kernel
theorem dX7_dies_0 : decode cX7_dies 0 = .ok (.aload_n 0, 1) := by decide +kernel
theorem dX7_dies_1 : decode cX7_dies 1 = .ok (.iload_n 1, 1) := by decide +kernel
theorem dX7_dies_2 : decode cX7_dies 2 = .ok (.invokevirtual 123, 3) := by decide +kernel
theorem dX7_dies_5 : decode cX7_dies 5 = .ok (.astore_n 2, 1) := by decide +kernel
theorem dX7_dies_6 : decode cX7_dies 6 = .ok (.aload_n 2, 1) := by decide +kernel
theorem dX7_dies_7 : decode cX7_dies 7 = .ok (.getfield 251, 3) := by decide +kernel
theorem dX7_dies_10 : decode cX7_dies 10 = .ok (.ifCond .ne 13, 3) := by decide +kernel
theorem dX7_dies_13 : decode cX7_dies 13 = .ok (.new 62, 3) := by decide +kernel
theorem dX7_dies_16 : decode cX7_dies 16 = .ok (.dup, 1) := by decide +kernel
theorem dX7_dies_17 : decode cX7_dies 17 = .ok (.ldc 254, 2) := by decide +kernel
theorem dX7_dies_19 : decode cX7_dies 19 = .ok (.invokespecial 66, 3) := by decide +kernel
theorem dX7_dies_22 : decode cX7_dies 22 = .ok (.athrow, 1) := by decide +kernel
theorem dX7_dies_23 : decode cX7_dies 23 = .ok (.aload_n 0, 1) := by decide +kernel
theorem dX7_dies_24 : decode cX7_dies 24 = .ok (.aload_n 0, 1) := by decide +kernel
theorem dX7_dies_25 : decode cX7_dies 25 = .ok (.iconst 2, 1) := by decide +kernel
theorem dX7_dies_26 : decode cX7_dies 26 = .ok (.aload_n 2, 1) := by decide +kernel
theorem dX7_dies_27 : decode cX7_dies 27 = .ok (.aload_n 2, 1) := by decide +kernel
theorem dX7_dies_28 : decode cX7_dies 28 = .ok (.aload_n 0, 1) := by decide +kernel
theorem dX7_dies_29 : decode cX7_dies 29 = .ok (.getfield 51, 3) := by decide +kernel
theorem dX7_dies_32 : decode cX7_dies 32 = .ok (.invokevirtual 137, 3) := by decide +kernel
theorem dX7_dies_35 : decode cX7_dies 35 = .ok (.invokevirtual 95, 3) := by decide +kernel
theorem dX7_dies_38 : decode cX7_dies 38 = .ok (.astore_n 3, 1) := by decide +kernel
theorem dX7_dies_39 : decode cX7_dies 39 = .ok (.aload_n 2, 1) := by decide +kernel
theorem dX7_dies_40 : decode cX7_dies 40 = .ok (.iconst 0, 1) := by decide +kernel
theorem dX7_dies_41 : decode cX7_dies 41 = .ok (.putfield 251, 3) := by decide +kernel
theorem dX7_dies_44 : decode cX7_dies 44 = .ok (.aload_n 2, 1) := by decide +kernel
theorem dX7_dies_45 : decode cX7_dies 45 = .ok (.invokevirtual 195, 3) := by decide +kernel
theorem dX7_dies_48 : decode cX7_dies 48 = .ok (.aload_n 0, 1) := by decide +kernel
theorem dX7_dies_49 : decode cX7_dies 49 = .ok (.aload_n 2, 1) := by decide +kernel
theorem dX7_dies_50 : decode cX7_dies 50 = .ok (.invokevirtual 259, 3) := by decide +kernel
theorem dX7_dies_53 : decode cX7_dies 53 = .ok (.astore 4, 2) := by decide +kernel
theorem dX7_dies_55 : decode cX7_dies 55 = .ok (.aload_n 0, 1) := by decide +kernel
theorem dX7_dies_56 : decode cX7_dies 56 = .ok (.aload_n 2, 1) := by decide +kernel
theorem dX7_dies_57 : decode cX7_dies 57 = .ok (.invokevirtual 263, 3) := by decide +kernel
theorem dX7_dies_60 : decode cX7_dies 60 = .ok (.astore 5, 2) := by decide +kernel
theorem dX7_dies_62 : decode cX7_dies 62 = .ok (.aload_n 3, 1) := by decide +kernel
theorem dX7_dies_63 : decode cX7_dies 63 = .ok (.iconst 5, 1) := by decide +kernel
theorem dX7_dies_64 : decode cX7_dies 64 = .ok (.aload_n 0, 1) := by decide +kernel
theorem dX7_dies_65 : decode cX7_dies 65 = .ok (.getfield 51, 3) := by decide +kernel
theorem dX7_dies_68 : decode cX7_dies 68 = .ok (.invokevirtual 114, 3) := by decide +kernel
theorem dX7_dies_71 : decode cX7_dies 71 = .ok (.iconst 1, 1) := by decide +kernel
theorem dX7_dies_72 : decode cX7_dies 72 = .ok (.if_icmp .ne 21, 3) := by decide +kernel
theorem dX7_dies_75 : decode cX7_dies 75 = .ok (.aload 4, 2) := by decide +kernel
theorem dX7_dies_77 : decode cX7_dies 77 = .ok (.aload_n 2, 1) := by decide +kernel
theorem dX7_dies_78 : decode cX7_dies 78 = .ok (.invokevirtual 172, 3) := by decide +kernel
theorem dX7_dies_81 : decode cX7_dies 81 = .ok (.invokestatic 266, 3) := by decide +kernel
theorem dX7_dies_84 : decode cX7_dies 84 = .ok (.aload 5, 2) := by decide +kernel
theorem dX7_dies_86 : decode cX7_dies 86 = .ok (.aload_n 2, 1) := by decide +kernel
theorem dX7_dies_87 : decode cX7_dies 87 = .ok (.invokevirtual 172, 3) := by decide +kernel
theorem dX7_dies_90 : decode cX7_dies 90 = .ok (.invokestatic 266, 3) := by decide +kernel
theorem dX7_dies_93 : decode cX7_dies 93 = .ok (.aload_n 0, 1) := by decide +kernel
theorem dX7_dies_94 : decode cX7_dies 94 = .ok (.aload_n 2, 1) := by decide +kernel
theorem dX7_dies_95 : decode cX7_dies 95 = .ok (.aload 4, 2) := by decide +kernel
theorem dX7_dies_97 : decode cX7_dies 97 = .ok (.aload 5, 2) := by decide +kernel
theorem dX7_dies_99 : decode cX7_dies 99 = .ok (.aload_n 3, 1) := by decide +kernel
theorem dX7_dies_100 : decode cX7_dies 100 = .ok (.invokevirtual 270, 3) := by decide +kernel
theorem dX7_dies_103 : decode cX7_dies 103 = .ok (.lreturn, 1) := by decide +kernel
theorem dX7_sue_0 : decode cX7_sue 0 = .ok (.aload_n 0, 1) := by decide +kernel
theorem dX7_sue_1 : decode cX7_sue 1 = .ok (.iload_n 1, 1) := by decide +kernel
theorem dX7_sue_2 : decode cX7_sue 2 = .ok (.invokevirtual 123, 3) := by decide +kernel
theorem dX7_sue_5 : decode cX7_sue 5 = .ok (.astore 5, 2) := by decide +kernel
theorem dX7_sue_7 : decode cX7_sue 7 = .ok (.aload_n 0, 1) := by decide +kernel
theorem dX7_sue_8 : decode cX7_sue 8 = .ok (.iload_n 2, 1) := by decide +kernel
theorem dX7_sue_9 : decode cX7_sue 9 = .ok (.invokevirtual 123, 3) := by decide +kernel
theorem dX7_sue_12 : decode cX7_sue 12 = .ok (.astore 6, 2) := by decide +kernel
theorem dX7_sue_14 : decode cX7_sue 14 = .ok (.aload_n 0, 1) := by decide +kernel
theorem dX7_sue_15 : decode cX7_sue 15 = .ok (.iload_n 3, 1) := by decide +kernel
theorem dX7_sue_16 : decode cX7_sue 16 = .ok (.invokevirtual 95, 3) := by decide +kernel
theorem dX7_sue_19 : decode cX7_sue 19 = .ok (.pop, 1) := by decide +kernel
theorem dX7_sue_20 : decode cX7_sue 20 = .ok (.iload_n 1, 1) := by decide +kernel
theorem dX7_sue_21 : decode cX7_sue 21 = .ok (.iload_n 2, 1) := by decide +kernel
theorem dX7_sue_22 : decode cX7_sue 22 = .ok (.if_icmp .ne 14, 3) := by decide +kernel
theorem dX7_sue_25 : decode cX7_sue 25 = .ok (.new 148, 3) := by decide +kernel
theorem dX7_sue_28 : decode cX7_sue 28 = .ok (.dup, 1) := by decide +kernel
theorem dX7_sue_29 : decode cX7_sue 29 = .ok (.ldc_w 274, 3) := by decide +kernel
theorem dX7_sue_32 : decode cX7_sue 32 = .ok (.invokespecial 152, 3) := by decide +kernel
theorem dX7_sue_35 : decode cX7_sue 35 = .ok (.athrow, 1) := by decide +kernel
theorem dX7_sue_36 : decode cX7_sue 36 = .ok (.iload 4, 2) := by decide +kernel
theorem dX7_sue_38 : decode cX7_sue 38 = .ok (.iconst 1, 1) := by decide +kernel
theorem dX7_sue_39 : decode cX7_sue 39 = .ok (.ldc 206, 2) := by decide +kernel
theorem dX7_sue_41 : decode cX7_sue 41 = .ok (.invokestatic 102, 3) := by decide +kernel
theorem dX7_sue_44 : decode cX7_sue 44 = .ok (.aload 5, 2) := by decide +kernel
theorem dX7_sue_46 : decode cX7_sue 46 = .ok (.getfield 251, 3) := by decide +kernel
theorem dX7_sue_49 : decode cX7_sue 49 = .ok (.ifCond .eq 11, 3) := by decide +kernel
theorem dX7_sue_52 : decode cX7_sue 52 = .ok (.aload 6, 2) := by decide +kernel
theorem dX7_sue_54 : decode cX7_sue 54 = .ok (.getfield 251, 3) := by decide +kernel
theorem dX7_sue_57 : decode cX7_sue 57 = .ok (.ifCond .ne 14, 3) := by decide +kernel
theorem dX7_sue_60 : decode cX7_sue 60 = .ok (.new 62, 3) := by decide +kernel
theorem dX7_sue_63 : decode cX7_sue 63 = .ok (.dup, 1) := by decide +kernel
theorem dX7_sue_64 : decode cX7_sue 64 = .ok (.ldc_w 276, 3) := by decide +kernel
theorem dX7_sue_67 : decode cX7_sue 67 = .ok (.invokespecial 66, 3) := by decide +kernel
theorem dX7_sue_70 : decode cX7_sue 70 = .ok (.athrow, 1) := by decide +kernel
theorem dX7_sue_71 : decode cX7_sue 71 = .ok (.aload_n 0, 1) := by decide +kernel
theorem dX7_sue_72 : decode cX7_sue 72 = .ok (.getfield 41, 3) := by decide +kernel
theorem dX7_sue_75 : decode cX7_sue 75 = .ok (.invokevirtual 58, 3) := by decide +kernel
theorem dX7_sue_78 : decode cX7_sue 78 = .ok (.bipush 20, 2) := by decide +kernel
theorem dX7_sue_80 : decode cX7_sue 80 = .ok (.if_icmp .lt 14, 3) := by decide +kernel
theorem dX7_sue_83 : decode cX7_sue 83 = .ok (.new 62, 3) := by decide +kernel
theorem dX7_sue_86 : decode cX7_sue 86 = .ok (.dup, 1) := by decide +kernel
theorem dX7_sue_87 : decode cX7_sue 87 = .ok (.ldc_w 278, 3) := by decide +kernel
theorem dX7_sue_90 : decode cX7_sue 90 = .ok (.invokespecial 66, 3) := by decide +kernel
theorem dX7_sue_93 : decode cX7_sue 93 = .ok (.athrow, 1) := by decide +kernel
theorem dX7_sue_94 : decode cX7_sue 94 = .ok (.new 280, 3) := by decide +kernel
theorem dX7_sue_97 : decode cX7_sue 97 = .ok (.dup, 1) := by decide +kernel
theorem dX7_sue_98 : decode cX7_sue 98 = .ok (.aload 5, 2) := by decide +kernel
theorem dX7_sue_100 : decode cX7_sue 100 = .ok (.aload 6, 2) := by decide +kernel
theorem dX7_sue_102 : decode cX7_sue 102 = .ok (.iload_n 3, 1) := by decide +kernel
theorem dX7_sue_103 : decode cX7_sue 103 = .ok (.iload 4, 2) := by decide +kernel
theorem dX7_sue_105 : decode cX7_sue 105 = .ok (.invokespecial 282, 3) := by decide +kernel
theorem dX7_sue_108 : decode cX7_sue 108 = .ok (.astore 7, 2) := by decide +kernel
theorem dX7_sue_110 : decode cX7_sue 110 = .ok (.aload 7, 2) := by decide +kernel
theorem dX7_sue_112 : decode cX7_sue 112 = .ok (.aload_n 0, 1) := by decide +kernel
theorem dX7_sue_113 : decode cX7_sue 113 = .ok (.aload 5, 2) := by decide +kernel
theorem dX7_sue_115 : decode cX7_sue 115 = .ok (.aload 6, 2) := by decide +kernel
theorem dX7_sue_117 : decode cX7_sue 117 = .ok (.invokevirtual 283, 3) := by decide +kernel
theorem dX7_sue_120 : decode cX7_sue 120 = .ok (.ifCond .eq 7, 3) := by decide +kernel
theorem dX7_sue_123 : decode cX7_sue 123 = .ok (.iconst 1, 1) := by decide +kernel
theorem dX7_sue_124 : decode cX7_sue 124 = .ok (.goto 4, 3) := by decide +kernel
theorem dX7_sue_127 : decode cX7_sue 127 = .ok (.iconst 0, 1) := by decide +kernel
theorem dX7_sue_128 : decode cX7_sue 128 = .ok (.putfield 287, 3) := by decide +kernel
theorem dX7_sue_131 : decode cX7_sue 131 = .ok (.aload 7, 2) := by decide +kernel
theorem dX7_sue_133 : decode cX7_sue 133 = .ok (.aload_n 0, 1) := by decide +kernel
theorem dX7_sue_134 : decode cX7_sue 134 = .ok (.iconst 3, 1) := by decide +kernel
theorem dX7_sue_135 : decode cX7_sue 135 = .ok (.aload 5, 2) := by decide +kernel
theorem dX7_sue_137 : decode cX7_sue 137 = .ok (.aload 6, 2) := by decide +kernel
theorem dX7_sue_139 : decode cX7_sue 139 = .ok (.aload_n 0, 1) := by decide +kernel
theorem dX7_sue_140 : decode cX7_sue 140 = .ok (.getfield 51, 3) := by decide +kernel
theorem dX7_sue_143 : decode cX7_sue 143 = .ok (.invokevirtual 137, 3) := by decide +kernel
theorem dX7_sue_146 : decode cX7_sue 146 = .ok (.iload_n 3, 1) := by decide +kernel
theorem dX7_sue_147 : decode cX7_sue 147 = .ok (.if_icmp .ne 7, 3) := by decide +kernel
theorem dX7_sue_150 : decode cX7_sue 150 = .ok (.iconst 1, 1) := by decide +kernel
theorem dX7_sue_151 : decode cX7_sue 151 = .ok (.goto 4, 3) := by decide +kernel
theorem dX7_sue_154 : decode cX7_sue 154 = .ok (.iconst 0, 1) := by decide +kernel
theorem dX7_sue_155 : decode cX7_sue 155 = .ok (.putfield 288, 3) := by decide +kernel
theorem dX7_sue_158 : decode cX7_sue 158 = .ok (.aload_n 0, 1) := by decide +kernel
theorem dX7_sue_159 : decode cX7_sue 159 = .ok (.getfield 41, 3) := by decide +kernel
theorem dX7_sue_162 : decode cX7_sue 162 = .ok (.aload 7, 2) := by decide +kernel
theorem dX7_sue_164 : decode cX7_sue 164 = .ok (.invokevirtual 74, 3) := by decide +kernel
theorem dX7_sue_167 : decode cX7_sue 167 = .ok (.pop, 1) := by decide +kernel
theorem dX7_sue_168 : decode cX7_sue 168 = .ok (.aload_n 0, 1) := by decide +kernel
theorem dX7_sue_169 : decode cX7_sue 169 = .ok (.getfield 41, 3) := by decide +kernel
theorem dX7_sue_172 : decode cX7_sue 172 = .ok (.invokevirtual 58, 3) := by decide +kernel
theorem dX7_sue_175 : decode cX7_sue 175 = .ok (.iconst 1, 1) := by decide +kernel
theorem dX7_sue_176 : decode cX7_sue 176 = .ok (.isub, 1) := by decide +kernel
theorem dX7_sue_177 : decode cX7_sue 177 = .ok (.ireturn, 1) := by decide +kernel
theorem dX7_appear_0 : decode cX7_appear 0 = .ok (.aload_n 0, 1) := by decide +kernel
theorem dX7_appear_1 : decode cX7_appear 1 = .ok (.iload_n 1, 1) := by decide +kernel
theorem dX7_appear_2 : decode cX7_appear 2 = .ok (.invokevirtual 291, 3) := by decide +kernel
theorem dX7_appear_5 : decode cX7_appear 5 = .ok (.astore_n 2, 1) := by decide +kernel
theorem dX7_appear_6 : decode cX7_appear 6 = .ok (.aload_n 2, 1) := by decide +kernel
theorem dX7_appear_7 : decode cX7_appear 7 = .ok (.invokestatic 295, 3) := by decide +kernel
theorem dX7_appear_10 : decode cX7_appear 10 = .ok (.aload_n 2, 1) := by decide +kernel
theorem dX7_appear_11 : decode cX7_appear 11 = .ok (.getfield 299, 3) := by decide +kernel
theorem dX7_appear_14 : decode cX7_appear 14 = .ok (.getfield 251, 3) := by decide +kernel
theorem dX7_appear_17 : decode cX7_appear 17 = .ok (.ifCond .ne 14, 3) := by decide +kernel
theorem dX7_appear_20 : decode cX7_appear 20 = .ok (.new 62, 3) := by decide +kernel
theorem dX7_appear_23 : decode cX7_appear 23 = .ok (.dup, 1) := by decide +kernel
theorem dX7_appear_24 : decode cX7_appear 24 = .ok (.ldc_w 302, 3) := by decide +kernel
theorem dX7_appear_27 : decode cX7_appear 27 = .ok (.invokespecial 66, 3) := by decide +kernel
theorem dX7_appear_30 : decode cX7_appear 30 = .ok (.athrow, 1) := by decide +kernel
theorem dX7_appear_31 : decode cX7_appear 31 = .ok (.aload_n 2, 1) := by decide +kernel
theorem dX7_appear_32 : decode cX7_appear 32 = .ok (.getfield 288, 3) := by decide +kernel
theorem dX7_appear_35 : decode cX7_appear 35 = .ok (.ifCond .ne 7, 3) := by decide +kernel
theorem dX7_appear_38 : decode cX7_appear 38 = .ok (.iconst 1, 1) := by decide +kernel
theorem dX7_appear_39 : decode cX7_appear 39 = .ok (.goto 4, 3) := by decide +kernel
theorem dX7_appear_42 : decode cX7_appear 42 = .ok (.iconst 0, 1) := by decide +kernel
theorem dX7_appear_43 : decode cX7_appear 43 = .ok (.istore_n 3, 1) := by decide +kernel
theorem dX7_appear_44 : decode cX7_appear 44 = .ok (.aload_n 2, 1) := by decide +kernel
theorem dX7_appear_45 : decode cX7_appear 45 = .ok (.iconst 1, 1) := by decide +kernel
theorem dX7_appear_46 : decode cX7_appear 46 = .ok (.putfield 288, 3) := by decide +kernel
theorem dX7_appear_49 : decode cX7_appear 49 = .ok (.iload_n 3, 1) := by decide +kernel
theorem dX7_appear_50 : decode cX7_appear 50 = .ok (.ireturn, 1) := by decide +kernel
theorem dX7_testify_0 : decode cX7_testify 0 = .ok (.aload_n 0, 1) := by decide +kernel
theorem dX7_testify_1 : decode cX7_testify 1 = .ok (.iload_n 1, 1) := by decide +kernel
theorem dX7_testify_2 : decode cX7_testify 2 = .ok (.invokevirtual 291, 3) := by decide +kernel
theorem dX7_testify_5 : decode cX7_testify 5 = .ok (.astore 4, 2) := by decide +kernel
theorem dX7_testify_7 : decode cX7_testify 7 = .ok (.aload_n 0, 1) := by decide +kernel
theorem dX7_testify_8 : decode cX7_testify 8 = .ok (.iload_n 2, 1) := by decide +kernel
theorem dX7_testify_9 : decode cX7_testify 9 = .ok (.invokevirtual 123, 3) := by decide +kernel
theorem dX7_testify_12 : decode cX7_testify 12 = .ok (.astore 5, 2) := by decide +kernel
theorem dX7_testify_14 : decode cX7_testify 14 = .ok (.aload 4, 2) := by decide +kernel
theorem dX7_testify_16 : decode cX7_testify 16 = .ok (.invokestatic 295, 3) := by decide +kernel
theorem dX7_testify_19 : decode cX7_testify 19 = .ok (.aload 5, 2) := by decide +kernel
theorem dX7_testify_21 : decode cX7_testify 21 = .ok (.aload_n 0, 1) := by decide +kernel
theorem dX7_testify_22 : decode cX7_testify 22 = .ok (.getfield 51, 3) := by decide +kernel
theorem dX7_testify_25 : decode cX7_testify 25 = .ok (.invokevirtual 168, 3) := by decide +kernel
theorem dX7_testify_28 : decode cX7_testify 28 = .ok (.ifCond .eq 23, 3) := by decide +kernel
theorem dX7_testify_31 : decode cX7_testify 31 = .ok (.aload 4, 2) := by decide +kernel
theorem dX7_testify_33 : decode cX7_testify 33 = .ok (.aload 5, 2) := by decide +kernel
theorem dX7_testify_35 : decode cX7_testify 35 = .ok (.invokevirtual 304, 3) := by decide +kernel
theorem dX7_testify_38 : decode cX7_testify 38 = .ok (.ifCond .ne 13, 3) := by decide +kernel
theorem dX7_testify_41 : decode cX7_testify 41 = .ok (.aload 4, 2) := by decide +kernel
theorem dX7_testify_43 : decode cX7_testify 43 = .ok (.aload 5, 2) := by decide +kernel
theorem dX7_testify_45 : decode cX7_testify 45 = .ok (.invokevirtual 308, 3) := by decide +kernel
theorem dX7_testify_48 : decode cX7_testify 48 = .ok (.ifCond .eq 14, 3) := by decide +kernel
theorem dX7_testify_51 : decode cX7_testify 51 = .ok (.new 62, 3) := by decide +kernel
theorem dX7_testify_54 : decode cX7_testify 54 = .ok (.dup, 1) := by decide +kernel
theorem dX7_testify_55 : decode cX7_testify 55 = .ok (.ldc_w 311, 3) := by decide +kernel
theorem dX7_testify_58 : decode cX7_testify 58 = .ok (.invokespecial 66, 3) := by decide +kernel
theorem dX7_testify_61 : decode cX7_testify 61 = .ok (.athrow, 1) := by decide +kernel
theorem dX7_testify_62 : decode cX7_testify 62 = .ok (.aload 4, 2) := by decide +kernel
theorem dX7_testify_64 : decode cX7_testify 64 = .ok (.getfield 313, 3) := by decide +kernel
theorem dX7_testify_67 : decode cX7_testify 67 = .ok (.new 316, 3) := by decide +kernel
theorem dX7_testify_70 : decode cX7_testify 70 = .ok (.dup, 1) := by decide +kernel
theorem dX7_testify_71 : decode cX7_testify 71 = .ok (.aload 5, 2) := by decide +kernel
theorem dX7_testify_73 : decode cX7_testify 73 = .ok (.iload_n 3, 1) := by decide +kernel
theorem dX7_testify_74 : decode cX7_testify 74 = .ok (.invokespecial 318, 3) := by decide +kernel
theorem dX7_testify_77 : decode cX7_testify 77 = .ok (.invokevirtual 74, 3) := by decide +kernel
theorem dX7_testify_80 : decode cX7_testify 80 = .ok (.pop, 1) := by decide +kernel
theorem dX7_testify_81 : decode cX7_testify 81 = .ok (.aload 4, 2) := by decide +kernel
theorem dX7_testify_83 : decode cX7_testify 83 = .ok (.getfield 313, 3) := by decide +kernel
theorem dX7_testify_86 : decode cX7_testify 86 = .ok (.invokevirtual 58, 3) := by decide +kernel
theorem dX7_testify_89 : decode cX7_testify 89 = .ok (.ireturn, 1) := by decide +kernel
theorem dX7_judge_0 : decode cX7_judge 0 = .ok (.aload_n 0, 1) := by decide +kernel
theorem dX7_judge_1 : decode cX7_judge 1 = .ok (.iload_n 1, 1) := by decide +kernel
theorem dX7_judge_2 : decode cX7_judge 2 = .ok (.invokevirtual 291, 3) := by decide +kernel
theorem dX7_judge_5 : decode cX7_judge 5 = .ok (.astore_n 2, 1) := by decide +kernel
theorem dX7_judge_6 : decode cX7_judge 6 = .ok (.aload_n 2, 1) := by decide +kernel
theorem dX7_judge_7 : decode cX7_judge 7 = .ok (.invokestatic 295, 3) := by decide +kernel
theorem dX7_judge_10 : decode cX7_judge 10 = .ok (.aload_n 2, 1) := by decide +kernel
theorem dX7_judge_11 : decode cX7_judge 11 = .ok (.getfield 288, 3) := by decide +kernel
theorem dX7_judge_14 : decode cX7_judge 14 = .ok (.ifCond .ne 14, 3) := by decide +kernel
theorem dX7_judge_17 : decode cX7_judge 17 = .ok (.new 62, 3) := by decide +kernel
theorem dX7_judge_20 : decode cX7_judge 20 = .ok (.dup, 1) := by decide +kernel
theorem dX7_judge_21 : decode cX7_judge 21 = .ok (.ldc_w 321, 3) := by decide +kernel
theorem dX7_judge_24 : decode cX7_judge 24 = .ok (.invokespecial 66, 3) := by decide +kernel
theorem dX7_judge_27 : decode cX7_judge 27 = .ok (.athrow, 1) := by decide +kernel
theorem dX7_judge_28 : decode cX7_judge 28 = .ok (.aload_n 0, 1) := by decide +kernel
theorem dX7_judge_29 : decode cX7_judge 29 = .ok (.aload_n 2, 1) := by decide +kernel
theorem dX7_judge_30 : decode cX7_judge 30 = .ok (.aload_n 0, 1) := by decide +kernel
theorem dX7_judge_31 : decode cX7_judge 31 = .ok (.aload_n 2, 1) := by decide +kernel
theorem dX7_judge_32 : decode cX7_judge 32 = .ok (.getfield 323, 3) := by decide +kernel
theorem dX7_judge_35 : decode cX7_judge 35 = .ok (.invokevirtual 95, 3) := by decide +kernel
theorem dX7_judge_38 : decode cX7_judge 38 = .ok (.invokevirtual 326, 3) := by decide +kernel
theorem dX7_judge_41 : decode cX7_judge 41 = .ok (.istore_n 3, 1) := by decide +kernel
theorem dX7_judge_42 : decode cX7_judge 42 = .ok (.aload_n 2, 1) := by decide +kernel
theorem dX7_judge_43 : decode cX7_judge 43 = .ok (.iload_n 3, 1) := by decide +kernel
theorem dX7_judge_44 : decode cX7_judge 44 = .ok (.aload_n 0, 1) := by decide +kernel
theorem dX7_judge_45 : decode cX7_judge 45 = .ok (.getfield 51, 3) := by decide +kernel
theorem dX7_judge_48 : decode cX7_judge 48 = .ok (.invokevirtual 330, 3) := by decide +kernel
theorem dX7_judge_51 : decode cX7_judge 51 = .ok (.iload_n 3, 1) := by decide +kernel
theorem dX7_judge_52 : decode cX7_judge 52 = .ok (.ifCond .eq 11, 3) := by decide +kernel
theorem dX7_judge_55 : decode cX7_judge 55 = .ok (.aload_n 2, 1) := by decide +kernel
theorem dX7_judge_56 : decode cX7_judge 56 = .ok (.aload_n 2, 1) := by decide +kernel
theorem dX7_judge_57 : decode cX7_judge 57 = .ok (.getfield 334, 3) := by decide +kernel
theorem dX7_judge_60 : decode cX7_judge 60 = .ok (.putfield 337, 3) := by decide +kernel
theorem dX7_judge_63 : decode cX7_judge 63 = .ok (.iload_n 3, 1) := by decide +kernel
theorem dX7_judge_64 : decode cX7_judge 64 = .ok (.ireturn, 1) := by decide +kernel
theorem dX7_appeal_0 : decode cX7_appeal 0 = .ok (.aload_n 0, 1) := by decide +kernel
theorem dX7_appeal_1 : decode cX7_appeal 1 = .ok (.iload_n 1, 1) := by decide +kernel
theorem dX7_appeal_2 : decode cX7_appeal 2 = .ok (.invokevirtual 291, 3) := by decide +kernel
theorem dX7_appeal_5 : decode cX7_appeal 5 = .ok (.astore_n 2, 1) := by decide +kernel
theorem dX7_appeal_6 : decode cX7_appeal 6 = .ok (.aload_n 2, 1) := by decide +kernel
theorem dX7_appeal_7 : decode cX7_appeal 7 = .ok (.getfield 287, 3) := by decide +kernel
theorem dX7_appeal_10 : decode cX7_appeal 10 = .ok (.iconst 2, 1) := by decide +kernel
theorem dX7_appeal_11 : decode cX7_appeal 11 = .ok (.if_icmp .eq 22, 3) := by decide +kernel
theorem dX7_appeal_14 : decode cX7_appeal 14 = .ok (.aload_n 2, 1) := by decide +kernel
theorem dX7_appeal_15 : decode cX7_appeal 15 = .ok (.getfield 287, 3) := by decide +kernel
theorem dX7_appeal_18 : decode cX7_appeal 18 = .ok (.iconst 3, 1) := by decide +kernel
theorem dX7_appeal_19 : decode cX7_appeal 19 = .ok (.if_icmp .eq 14, 3) := by decide +kernel
theorem dX7_appeal_22 : decode cX7_appeal 22 = .ok (.new 62, 3) := by decide +kernel
theorem dX7_appeal_25 : decode cX7_appeal 25 = .ok (.dup, 1) := by decide +kernel
theorem dX7_appeal_26 : decode cX7_appeal 26 = .ok (.ldc_w 340, 3) := by decide +kernel
theorem dX7_appeal_29 : decode cX7_appeal 29 = .ok (.invokespecial 66, 3) := by decide +kernel
theorem dX7_appeal_32 : decode cX7_appeal 32 = .ok (.athrow, 1) := by decide +kernel
theorem dX7_appeal_33 : decode cX7_appeal 33 = .ok (.aload_n 2, 1) := by decide +kernel
theorem dX7_appeal_34 : decode cX7_appeal 34 = .ok (.getfield 323, 3) := by decide +kernel
theorem dX7_appeal_37 : decode cX7_appeal 37 = .ok (.iconst (-1), 1) := by decide +kernel
theorem dX7_appeal_38 : decode cX7_appeal 38 = .ok (.if_icmp .eq 24, 3) := by decide +kernel
theorem dX7_appeal_41 : decode cX7_appeal 41 = .ok (.aload_n 2, 1) := by decide +kernel
theorem dX7_appeal_42 : decode cX7_appeal 42 = .ok (.getfield 342, 3) := by decide +kernel
theorem dX7_appeal_45 : decode cX7_appeal 45 = .ok (.ifCond .ne 17, 3) := by decide +kernel
theorem dX7_appeal_48 : decode cX7_appeal 48 = .ok (.aload_n 0, 1) := by decide +kernel
theorem dX7_appeal_49 : decode cX7_appeal 49 = .ok (.getfield 51, 3) := by decide +kernel
theorem dX7_appeal_52 : decode cX7_appeal 52 = .ok (.aload_n 2, 1) := by decide +kernel
theorem dX7_appeal_53 : decode cX7_appeal 53 = .ok (.getfield 345, 3) := by decide +kernel
theorem dX7_appeal_56 : decode cX7_appeal 56 = .ok (.isub, 1) := by decide +kernel
theorem dX7_appeal_57 : decode cX7_appeal 57 = .ok (.bipush 60, 2) := by decide +kernel
theorem dX7_appeal_59 : decode cX7_appeal 59 = .ok (.if_icmp .le 14, 3) := by decide +kernel
theorem dX7_appeal_62 : decode cX7_appeal 62 = .ok (.new 62, 3) := by decide +kernel
theorem dX7_appeal_65 : decode cX7_appeal 65 = .ok (.dup, 1) := by decide +kernel
theorem dX7_appeal_66 : decode cX7_appeal 66 = .ok (.ldc_w 348, 3) := by decide +kernel
theorem dX7_appeal_69 : decode cX7_appeal 69 = .ok (.invokespecial 66, 3) := by decide +kernel
theorem dX7_appeal_72 : decode cX7_appeal 72 = .ok (.athrow, 1) := by decide +kernel
theorem dX7_appeal_73 : decode cX7_appeal 73 = .ok (.aload_n 2, 1) := by decide +kernel
theorem dX7_appeal_74 : decode cX7_appeal 74 = .ok (.getfield 287, 3) := by decide +kernel
theorem dX7_appeal_77 : decode cX7_appeal 77 = .ok (.iconst 2, 1) := by decide +kernel
theorem dX7_appeal_78 : decode cX7_appeal 78 = .ok (.if_icmp .ne 7, 3) := by decide +kernel
theorem dX7_appeal_81 : decode cX7_appeal 81 = .ok (.iconst 1, 1) := by decide +kernel
theorem dX7_appeal_82 : decode cX7_appeal 82 = .ok (.goto 4, 3) := by decide +kernel
theorem dX7_appeal_85 : decode cX7_appeal 85 = .ok (.iconst 0, 1) := by decide +kernel
theorem dX7_appeal_86 : decode cX7_appeal 86 = .ok (.istore_n 3, 1) := by decide +kernel
theorem dX7_appeal_87 : decode cX7_appeal 87 = .ok (.aload_n 0, 1) := by decide +kernel
theorem dX7_appeal_88 : decode cX7_appeal 88 = .ok (.aload_n 2, 1) := by decide +kernel
theorem dX7_appeal_89 : decode cX7_appeal 89 = .ok (.aload_n 0, 1) := by decide +kernel
theorem dX7_appeal_90 : decode cX7_appeal 90 = .ok (.getfield 10, 3) := by decide +kernel
theorem dX7_appeal_93 : decode cX7_appeal 93 = .ok (.invokevirtual 326, 3) := by decide +kernel
theorem dX7_appeal_96 : decode cX7_appeal 96 = .ok (.istore 4, 2) := by decide +kernel
theorem dX7_appeal_98 : decode cX7_appeal 98 = .ok (.aload_n 2, 1) := by decide +kernel
theorem dX7_appeal_99 : decode cX7_appeal 99 = .ok (.iconst 1, 1) := by decide +kernel
theorem dX7_appeal_100 : decode cX7_appeal 100 = .ok (.putfield 342, 3) := by decide +kernel
theorem dX7_appeal_103 : decode cX7_appeal 103 = .ok (.aload_n 2, 1) := by decide +kernel
theorem dX7_appeal_104 : decode cX7_appeal 104 = .ok (.iload 4, 2) := by decide +kernel
theorem dX7_appeal_106 : decode cX7_appeal 106 = .ok (.aload_n 0, 1) := by decide +kernel
theorem dX7_appeal_107 : decode cX7_appeal 107 = .ok (.getfield 51, 3) := by decide +kernel
theorem dX7_appeal_110 : decode cX7_appeal 110 = .ok (.invokevirtual 330, 3) := by decide +kernel
theorem dX7_appeal_113 : decode cX7_appeal 113 = .ok (.iload_n 3, 1) := by decide +kernel
theorem dX7_appeal_114 : decode cX7_appeal 114 = .ok (.ifCond .eq 15, 3) := by decide +kernel
theorem dX7_appeal_117 : decode cX7_appeal 117 = .ok (.iload 4, 2) := by decide +kernel
theorem dX7_appeal_119 : decode cX7_appeal 119 = .ok (.ifCond .ne 10, 3) := by decide +kernel
theorem dX7_appeal_122 : decode cX7_appeal 122 = .ok (.aload_n 2, 1) := by decide +kernel
theorem dX7_appeal_123 : decode cX7_appeal 123 = .ok (.invokevirtual 350, 3) := by decide +kernel
theorem dX7_appeal_126 : decode cX7_appeal 126 = .ok (.goto 20, 3) := by decide +kernel
theorem dX7_appeal_129 : decode cX7_appeal 129 = .ok (.iload 4, 2) := by decide +kernel
theorem dX7_appeal_131 : decode cX7_appeal 131 = .ok (.ifCond .eq 15, 3) := by decide +kernel
theorem dX7_appeal_134 : decode cX7_appeal 134 = .ok (.iload_n 3, 1) := by decide +kernel
theorem dX7_appeal_135 : decode cX7_appeal 135 = .ok (.ifCond .ne 11, 3) := by decide +kernel
theorem dX7_appeal_138 : decode cX7_appeal 138 = .ok (.aload_n 2, 1) := by decide +kernel
theorem dX7_appeal_139 : decode cX7_appeal 139 = .ok (.aload_n 2, 1) := by decide +kernel
theorem dX7_appeal_140 : decode cX7_appeal 140 = .ok (.getfield 334, 3) := by decide +kernel
theorem dX7_appeal_143 : decode cX7_appeal 143 = .ok (.putfield 337, 3) := by decide +kernel
theorem dX7_appeal_146 : decode cX7_appeal 146 = .ok (.iload 4, 2) := by decide +kernel
theorem dX7_appeal_148 : decode cX7_appeal 148 = .ok (.ireturn, 1) := by decide +kernel
theorem dX7_execute_0 : decode cX7_execute 0 = .ok (.aload_n 0, 1) := by decide +kernel
theorem dX7_execute_1 : decode cX7_execute 1 = .ok (.iload_n 1, 1) := by decide +kernel
theorem dX7_execute_2 : decode cX7_execute 2 = .ok (.invokevirtual 291, 3) := by decide +kernel
theorem dX7_execute_5 : decode cX7_execute 5 = .ok (.astore_n 2, 1) := by decide +kernel
theorem dX7_execute_6 : decode cX7_execute 6 = .ok (.aload_n 2, 1) := by decide +kernel
theorem dX7_execute_7 : decode cX7_execute 7 = .ok (.getfield 287, 3) := by decide +kernel
theorem dX7_execute_10 : decode cX7_execute 10 = .ok (.iconst 2, 1) := by decide +kernel
theorem dX7_execute_11 : decode cX7_execute 11 = .ok (.if_icmp .ne 10, 3) := by decide +kernel
theorem dX7_execute_14 : decode cX7_execute 14 = .ok (.aload_n 2, 1) := by decide +kernel
theorem dX7_execute_15 : decode cX7_execute 15 = .ok (.getfield 337, 3) := by decide +kernel
theorem dX7_execute_18 : decode cX7_execute 18 = .ok (.ifCond .ne 14, 3) := by decide +kernel
theorem dX7_execute_21 : decode cX7_execute 21 = .ok (.new 62, 3) := by decide +kernel
theorem dX7_execute_24 : decode cX7_execute 24 = .ok (.dup, 1) := by decide +kernel
theorem dX7_execute_25 : decode cX7_execute 25 = .ok (.ldc_w 353, 3) := by decide +kernel
theorem dX7_execute_28 : decode cX7_execute 28 = .ok (.invokespecial 66, 3) := by decide +kernel
theorem dX7_execute_31 : decode cX7_execute 31 = .ok (.athrow, 1) := by decide +kernel
theorem dX7_execute_32 : decode cX7_execute 32 = .ok (.aload_n 2, 1) := by decide +kernel
theorem dX7_execute_33 : decode cX7_execute 33 = .ok (.invokevirtual 355, 3) := by decide +kernel
theorem dX7_execute_36 : decode cX7_execute 36 = .ok (.ifCond .ne 14, 3) := by decide +kernel
theorem dX7_execute_39 : decode cX7_execute 39 = .ok (.new 62, 3) := by decide +kernel
theorem dX7_execute_42 : decode cX7_execute 42 = .ok (.dup, 1) := by decide +kernel
theorem dX7_execute_43 : decode cX7_execute 43 = .ok (.ldc_w 358, 3) := by decide +kernel
theorem dX7_execute_46 : decode cX7_execute 46 = .ok (.invokespecial 66, 3) := by decide +kernel
theorem dX7_execute_49 : decode cX7_execute 49 = .ok (.athrow, 1) := by decide +kernel
theorem dX7_execute_50 : decode cX7_execute 50 = .ok (.aload_n 2, 1) := by decide +kernel
theorem dX7_execute_51 : decode cX7_execute 51 = .ok (.getfield 299, 3) := by decide +kernel
theorem dX7_execute_54 : decode cX7_execute 54 = .ok (.aload_n 2, 1) := by decide +kernel
theorem dX7_execute_55 : decode cX7_execute 55 = .ok (.getfield 337, 3) := by decide +kernel
theorem dX7_execute_58 : decode cX7_execute 58 = .ok (.aload_n 2, 1) := by decide +kernel
theorem dX7_execute_59 : decode cX7_execute 59 = .ok (.getfield 360, 3) := by decide +kernel
theorem dX7_execute_62 : decode cX7_execute 62 = .ok (.invokevirtual 363, 3) := by decide +kernel
theorem dX7_execute_65 : decode cX7_execute 65 = .ok (.istore_n 3, 1) := by decide +kernel
theorem dX7_execute_66 : decode cX7_execute 66 = .ok (.aload_n 2, 1) := by decide +kernel
theorem dX7_execute_67 : decode cX7_execute 67 = .ok (.dup, 1) := by decide +kernel
theorem dX7_execute_68 : decode cX7_execute 68 = .ok (.getfield 337, 3) := by decide +kernel
theorem dX7_execute_71 : decode cX7_execute 71 = .ok (.iload_n 3, 1) := by decide +kernel
theorem dX7_execute_72 : decode cX7_execute 72 = .ok (.isub, 1) := by decide +kernel
theorem dX7_execute_73 : decode cX7_execute 73 = .ok (.putfield 337, 3) := by decide +kernel
theorem dX7_execute_76 : decode cX7_execute 76 = .ok (.iload_n 3, 1) := by decide +kernel
theorem dX7_execute_77 : decode cX7_execute 77 = .ok (.i2l, 1) := by decide +kernel
theorem dX7_execute_78 : decode cX7_execute 78 = .ok (.lreturn, 1) := by decide +kernel
theorem dX7_wins_0 : decode cX7_wins 0 = .ok (.aload_n 0, 1) := by decide +kernel
theorem dX7_wins_1 : decode cX7_wins 1 = .ok (.iload_n 1, 1) := by decide +kernel
theorem dX7_wins_2 : decode cX7_wins 2 = .ok (.invokevirtual 291, 3) := by decide +kernel
theorem dX7_wins_5 : decode cX7_wins 5 = .ok (.astore_n 3, 1) := by decide +kernel
theorem dX7_wins_6 : decode cX7_wins 6 = .ok (.aload_n 0, 1) := by decide +kernel
theorem dX7_wins_7 : decode cX7_wins 7 = .ok (.aload_n 3, 1) := by decide +kernel
theorem dX7_wins_8 : decode cX7_wins 8 = .ok (.aload_n 0, 1) := by decide +kernel
theorem dX7_wins_9 : decode cX7_wins 9 = .ok (.iload_n 2, 1) := by decide +kernel
theorem dX7_wins_10 : decode cX7_wins 10 = .ok (.invokevirtual 95, 3) := by decide +kernel
theorem dX7_wins_13 : decode cX7_wins 13 = .ok (.invokevirtual 326, 3) := by decide +kernel
theorem dX7_wins_16 : decode cX7_wins 16 = .ok (.ireturn, 1) := by decide +kernel
theorem dX7_ofPerson_0 : decode cX7_ofPerson 0 = .ok (.aload_n 0, 1) := by decide +kernel
theorem dX7_ofPerson_1 : decode cX7_ofPerson 1 = .ok (.iload_n 1, 1) := by decide +kernel
theorem dX7_ofPerson_2 : decode cX7_ofPerson 2 = .ok (.invokevirtual 123, 3) := by decide +kernel
theorem dX7_ofPerson_5 : decode cX7_ofPerson 5 = .ok (.astore_n 3, 1) := by decide +kernel
theorem dX7_ofPerson_6 : decode cX7_ofPerson 6 = .ok (.iload_n 2, 1) := by decide +kernel
theorem dX7_ofPerson_7 : decode cX7_ofPerson 7 = .ok (.tableswitch 82 0 5 #[37, 42, 55, 62, 68, 75], 37) := by decide +kernel
theorem dX7_ofPerson_44 : decode cX7_ofPerson 44 = .ok (.aload_n 3, 1) := by decide +kernel
theorem dX7_ofPerson_45 : decode cX7_ofPerson 45 = .ok (.getfield 256, 3) := by decide +kernel
theorem dX7_ofPerson_48 : decode cX7_ofPerson 48 = .ok (.lreturn, 1) := by decide +kernel
theorem dX7_ofPerson_49 : decode cX7_ofPerson 49 = .ok (.aload_n 3, 1) := by decide +kernel
theorem dX7_ofPerson_50 : decode cX7_ofPerson 50 = .ok (.getfield 251, 3) := by decide +kernel
theorem dX7_ofPerson_53 : decode cX7_ofPerson 53 = .ok (.ifCond .eq 7, 3) := by decide +kernel
theorem dX7_ofPerson_56 : decode cX7_ofPerson 56 = .ok (.lconst 1, 1) := by decide +kernel
theorem dX7_ofPerson_57 : decode cX7_ofPerson 57 = .ok (.goto 4, 3) := by decide +kernel
theorem dX7_ofPerson_60 : decode cX7_ofPerson 60 = .ok (.lconst 0, 1) := by decide +kernel
theorem dX7_ofPerson_61 : decode cX7_ofPerson 61 = .ok (.lreturn, 1) := by decide +kernel
theorem dX7_ofPerson_62 : decode cX7_ofPerson 62 = .ok (.aload_n 0, 1) := by decide +kernel
theorem dX7_ofPerson_63 : decode cX7_ofPerson 63 = .ok (.aload_n 3, 1) := by decide +kernel
theorem dX7_ofPerson_64 : decode cX7_ofPerson 64 = .ok (.invokevirtual 367, 3) := by decide +kernel
theorem dX7_ofPerson_67 : decode cX7_ofPerson 67 = .ok (.i2l, 1) := by decide +kernel
theorem dX7_ofPerson_68 : decode cX7_ofPerson 68 = .ok (.lreturn, 1) := by decide +kernel
theorem dX7_ofPerson_69 : decode cX7_ofPerson 69 = .ok (.aload_n 3, 1) := by decide +kernel
theorem dX7_ofPerson_70 : decode cX7_ofPerson 70 = .ok (.getfield 190, 3) := by decide +kernel
theorem dX7_ofPerson_73 : decode cX7_ofPerson 73 = .ok (.i2l, 1) := by decide +kernel
theorem dX7_ofPerson_74 : decode cX7_ofPerson 74 = .ok (.lreturn, 1) := by decide +kernel
theorem dX7_ofPerson_75 : decode cX7_ofPerson 75 = .ok (.aload_n 0, 1) := by decide +kernel
theorem dX7_ofPerson_76 : decode cX7_ofPerson 76 = .ok (.aload_n 3, 1) := by decide +kernel
theorem dX7_ofPerson_77 : decode cX7_ofPerson 77 = .ok (.invokevirtual 371, 3) := by decide +kernel
theorem dX7_ofPerson_80 : decode cX7_ofPerson 80 = .ok (.i2l, 1) := by decide +kernel
theorem dX7_ofPerson_81 : decode cX7_ofPerson 81 = .ok (.lreturn, 1) := by decide +kernel
theorem dX7_ofPerson_82 : decode cX7_ofPerson 82 = .ok (.aload_n 0, 1) := by decide +kernel
theorem dX7_ofPerson_83 : decode cX7_ofPerson 83 = .ok (.aload_n 3, 1) := by decide +kernel
theorem dX7_ofPerson_84 : decode cX7_ofPerson 84 = .ok (.invokevirtual 374, 3) := by decide +kernel
theorem dX7_ofPerson_87 : decode cX7_ofPerson 87 = .ok (.i2l, 1) := by decide +kernel
theorem dX7_ofPerson_88 : decode cX7_ofPerson 88 = .ok (.lreturn, 1) := by decide +kernel
theorem dX7_ofPerson_89 : decode cX7_ofPerson 89 = .ok (.new 148, 3) := by decide +kernel
theorem dX7_ofPerson_92 : decode cX7_ofPerson 92 = .ok (.dup, 1) := by decide +kernel
theorem dX7_ofPerson_93 : decode cX7_ofPerson 93 = .ok (.ldc_w 377, 3) := by decide +kernel
theorem dX7_ofPerson_96 : decode cX7_ofPerson 96 = .ok (.invokespecial 152, 3) := by decide +kernel
theorem dX7_ofPerson_99 : decode cX7_ofPerson 99 = .ok (.athrow, 1) := by decide +kernel
theorem dX7_ofMarriage_0 : decode cX7_ofMarriage 0 = .ok (.aload_n 0, 1) := by decide +kernel
theorem dX7_ofMarriage_1 : decode cX7_ofMarriage 1 = .ok (.iload_n 1, 1) := by decide +kernel
theorem dX7_ofMarriage_2 : decode cX7_ofMarriage 2 = .ok (.invokevirtual 222, 3) := by decide +kernel
theorem dX7_ofMarriage_5 : decode cX7_ofMarriage 5 = .ok (.astore_n 3, 1) := by decide +kernel
theorem dX7_ofMarriage_6 : decode cX7_ofMarriage 6 = .ok (.iload_n 2, 1) := by decide +kernel
theorem dX7_ofMarriage_7 : decode cX7_ofMarriage 7 = .ok (.tableswitch 64 0 4 #[33, 38, 46, 54, 59], 33) := by decide +kernel
theorem dX7_ofMarriage_40 : decode cX7_ofMarriage 40 = .ok (.aload_n 3, 1) := by decide +kernel
theorem dX7_ofMarriage_41 : decode cX7_ofMarriage 41 = .ok (.getfield 226, 3) := by decide +kernel
theorem dX7_ofMarriage_44 : decode cX7_ofMarriage 44 = .ok (.ireturn, 1) := by decide +kernel
theorem dX7_ofMarriage_45 : decode cX7_ofMarriage 45 = .ok (.aload_n 3, 1) := by decide +kernel
theorem dX7_ofMarriage_46 : decode cX7_ofMarriage 46 = .ok (.getfield 237, 3) := by decide +kernel
theorem dX7_ofMarriage_49 : decode cX7_ofMarriage 49 = .ok (.getfield 379, 3) := by decide +kernel
theorem dX7_ofMarriage_52 : decode cX7_ofMarriage 52 = .ok (.ireturn, 1) := by decide +kernel
theorem dX7_ofMarriage_53 : decode cX7_ofMarriage 53 = .ok (.aload_n 3, 1) := by decide +kernel
theorem dX7_ofMarriage_54 : decode cX7_ofMarriage 54 = .ok (.getfield 241, 3) := by decide +kernel
theorem dX7_ofMarriage_57 : decode cX7_ofMarriage 57 = .ok (.getfield 379, 3) := by decide +kernel
theorem dX7_ofMarriage_60 : decode cX7_ofMarriage 60 = .ok (.ireturn, 1) := by decide +kernel
theorem dX7_ofMarriage_61 : decode cX7_ofMarriage 61 = .ok (.aload_n 3, 1) := by decide +kernel
theorem dX7_ofMarriage_62 : decode cX7_ofMarriage 62 = .ok (.getfield 382, 3) := by decide +kernel
theorem dX7_ofMarriage_65 : decode cX7_ofMarriage 65 = .ok (.ireturn, 1) := by decide +kernel
theorem dX7_ofMarriage_66 : decode cX7_ofMarriage 66 = .ok (.aload_n 3, 1) := by decide +kernel
theorem dX7_ofMarriage_67 : decode cX7_ofMarriage 67 = .ok (.getfield 383, 3) := by decide +kernel
theorem dX7_ofMarriage_70 : decode cX7_ofMarriage 70 = .ok (.ireturn, 1) := by decide +kernel
theorem dX7_ofMarriage_71 : decode cX7_ofMarriage 71 = .ok (.new 148, 3) := by decide +kernel
theorem dX7_ofMarriage_74 : decode cX7_ofMarriage 74 = .ok (.dup, 1) := by decide +kernel
theorem dX7_ofMarriage_75 : decode cX7_ofMarriage 75 = .ok (.ldc_w 377, 3) := by decide +kernel
theorem dX7_ofMarriage_78 : decode cX7_ofMarriage 78 = .ok (.invokespecial 152, 3) := by decide +kernel
theorem dX7_ofMarriage_81 : decode cX7_ofMarriage 81 = .ok (.athrow, 1) := by decide +kernel
theorem dX7_ofSuit_0 : decode cX7_ofSuit 0 = .ok (.aload_n 0, 1) := by decide +kernel
theorem dX7_ofSuit_1 : decode cX7_ofSuit 1 = .ok (.iload_n 1, 1) := by decide +kernel
theorem dX7_ofSuit_2 : decode cX7_ofSuit 2 = .ok (.invokevirtual 291, 3) := by decide +kernel
theorem dX7_ofSuit_5 : decode cX7_ofSuit 5 = .ok (.astore_n 3, 1) := by decide +kernel
theorem dX7_ofSuit_6 : decode cX7_ofSuit 6 = .ok (.iload_n 2, 1) := by decide +kernel
theorem dX7_ofSuit_7 : decode cX7_ofSuit 7 = .ok (.tableswitch 61 0 4 #[33, 38, 43, 51, 56], 33) := by decide +kernel
theorem dX7_ofSuit_40 : decode cX7_ofSuit 40 = .ok (.aload_n 3, 1) := by decide +kernel
theorem dX7_ofSuit_41 : decode cX7_ofSuit 41 = .ok (.getfield 287, 3) := by decide +kernel
theorem dX7_ofSuit_44 : decode cX7_ofSuit 44 = .ok (.ireturn, 1) := by decide +kernel
theorem dX7_ofSuit_45 : decode cX7_ofSuit 45 = .ok (.aload_n 3, 1) := by decide +kernel
theorem dX7_ofSuit_46 : decode cX7_ofSuit 46 = .ok (.getfield 323, 3) := by decide +kernel
theorem dX7_ofSuit_49 : decode cX7_ofSuit 49 = .ok (.ireturn, 1) := by decide +kernel
theorem dX7_ofSuit_50 : decode cX7_ofSuit 50 = .ok (.aload_n 3, 1) := by decide +kernel
theorem dX7_ofSuit_51 : decode cX7_ofSuit 51 = .ok (.getfield 313, 3) := by decide +kernel
theorem dX7_ofSuit_54 : decode cX7_ofSuit 54 = .ok (.invokevirtual 58, 3) := by decide +kernel
theorem dX7_ofSuit_57 : decode cX7_ofSuit 57 = .ok (.ireturn, 1) := by decide +kernel
theorem dX7_ofSuit_58 : decode cX7_ofSuit 58 = .ok (.aload_n 3, 1) := by decide +kernel
theorem dX7_ofSuit_59 : decode cX7_ofSuit 59 = .ok (.getfield 337, 3) := by decide +kernel
theorem dX7_ofSuit_62 : decode cX7_ofSuit 62 = .ok (.ireturn, 1) := by decide +kernel
theorem dX7_ofSuit_63 : decode cX7_ofSuit 63 = .ok (.aload_n 3, 1) := by decide +kernel
theorem dX7_ofSuit_64 : decode cX7_ofSuit 64 = .ok (.getfield 345, 3) := by decide +kernel
theorem dX7_ofSuit_67 : decode cX7_ofSuit 67 = .ok (.ireturn, 1) := by decide +kernel
theorem dX7_ofSuit_68 : decode cX7_ofSuit 68 = .ok (.new 148, 3) := by decide +kernel
theorem dX7_ofSuit_71 : decode cX7_ofSuit 71 = .ok (.dup, 1) := by decide +kernel
theorem dX7_ofSuit_72 : decode cX7_ofSuit 72 = .ok (.ldc_w 377, 3) := by decide +kernel
theorem dX7_ofSuit_75 : decode cX7_ofSuit 75 = .ok (.invokespecial 152, 3) := by decide +kernel
theorem dX7_ofSuit_78 : decode cX7_ofSuit 78 = .ok (.athrow, 1) := by decide +kernel
theorem dX7_treasury_0 : decode cX7_treasury 0 = .ok (.aload_n 0, 1) := by decide +kernel
theorem dX7_treasury_1 : decode cX7_treasury 1 = .ok (.getfield 54, 3) := by decide +kernel
theorem dX7_treasury_4 : decode cX7_treasury 4 = .ok (.lreturn, 1) := by decide +kernel
theorem dX7_all_0 : decode cX7_all 0 = .ok (.aload_n 0, 1) := by decide +kernel
theorem dX7_all_1 : decode cX7_all 1 = .ok (.getfield 54, 3) := by decide +kernel
theorem dX7_all_4 : decode cX7_all 4 = .ok (.lstore_n 1, 1) := by decide +kernel
theorem dX7_all_5 : decode cX7_all 5 = .ok (.iconst 0, 1) := by decide +kernel
theorem dX7_all_6 : decode cX7_all 6 = .ok (.istore_n 3, 1) := by decide +kernel
theorem dX7_all_7 : decode cX7_all 7 = .ok (.iload_n 3, 1) := by decide +kernel
theorem dX7_all_8 : decode cX7_all 8 = .ok (.aload_n 0, 1) := by decide +kernel
theorem dX7_all_9 : decode cX7_all 9 = .ok (.getfield 35, 3) := by decide +kernel
theorem dX7_all_12 : decode cX7_all 12 = .ok (.invokevirtual 58, 3) := by decide +kernel
theorem dX7_all_15 : decode cX7_all 15 = .ok (.if_icmp .ge 26, 3) := by decide +kernel
theorem dX7_all_18 : decode cX7_all 18 = .ok (.lload_n 1, 1) := by decide +kernel
theorem dX7_all_19 : decode cX7_all 19 = .ok (.aload_n 0, 1) := by decide +kernel
theorem dX7_all_20 : decode cX7_all 20 = .ok (.getfield 35, 3) := by decide +kernel
theorem dX7_all_23 : decode cX7_all 23 = .ok (.iload_n 3, 1) := by decide +kernel
theorem dX7_all_24 : decode cX7_all 24 = .ok (.invokevirtual 384, 3) := by decide +kernel
theorem dX7_all_27 : decode cX7_all 27 = .ok (.checkcast 128, 3) := by decide +kernel
theorem dX7_all_30 : decode cX7_all 30 = .ok (.getfield 256, 3) := by decide +kernel
theorem dX7_all_33 : decode cX7_all 33 = .ok (.ladd, 1) := by decide +kernel
theorem dX7_all_34 : decode cX7_all 34 = .ok (.lstore_n 1, 1) := by decide +kernel
theorem dX7_all_35 : decode cX7_all 35 = .ok (.iinc 3 1, 3) := by decide +kernel
theorem dX7_all_38 : decode cX7_all 38 = .ok (.goto (-31), 3) := by decide +kernel
theorem dX7_all_41 : decode cX7_all 41 = .ok (.lload_n 1, 1) := by decide +kernel
theorem dX7_all_42 : decode cX7_all 42 = .ok (.lreturn, 1) := by decide +kernel
theorem dX7_pass_0 : decode cX7_pass 0 = .ok (.iload_n 1, 1) := by decide +kernel
theorem dX7_pass_1 : decode cX7_pass 1 = .ok (.iconst 1, 1) := by decide +kernel
theorem dX7_pass_2 : decode cX7_pass 2 = .ok (.sipush 2000, 3) := by decide +kernel
theorem dX7_pass_5 : decode cX7_pass 5 = .ok (.invokestatic 102, 3) := by decide +kernel
theorem dX7_pass_8 : decode cX7_pass 8 = .ok (.iload_n 1, 1) := by decide +kernel
theorem dX7_pass_9 : decode cX7_pass 9 = .ok (.sipush 30000, 3) := by decide +kernel
theorem dX7_pass_12 : decode cX7_pass 12 = .ok (.aload_n 0, 1) := by decide +kernel
theorem dX7_pass_13 : decode cX7_pass 13 = .ok (.getfield 51, 3) := by decide +kernel
theorem dX7_pass_16 : decode cX7_pass 16 = .ok (.isub, 1) := by decide +kernel
theorem dX7_pass_17 : decode cX7_pass 17 = .ok (.if_icmp .le 14, 3) := by decide +kernel
theorem dX7_pass_20 : decode cX7_pass 20 = .ok (.new 62, 3) := by decide +kernel
theorem dX7_pass_23 : decode cX7_pass 23 = .ok (.dup, 1) := by decide +kernel
theorem dX7_pass_24 : decode cX7_pass 24 = .ok (.ldc_w 388, 3) := by decide +kernel
theorem dX7_pass_27 : decode cX7_pass 27 = .ok (.invokespecial 66, 3) := by decide +kernel
theorem dX7_pass_30 : decode cX7_pass 30 = .ok (.athrow, 1) := by decide +kernel
theorem dX7_pass_31 : decode cX7_pass 31 = .ok (.iconst 0, 1) := by decide +kernel
theorem dX7_pass_32 : decode cX7_pass 32 = .ok (.istore_n 2, 1) := by decide +kernel
theorem dX7_pass_33 : decode cX7_pass 33 = .ok (.iload_n 2, 1) := by decide +kernel
theorem dX7_pass_34 : decode cX7_pass 34 = .ok (.iload_n 1, 1) := by decide +kernel
theorem dX7_pass_35 : decode cX7_pass 35 = .ok (.if_icmp .ge 23, 3) := by decide +kernel
theorem dX7_pass_38 : decode cX7_pass 38 = .ok (.aload_n 0, 1) := by decide +kernel
theorem dX7_pass_39 : decode cX7_pass 39 = .ok (.dup, 1) := by decide +kernel
theorem dX7_pass_40 : decode cX7_pass 40 = .ok (.getfield 51, 3) := by decide +kernel
theorem dX7_pass_43 : decode cX7_pass 43 = .ok (.iconst 1, 1) := by decide +kernel
theorem dX7_pass_44 : decode cX7_pass 44 = .ok (.iadd, 1) := by decide +kernel
theorem dX7_pass_45 : decode cX7_pass 45 = .ok (.putfield 51, 3) := by decide +kernel
theorem dX7_pass_48 : decode cX7_pass 48 = .ok (.aload_n 0, 1) := by decide +kernel
theorem dX7_pass_49 : decode cX7_pass 49 = .ok (.invokevirtual 390, 3) := by decide +kernel
theorem dX7_pass_52 : decode cX7_pass 52 = .ok (.iinc 2 1, 3) := by decide +kernel
theorem dX7_pass_55 : decode cX7_pass 55 = .ok (.goto (-22), 3) := by decide +kernel
theorem dX7_pass_58 : decode cX7_pass 58 = .ok (.aload_n 0, 1) := by decide +kernel
theorem dX7_pass_59 : decode cX7_pass 59 = .ok (.getfield 51, 3) := by decide +kernel
theorem dX7_pass_62 : decode cX7_pass 62 = .ok (.ireturn, 1) := by decide +kernel
theorem dX7_needWithin_0 : decode cX7_needWithin 0 = .ok (.iload_n 0, 1) := by decide +kernel
theorem dX7_needWithin_1 : decode cX7_needWithin 1 = .ok (.iload_n 1, 1) := by decide +kernel
theorem dX7_needWithin_2 : decode cX7_needWithin 2 = .ok (.if_icmp .lt 8, 3) := by decide +kernel
theorem dX7_needWithin_5 : decode cX7_needWithin 5 = .ok (.iload_n 0, 1) := by decide +kernel
theorem dX7_needWithin_6 : decode cX7_needWithin 6 = .ok (.iload_n 2, 1) := by decide +kernel
theorem dX7_needWithin_7 : decode cX7_needWithin 7 = .ok (.if_icmp .le 14, 3) := by decide +kernel
theorem dX7_needWithin_10 : decode cX7_needWithin 10 = .ok (.new 148, 3) := by decide +kernel
theorem dX7_needWithin_13 : decode cX7_needWithin 13 = .ok (.dup, 1) := by decide +kernel
theorem dX7_needWithin_14 : decode cX7_needWithin 14 = .ok (.ldc_w 393, 3) := by decide +kernel
theorem dX7_needWithin_17 : decode cX7_needWithin 17 = .ok (.invokespecial 152, 3) := by decide +kernel
theorem dX7_needWithin_20 : decode cX7_needWithin 20 = .ok (.athrow, 1) := by decide +kernel
theorem dX7_needWithin_21 : decode cX7_needWithin 21 = .ok (.return_, 1) := by decide +kernel
theorem dX7_communityAt_0 : decode cX7_communityAt 0 = .ok (.iload_n 1, 1) := by decide +kernel
theorem dX7_communityAt_1 : decode cX7_communityAt 1 = .ok (.ifCond .lt 14, 3) := by decide +kernel
theorem dX7_communityAt_4 : decode cX7_communityAt 4 = .ok (.iload_n 1, 1) := by decide +kernel
theorem dX7_communityAt_5 : decode cX7_communityAt 5 = .ok (.aload_n 0, 1) := by decide +kernel
theorem dX7_communityAt_6 : decode cX7_communityAt 6 = .ok (.getfield 19, 3) := by decide +kernel
theorem dX7_communityAt_9 : decode cX7_communityAt 9 = .ok (.invokevirtual 58, 3) := by decide +kernel
theorem dX7_communityAt_12 : decode cX7_communityAt 12 = .ok (.if_icmp .lt 14, 3) := by decide +kernel
theorem dX7_communityAt_15 : decode cX7_communityAt 15 = .ok (.new 395, 3) := by decide +kernel
theorem dX7_communityAt_18 : decode cX7_communityAt 18 = .ok (.dup, 1) := by decide +kernel
theorem dX7_communityAt_19 : decode cX7_communityAt 19 = .ok (.ldc_w 397, 3) := by decide +kernel
theorem dX7_communityAt_22 : decode cX7_communityAt 22 = .ok (.invokespecial 399, 3) := by decide +kernel
theorem dX7_communityAt_25 : decode cX7_communityAt 25 = .ok (.athrow, 1) := by decide +kernel
theorem dX7_communityAt_26 : decode cX7_communityAt 26 = .ok (.aload_n 0, 1) := by decide +kernel
theorem dX7_communityAt_27 : decode cX7_communityAt 27 = .ok (.getfield 19, 3) := by decide +kernel
theorem dX7_communityAt_30 : decode cX7_communityAt 30 = .ok (.iload_n 1, 1) := by decide +kernel
theorem dX7_communityAt_31 : decode cX7_communityAt 31 = .ok (.invokevirtual 384, 3) := by decide +kernel
theorem dX7_communityAt_34 : decode cX7_communityAt 34 = .ok (.checkcast 69, 3) := by decide +kernel
theorem dX7_communityAt_37 : decode cX7_communityAt 37 = .ok (.areturn, 1) := by decide +kernel
theorem dX7_lawAt_0 : decode cX7_lawAt 0 = .ok (.iload_n 1, 1) := by decide +kernel
theorem dX7_lawAt_1 : decode cX7_lawAt 1 = .ok (.iconst (-1), 1) := by decide +kernel
theorem dX7_lawAt_2 : decode cX7_lawAt 2 = .ok (.if_icmp .ne 10, 3) := by decide +kernel
theorem dX7_lawAt_5 : decode cX7_lawAt 5 = .ok (.aload_n 0, 1) := by decide +kernel
theorem dX7_lawAt_6 : decode cX7_lawAt 6 = .ok (.getfield 10, 3) := by decide +kernel
theorem dX7_lawAt_9 : decode cX7_lawAt 9 = .ok (.goto 11, 3) := by decide +kernel
theorem dX7_lawAt_12 : decode cX7_lawAt 12 = .ok (.aload_n 0, 1) := by decide +kernel
theorem dX7_lawAt_13 : decode cX7_lawAt 13 = .ok (.iload_n 1, 1) := by decide +kernel
theorem dX7_lawAt_14 : decode cX7_lawAt 14 = .ok (.invokevirtual 78, 3) := by decide +kernel
theorem dX7_lawAt_17 : decode cX7_lawAt 17 = .ok (.getfield 400, 3) := by decide +kernel
theorem dX7_lawAt_20 : decode cX7_lawAt 20 = .ok (.areturn, 1) := by decide +kernel
theorem dX7_personAt_0 : decode cX7_personAt 0 = .ok (.iload_n 1, 1) := by decide +kernel
theorem dX7_personAt_1 : decode cX7_personAt 1 = .ok (.ifCond .lt 14, 3) := by decide +kernel
theorem dX7_personAt_4 : decode cX7_personAt 4 = .ok (.iload_n 1, 1) := by decide +kernel
theorem dX7_personAt_5 : decode cX7_personAt 5 = .ok (.aload_n 0, 1) := by decide +kernel
theorem dX7_personAt_6 : decode cX7_personAt 6 = .ok (.getfield 35, 3) := by decide +kernel
theorem dX7_personAt_9 : decode cX7_personAt 9 = .ok (.invokevirtual 58, 3) := by decide +kernel
theorem dX7_personAt_12 : decode cX7_personAt 12 = .ok (.if_icmp .lt 14, 3) := by decide +kernel
theorem dX7_personAt_15 : decode cX7_personAt 15 = .ok (.new 395, 3) := by decide +kernel
theorem dX7_personAt_18 : decode cX7_personAt 18 = .ok (.dup, 1) := by decide +kernel
theorem dX7_personAt_19 : decode cX7_personAt 19 = .ok (.ldc_w 403, 3) := by decide +kernel
theorem dX7_personAt_22 : decode cX7_personAt 22 = .ok (.invokespecial 399, 3) := by decide +kernel
theorem dX7_personAt_25 : decode cX7_personAt 25 = .ok (.athrow, 1) := by decide +kernel
theorem dX7_personAt_26 : decode cX7_personAt 26 = .ok (.aload_n 0, 1) := by decide +kernel
theorem dX7_personAt_27 : decode cX7_personAt 27 = .ok (.getfield 35, 3) := by decide +kernel
theorem dX7_personAt_30 : decode cX7_personAt 30 = .ok (.iload_n 1, 1) := by decide +kernel
theorem dX7_personAt_31 : decode cX7_personAt 31 = .ok (.invokevirtual 384, 3) := by decide +kernel
theorem dX7_personAt_34 : decode cX7_personAt 34 = .ok (.checkcast 128, 3) := by decide +kernel
theorem dX7_personAt_37 : decode cX7_personAt 37 = .ok (.areturn, 1) := by decide +kernel
theorem dX7_personOrNullAt_0 : decode cX7_personOrNullAt 0 = .ok (.iload_n 1, 1) := by decide +kernel
theorem dX7_personOrNullAt_1 : decode cX7_personOrNullAt 1 = .ok (.iconst (-1), 1) := by decide +kernel
theorem dX7_personOrNullAt_2 : decode cX7_personOrNullAt 2 = .ok (.if_icmp .ne 7, 3) := by decide +kernel
theorem dX7_personOrNullAt_5 : decode cX7_personOrNullAt 5 = .ok (.aconst_null, 1) := by decide +kernel
theorem dX7_personOrNullAt_6 : decode cX7_personOrNullAt 6 = .ok (.goto 8, 3) := by decide +kernel
theorem dX7_personOrNullAt_9 : decode cX7_personOrNullAt 9 = .ok (.aload_n 0, 1) := by decide +kernel
theorem dX7_personOrNullAt_10 : decode cX7_personOrNullAt 10 = .ok (.iload_n 1, 1) := by decide +kernel
theorem dX7_personOrNullAt_11 : decode cX7_personOrNullAt 11 = .ok (.invokevirtual 123, 3) := by decide +kernel
theorem dX7_personOrNullAt_14 : decode cX7_personOrNullAt 14 = .ok (.areturn, 1) := by decide +kernel
theorem dX7_marriageAt_0 : decode cX7_marriageAt 0 = .ok (.iload_n 1, 1) := by decide +kernel
theorem dX7_marriageAt_1 : decode cX7_marriageAt 1 = .ok (.ifCond .lt 14, 3) := by decide +kernel
theorem dX7_marriageAt_4 : decode cX7_marriageAt 4 = .ok (.iload_n 1, 1) := by decide +kernel
theorem dX7_marriageAt_5 : decode cX7_marriageAt 5 = .ok (.aload_n 0, 1) := by decide +kernel
theorem dX7_marriageAt_6 : decode cX7_marriageAt 6 = .ok (.getfield 38, 3) := by decide +kernel
theorem dX7_marriageAt_9 : decode cX7_marriageAt 9 = .ok (.invokevirtual 58, 3) := by decide +kernel
theorem dX7_marriageAt_12 : decode cX7_marriageAt 12 = .ok (.if_icmp .lt 14, 3) := by decide +kernel
theorem dX7_marriageAt_15 : decode cX7_marriageAt 15 = .ok (.new 395, 3) := by decide +kernel
theorem dX7_marriageAt_18 : decode cX7_marriageAt 18 = .ok (.dup, 1) := by decide +kernel
theorem dX7_marriageAt_19 : decode cX7_marriageAt 19 = .ok (.ldc_w 405, 3) := by decide +kernel
theorem dX7_marriageAt_22 : decode cX7_marriageAt 22 = .ok (.invokespecial 399, 3) := by decide +kernel
theorem dX7_marriageAt_25 : decode cX7_marriageAt 25 = .ok (.athrow, 1) := by decide +kernel
theorem dX7_marriageAt_26 : decode cX7_marriageAt 26 = .ok (.aload_n 0, 1) := by decide +kernel
theorem dX7_marriageAt_27 : decode cX7_marriageAt 27 = .ok (.getfield 38, 3) := by decide +kernel
theorem dX7_marriageAt_30 : decode cX7_marriageAt 30 = .ok (.iload_n 1, 1) := by decide +kernel
theorem dX7_marriageAt_31 : decode cX7_marriageAt 31 = .ok (.invokevirtual 384, 3) := by decide +kernel
theorem dX7_marriageAt_34 : decode cX7_marriageAt 34 = .ok (.checkcast 217, 3) := by decide +kernel
theorem dX7_marriageAt_37 : decode cX7_marriageAt 37 = .ok (.areturn, 1) := by decide +kernel
theorem dX7_suitAt_0 : decode cX7_suitAt 0 = .ok (.iload_n 1, 1) := by decide +kernel
theorem dX7_suitAt_1 : decode cX7_suitAt 1 = .ok (.ifCond .lt 14, 3) := by decide +kernel
theorem dX7_suitAt_4 : decode cX7_suitAt 4 = .ok (.iload_n 1, 1) := by decide +kernel
theorem dX7_suitAt_5 : decode cX7_suitAt 5 = .ok (.aload_n 0, 1) := by decide +kernel
theorem dX7_suitAt_6 : decode cX7_suitAt 6 = .ok (.getfield 41, 3) := by decide +kernel
theorem dX7_suitAt_9 : decode cX7_suitAt 9 = .ok (.invokevirtual 58, 3) := by decide +kernel
theorem dX7_suitAt_12 : decode cX7_suitAt 12 = .ok (.if_icmp .lt 14, 3) := by decide +kernel
theorem dX7_suitAt_15 : decode cX7_suitAt 15 = .ok (.new 395, 3) := by decide +kernel
theorem dX7_suitAt_18 : decode cX7_suitAt 18 = .ok (.dup, 1) := by decide +kernel
theorem dX7_suitAt_19 : decode cX7_suitAt 19 = .ok (.ldc_w 407, 3) := by decide +kernel
theorem dX7_suitAt_22 : decode cX7_suitAt 22 = .ok (.invokespecial 399, 3) := by decide +kernel
theorem dX7_suitAt_25 : decode cX7_suitAt 25 = .ok (.athrow, 1) := by decide +kernel
theorem dX7_suitAt_26 : decode cX7_suitAt 26 = .ok (.aload_n 0, 1) := by decide +kernel
theorem dX7_suitAt_27 : decode cX7_suitAt 27 = .ok (.getfield 41, 3) := by decide +kernel
theorem dX7_suitAt_30 : decode cX7_suitAt 30 = .ok (.iload_n 1, 1) := by decide +kernel
theorem dX7_suitAt_31 : decode cX7_suitAt 31 = .ok (.invokevirtual 384, 3) := by decide +kernel
theorem dX7_suitAt_34 : decode cX7_suitAt 34 = .ok (.checkcast 280, 3) := by decide +kernel
theorem dX7_suitAt_37 : decode cX7_suitAt 37 = .ok (.areturn, 1) := by decide +kernel
theorem dX7_needSeised_0 : decode cX7_needSeised 0 = .ok (.aload_n 0, 1) := by decide +kernel
theorem dX7_needSeised_1 : decode cX7_needSeised 1 = .ok (.getfield 287, 3) := by decide +kernel
theorem dX7_needSeised_4 : decode cX7_needSeised 4 = .ok (.ifCond .eq 14, 3) := by decide +kernel
theorem dX7_needSeised_7 : decode cX7_needSeised 7 = .ok (.new 62, 3) := by decide +kernel
theorem dX7_needSeised_10 : decode cX7_needSeised 10 = .ok (.dup, 1) := by decide +kernel
theorem dX7_needSeised_11 : decode cX7_needSeised 11 = .ok (.ldc_w 409, 3) := by decide +kernel
theorem dX7_needSeised_14 : decode cX7_needSeised 14 = .ok (.invokespecial 66, 3) := by decide +kernel
theorem dX7_needSeised_17 : decode cX7_needSeised 17 = .ok (.athrow, 1) := by decide +kernel
theorem dX7_needSeised_18 : decode cX7_needSeised 18 = .ok (.return_, 1) := by decide +kernel
theorem dX7_chroniclesFrom_0 : decode cX7_chroniclesFrom 0 = .ok (.aload_n 0, 1) := by decide +kernel
theorem dX7_chroniclesFrom_1 : decode cX7_chroniclesFrom 1 = .ok (.arraylength, 1) := by decide +kernel
theorem dX7_chroniclesFrom_2 : decode cX7_chroniclesFrom 2 = .ok (.anewarray 87, 3) := by decide +kernel
theorem dX7_chroniclesFrom_5 : decode cX7_chroniclesFrom 5 = .ok (.astore_n 1, 1) := by decide +kernel
theorem dX7_chroniclesFrom_6 : decode cX7_chroniclesFrom 6 = .ok (.iconst 0, 1) := by decide +kernel
theorem dX7_chroniclesFrom_7 : decode cX7_chroniclesFrom 7 = .ok (.istore_n 2, 1) := by decide +kernel
theorem dX7_chroniclesFrom_8 : decode cX7_chroniclesFrom 8 = .ok (.iload_n 2, 1) := by decide +kernel
theorem dX7_chroniclesFrom_9 : decode cX7_chroniclesFrom 9 = .ok (.aload_n 0, 1) := by decide +kernel
theorem dX7_chroniclesFrom_10 : decode cX7_chroniclesFrom 10 = .ok (.arraylength, 1) := by decide +kernel
theorem dX7_chroniclesFrom_11 : decode cX7_chroniclesFrom 11 = .ok (.if_icmp .ge 23, 3) := by decide +kernel
theorem dX7_chroniclesFrom_14 : decode cX7_chroniclesFrom 14 = .ok (.aload_n 1, 1) := by decide +kernel
theorem dX7_chroniclesFrom_15 : decode cX7_chroniclesFrom 15 = .ok (.iload_n 2, 1) := by decide +kernel
theorem dX7_chroniclesFrom_16 : decode cX7_chroniclesFrom 16 = .ok (.new 87, 3) := by decide +kernel
theorem dX7_chroniclesFrom_19 : decode cX7_chroniclesFrom 19 = .ok (.dup, 1) := by decide +kernel
theorem dX7_chroniclesFrom_20 : decode cX7_chroniclesFrom 20 = .ok (.iconst 0, 1) := by decide +kernel
theorem dX7_chroniclesFrom_21 : decode cX7_chroniclesFrom 21 = .ok (.aload_n 0, 1) := by decide +kernel
theorem dX7_chroniclesFrom_22 : decode cX7_chroniclesFrom 22 = .ok (.iload_n 2, 1) := by decide +kernel
theorem dX7_chroniclesFrom_23 : decode cX7_chroniclesFrom 23 = .ok (.iaload, 1) := by decide +kernel
theorem dX7_chroniclesFrom_24 : decode cX7_chroniclesFrom 24 = .ok (.invokespecial 411, 3) := by decide +kernel
theorem dX7_chroniclesFrom_27 : decode cX7_chroniclesFrom 27 = .ok (.aastore, 1) := by decide +kernel
theorem dX7_chroniclesFrom_28 : decode cX7_chroniclesFrom 28 = .ok (.iinc 2 1, 3) := by decide +kernel
theorem dX7_chroniclesFrom_31 : decode cX7_chroniclesFrom 31 = .ok (.goto (-23), 3) := by decide +kernel
theorem dX7_chroniclesFrom_34 : decode cX7_chroniclesFrom 34 = .ok (.aload_n 1, 1) := by decide +kernel
theorem dX7_chroniclesFrom_35 : decode cX7_chroniclesFrom 35 = .ok (.areturn, 1) := by decide +kernel
theorem dX7_courtOf_0 : decode cX7_courtOf 0 = .ok (.aload_n 0, 1) := by decide +kernel
theorem dX7_courtOf_1 : decode cX7_courtOf 1 = .ok (.getfield 31, 3) := by decide +kernel
theorem dX7_courtOf_4 : decode cX7_courtOf 4 = .ok (.iload_n 1, 1) := by decide +kernel
theorem dX7_courtOf_5 : decode cX7_courtOf 5 = .ok (.aaload, 1) := by decide +kernel
theorem dX7_courtOf_6 : decode cX7_courtOf 6 = .ok (.iload 4, 2) := by decide +kernel
theorem dX7_courtOf_8 : decode cX7_courtOf 8 = .ok (.invokevirtual 201, 3) := by decide +kernel
theorem dX7_courtOf_11 : decode cX7_courtOf 11 = .ok (.aload_n 2, 1) := by decide +kernel
theorem dX7_courtOf_12 : decode cX7_courtOf 12 = .ok (.getfield 198, 3) := by decide +kernel
theorem dX7_courtOf_15 : decode cX7_courtOf 15 = .ok (.iload 4, 2) := by decide +kernel
theorem dX7_courtOf_17 : decode cX7_courtOf 17 = .ok (.invokevirtual 201, 3) := by decide +kernel
theorem dX7_courtOf_20 : decode cX7_courtOf 20 = .ok (.aload_n 3, 1) := by decide +kernel
theorem dX7_courtOf_21 : decode cX7_courtOf 21 = .ok (.getfield 198, 3) := by decide +kernel
theorem dX7_courtOf_24 : decode cX7_courtOf 24 = .ok (.iload 4, 2) := by decide +kernel
theorem dX7_courtOf_26 : decode cX7_courtOf 26 = .ok (.invokevirtual 201, 3) := by decide +kernel
theorem dX7_courtOf_29 : decode cX7_courtOf 29 = .ok (.invokestatic 413, 3) := by decide +kernel
theorem dX7_courtOf_32 : decode cX7_courtOf 32 = .ok (.istore 5, 2) := by decide +kernel
theorem dX7_courtOf_34 : decode cX7_courtOf 34 = .ok (.iload 5, 2) := by decide +kernel
theorem dX7_courtOf_36 : decode cX7_courtOf 36 = .ok (.iconst (-1), 1) := by decide +kernel
theorem dX7_courtOf_37 : decode cX7_courtOf 37 = .ok (.if_icmp .eq 20, 3) := by decide +kernel
theorem dX7_courtOf_40 : decode cX7_courtOf 40 = .ok (.aload_n 0, 1) := by decide +kernel
theorem dX7_courtOf_41 : decode cX7_courtOf 41 = .ok (.iload 5, 2) := by decide +kernel
theorem dX7_courtOf_43 : decode cX7_courtOf 43 = .ok (.invokevirtual 78, 3) := by decide +kernel
theorem dX7_courtOf_46 : decode cX7_courtOf 46 = .ok (.getfield 82, 3) := by decide +kernel
theorem dX7_courtOf_49 : decode cX7_courtOf 49 = .ok (.iload 4, 2) := by decide +kernel
theorem dX7_courtOf_51 : decode cX7_courtOf 51 = .ok (.invokevirtual 201, 3) := by decide +kernel
theorem dX7_courtOf_54 : decode cX7_courtOf 54 = .ok (.ifCond .ne 5, 3) := by decide +kernel
theorem dX7_courtOf_57 : decode cX7_courtOf 57 = .ok (.iconst (-1), 1) := by decide +kernel
theorem dX7_courtOf_58 : decode cX7_courtOf 58 = .ok (.ireturn, 1) := by decide +kernel
theorem dX7_courtOf_59 : decode cX7_courtOf 59 = .ok (.iload 5, 2) := by decide +kernel
theorem dX7_courtOf_61 : decode cX7_courtOf 61 = .ok (.ireturn, 1) := by decide +kernel
theorem dX7_faithThatRules_0 : decode cX7_faithThatRules 0 = .ok (.iload_n 0, 1) := by decide +kernel
theorem dX7_faithThatRules_1 : decode cX7_faithThatRules 1 = .ok (.tableswitch 42 0 2 #[27, 29, 31], 27) := by decide +kernel
theorem dX7_faithThatRules_28 : decode cX7_faithThatRules 28 = .ok (.iload_n 1, 1) := by decide +kernel
theorem dX7_faithThatRules_29 : decode cX7_faithThatRules 29 = .ok (.ireturn, 1) := by decide +kernel
theorem dX7_faithThatRules_30 : decode cX7_faithThatRules 30 = .ok (.iload_n 2, 1) := by decide +kernel
theorem dX7_faithThatRules_31 : decode cX7_faithThatRules 31 = .ok (.ireturn, 1) := by decide +kernel
theorem dX7_faithThatRules_32 : decode cX7_faithThatRules 32 = .ok (.iload_n 1, 1) := by decide +kernel
theorem dX7_faithThatRules_33 : decode cX7_faithThatRules 33 = .ok (.iload_n 2, 1) := by decide +kernel
theorem dX7_faithThatRules_34 : decode cX7_faithThatRules 34 = .ok (.if_icmp .ne 7, 3) := by decide +kernel
theorem dX7_faithThatRules_37 : decode cX7_faithThatRules 37 = .ok (.iload_n 1, 1) := by decide +kernel
theorem dX7_faithThatRules_38 : decode cX7_faithThatRules 38 = .ok (.goto 4, 3) := by decide +kernel
theorem dX7_faithThatRules_41 : decode cX7_faithThatRules 41 = .ok (.iconst (-1), 1) := by decide +kernel
theorem dX7_faithThatRules_42 : decode cX7_faithThatRules 42 = .ok (.ireturn, 1) := by decide +kernel
theorem dX7_faithThatRules_43 : decode cX7_faithThatRules 43 = .ok (.iconst (-1), 1) := by decide +kernel
theorem dX7_faithThatRules_44 : decode cX7_faithThatRules 44 = .ok (.ireturn, 1) := by decide +kernel
theorem dX7_faithAtBirth_0 : decode cX7_faithAtBirth 0 = .ok (.aload_n 1, 1) := by decide +kernel
theorem dX7_faithAtBirth_1 : decode cX7_faithAtBirth 1 = .ok (.ifnull 8, 3) := by decide +kernel
theorem dX7_faithAtBirth_4 : decode cX7_faithAtBirth 4 = .ok (.aload_n 1, 1) := by decide +kernel
theorem dX7_faithAtBirth_5 : decode cX7_faithAtBirth 5 = .ok (.invokevirtual 172, 3) := by decide +kernel
theorem dX7_faithAtBirth_8 : decode cX7_faithAtBirth 8 = .ok (.ireturn, 1) := by decide +kernel
theorem dX7_faithAtBirth_9 : decode cX7_faithAtBirth 9 = .ok (.aload_n 0, 1) := by decide +kernel
theorem dX7_faithAtBirth_10 : decode cX7_faithAtBirth 10 = .ok (.ifnull 10, 3) := by decide +kernel
theorem dX7_faithAtBirth_13 : decode cX7_faithAtBirth 13 = .ok (.aload_n 0, 1) := by decide +kernel
theorem dX7_faithAtBirth_14 : decode cX7_faithAtBirth 14 = .ok (.invokevirtual 172, 3) := by decide +kernel
theorem dX7_faithAtBirth_17 : decode cX7_faithAtBirth 17 = .ok (.goto 4, 3) := by decide +kernel
theorem dX7_faithAtBirth_20 : decode cX7_faithAtBirth 20 = .ok (.iload_n 2, 1) := by decide +kernel
theorem dX7_faithAtBirth_21 : decode cX7_faithAtBirth 21 = .ok (.ireturn, 1) := by decide +kernel
theorem dX7_canWitnessTurn_0 : decode cX7_canWitnessTurn 0 = .ok (.aload_n 1, 1) := by decide +kernel
theorem dX7_canWitnessTurn_1 : decode cX7_canWitnessTurn 1 = .ok (.aload_n 0, 1) := by decide +kernel
theorem dX7_canWitnessTurn_2 : decode cX7_canWitnessTurn 2 = .ok (.getfield 51, 3) := by decide +kernel
theorem dX7_canWitnessTurn_5 : decode cX7_canWitnessTurn 5 = .ok (.invokevirtual 168, 3) := by decide +kernel
theorem dX7_canWitnessTurn_8 : decode cX7_canWitnessTurn 8 = .ok (.ifCond .eq 15, 3) := by decide +kernel
theorem dX7_canWitnessTurn_11 : decode cX7_canWitnessTurn 11 = .ok (.aload_n 1, 1) := by decide +kernel
theorem dX7_canWitnessTurn_12 : decode cX7_canWitnessTurn 12 = .ok (.invokevirtual 172, 3) := by decide +kernel
theorem dX7_canWitnessTurn_15 : decode cX7_canWitnessTurn 15 = .ok (.iload_n 2, 1) := by decide +kernel
theorem dX7_canWitnessTurn_16 : decode cX7_canWitnessTurn 16 = .ok (.if_icmp .ne 7, 3) := by decide +kernel
theorem dX7_canWitnessTurn_19 : decode cX7_canWitnessTurn 19 = .ok (.iconst 1, 1) := by decide +kernel
theorem dX7_canWitnessTurn_20 : decode cX7_canWitnessTurn 20 = .ok (.goto 4, 3) := by decide +kernel
theorem dX7_canWitnessTurn_23 : decode cX7_canWitnessTurn 23 = .ok (.iconst 0, 1) := by decide +kernel
theorem dX7_canWitnessTurn_24 : decode cX7_canWitnessTurn 24 = .ok (.ireturn, 1) := by decide +kernel
theorem dX7_takeFaithsDue_0 : decode cX7_takeFaithsDue 0 = .ok (.iconst 0, 1) := by decide +kernel
theorem dX7_takeFaithsDue_1 : decode cX7_takeFaithsDue 1 = .ok (.istore_n 1, 1) := by decide +kernel
theorem dX7_takeFaithsDue_2 : decode cX7_takeFaithsDue 2 = .ok (.iload_n 1, 1) := by decide +kernel
theorem dX7_takeFaithsDue_3 : decode cX7_takeFaithsDue 3 = .ok (.aload_n 0, 1) := by decide +kernel
theorem dX7_takeFaithsDue_4 : decode cX7_takeFaithsDue 4 = .ok (.getfield 35, 3) := by decide +kernel
theorem dX7_takeFaithsDue_7 : decode cX7_takeFaithsDue 7 = .ok (.invokevirtual 58, 3) := by decide +kernel
theorem dX7_takeFaithsDue_10 : decode cX7_takeFaithsDue 10 = .ok (.if_icmp .ge 53, 3) := by decide +kernel
theorem dX7_takeFaithsDue_13 : decode cX7_takeFaithsDue 13 = .ok (.aload_n 0, 1) := by decide +kernel
theorem dX7_takeFaithsDue_14 : decode cX7_takeFaithsDue 14 = .ok (.getfield 35, 3) := by decide +kernel
theorem dX7_takeFaithsDue_17 : decode cX7_takeFaithsDue 17 = .ok (.iload_n 1, 1) := by decide +kernel
theorem dX7_takeFaithsDue_18 : decode cX7_takeFaithsDue 18 = .ok (.invokevirtual 384, 3) := by decide +kernel
theorem dX7_takeFaithsDue_21 : decode cX7_takeFaithsDue 21 = .ok (.checkcast 128, 3) := by decide +kernel
theorem dX7_takeFaithsDue_24 : decode cX7_takeFaithsDue 24 = .ok (.astore_n 2, 1) := by decide +kernel
theorem dX7_takeFaithsDue_25 : decode cX7_takeFaithsDue 25 = .ok (.aload_n 2, 1) := by decide +kernel
theorem dX7_takeFaithsDue_26 : decode cX7_takeFaithsDue 26 = .ok (.getfield 190, 3) := by decide +kernel
theorem dX7_takeFaithsDue_29 : decode cX7_takeFaithsDue 29 = .ok (.aload_n 0, 1) := by decide +kernel
theorem dX7_takeFaithsDue_30 : decode cX7_takeFaithsDue 30 = .ok (.getfield 51, 3) := by decide +kernel
theorem dX7_takeFaithsDue_33 : decode cX7_takeFaithsDue 33 = .ok (.if_icmp .ne 24, 3) := by decide +kernel
theorem dX7_takeFaithsDue_36 : decode cX7_takeFaithsDue 36 = .ok (.aload_n 2, 1) := by decide +kernel
theorem dX7_takeFaithsDue_37 : decode cX7_takeFaithsDue 37 = .ok (.getfield 187, 3) := by decide +kernel
theorem dX7_takeFaithsDue_40 : decode cX7_takeFaithsDue 40 = .ok (.istore_n 3, 1) := by decide +kernel
theorem dX7_takeFaithsDue_41 : decode cX7_takeFaithsDue 41 = .ok (.aload_n 2, 1) := by decide +kernel
theorem dX7_takeFaithsDue_42 : decode cX7_takeFaithsDue 42 = .ok (.invokevirtual 195, 3) := by decide +kernel
theorem dX7_takeFaithsDue_45 : decode cX7_takeFaithsDue 45 = .ok (.aload_n 0, 1) := by decide +kernel
theorem dX7_takeFaithsDue_46 : decode cX7_takeFaithsDue 46 = .ok (.aload_n 2, 1) := by decide +kernel
theorem dX7_takeFaithsDue_47 : decode cX7_takeFaithsDue 47 = .ok (.iload_n 3, 1) := by decide +kernel
theorem dX7_takeFaithsDue_48 : decode cX7_takeFaithsDue 48 = .ok (.invokevirtual 417, 3) := by decide +kernel
theorem dX7_takeFaithsDue_51 : decode cX7_takeFaithsDue 51 = .ok (.aload_n 0, 1) := by decide +kernel
theorem dX7_takeFaithsDue_52 : decode cX7_takeFaithsDue 52 = .ok (.aload_n 2, 1) := by decide +kernel
theorem dX7_takeFaithsDue_53 : decode cX7_takeFaithsDue 53 = .ok (.iload_n 3, 1) := by decide +kernel
theorem dX7_takeFaithsDue_54 : decode cX7_takeFaithsDue 54 = .ok (.invokevirtual 421, 3) := by decide +kernel
theorem dX7_takeFaithsDue_57 : decode cX7_takeFaithsDue 57 = .ok (.iinc 1 1, 3) := by decide +kernel
theorem dX7_takeFaithsDue_60 : decode cX7_takeFaithsDue 60 = .ok (.goto (-58), 3) := by decide +kernel
theorem dX7_takeFaithsDue_63 : decode cX7_takeFaithsDue 63 = .ok (.return_, 1) := by decide +kernel
theorem dX7_takeByTurning_0 : decode cX7_takeByTurning 0 = .ok (.aload_n 1, 1) := by decide +kernel
theorem dX7_takeByTurning_1 : decode cX7_takeByTurning 1 = .ok (.getfield 198, 3) := by decide +kernel
theorem dX7_takeByTurning_4 : decode cX7_takeByTurning 4 = .ok (.astore_n 3, 1) := by decide +kernel
theorem dX7_takeByTurning_5 : decode cX7_takeByTurning 5 = .ok (.aload_n 3, 1) := by decide +kernel
theorem dX7_takeByTurning_6 : decode cX7_takeByTurning 6 = .ok (.iload_n 2, 1) := by decide +kernel
theorem dX7_takeByTurning_7 : decode cX7_takeByTurning 7 = .ok (.invokevirtual 424, 3) := by decide +kernel
theorem dX7_takeByTurning_10 : decode cX7_takeByTurning 10 = .ok (.ifCond .eq 24, 3) := by decide +kernel
theorem dX7_takeByTurning_13 : decode cX7_takeByTurning 13 = .ok (.aload_n 0, 1) := by decide +kernel
theorem dX7_takeByTurning_14 : decode cX7_takeByTurning 14 = .ok (.getfield 51, 3) := by decide +kernel
theorem dX7_takeByTurning_17 : decode cX7_takeByTurning 17 = .ok (.aload_n 3, 1) := by decide +kernel
theorem dX7_takeByTurning_18 : decode cX7_takeByTurning 18 = .ok (.invokevirtual 427, 3) := by decide +kernel
theorem dX7_takeByTurning_21 : decode cX7_takeByTurning 21 = .ok (.isub, 1) := by decide +kernel
theorem dX7_takeByTurning_22 : decode cX7_takeByTurning 22 = .ok (.bipush 100, 2) := by decide +kernel
theorem dX7_takeByTurning_24 : decode cX7_takeByTurning 24 = .ok (.if_icmp .ge 10, 3) := by decide +kernel
theorem dX7_takeByTurning_27 : decode cX7_takeByTurning 27 = .ok (.aload_n 3, 1) := by decide +kernel
theorem dX7_takeByTurning_28 : decode cX7_takeByTurning 28 = .ok (.invokevirtual 430, 3) := by decide +kernel
theorem dX7_takeByTurning_31 : decode cX7_takeByTurning 31 = .ok (.goto 12, 3) := by decide +kernel
theorem dX7_takeByTurning_34 : decode cX7_takeByTurning 34 = .ok (.aload_n 3, 1) := by decide +kernel
theorem dX7_takeByTurning_35 : decode cX7_takeByTurning 35 = .ok (.aload_n 0, 1) := by decide +kernel
theorem dX7_takeByTurning_36 : decode cX7_takeByTurning 36 = .ok (.getfield 51, 3) := by decide +kernel
theorem dX7_takeByTurning_39 : decode cX7_takeByTurning 39 = .ok (.iload_n 2, 1) := by decide +kernel
theorem dX7_takeByTurning_40 : decode cX7_takeByTurning 40 = .ok (.invokevirtual 91, 3) := by decide +kernel
theorem dX7_takeByTurning_43 : decode cX7_takeByTurning 43 = .ok (.return_, 1) := by decide +kernel
theorem dX7_leadChildren_0 : decode cX7_leadChildren 0 = .ok (.iconst 0, 1) := by decide +kernel
theorem dX7_leadChildren_1 : decode cX7_leadChildren 1 = .ok (.istore_n 3, 1) := by decide +kernel
theorem dX7_leadChildren_2 : decode cX7_leadChildren 2 = .ok (.iload_n 3, 1) := by decide +kernel
theorem dX7_leadChildren_3 : decode cX7_leadChildren 3 = .ok (.aload_n 0, 1) := by decide +kernel
theorem dX7_leadChildren_4 : decode cX7_leadChildren 4 = .ok (.getfield 35, 3) := by decide +kernel
theorem dX7_leadChildren_7 : decode cX7_leadChildren 7 = .ok (.invokevirtual 58, 3) := by decide +kernel
theorem dX7_leadChildren_10 : decode cX7_leadChildren 10 = .ok (.if_icmp .ge 24, 3) := by decide +kernel
theorem dX7_leadChildren_13 : decode cX7_leadChildren 13 = .ok (.aload_n 0, 1) := by decide +kernel
theorem dX7_leadChildren_14 : decode cX7_leadChildren 14 = .ok (.getfield 35, 3) := by decide +kernel
theorem dX7_leadChildren_17 : decode cX7_leadChildren 17 = .ok (.iload_n 3, 1) := by decide +kernel
theorem dX7_leadChildren_18 : decode cX7_leadChildren 18 = .ok (.invokevirtual 384, 3) := by decide +kernel
theorem dX7_leadChildren_21 : decode cX7_leadChildren 21 = .ok (.checkcast 128, 3) := by decide +kernel
theorem dX7_leadChildren_24 : decode cX7_leadChildren 24 = .ok (.iconst 0, 1) := by decide +kernel
theorem dX7_leadChildren_25 : decode cX7_leadChildren 25 = .ok (.putfield 433, 3) := by decide +kernel
theorem dX7_leadChildren_28 : decode cX7_leadChildren 28 = .ok (.iinc 3 1, 3) := by decide +kernel
theorem dX7_leadChildren_31 : decode cX7_leadChildren 31 = .ok (.goto (-29), 3) := by decide +kernel
theorem dX7_leadChildren_34 : decode cX7_leadChildren 34 = .ok (.aload_n 1, 1) := by decide +kernel
theorem dX7_leadChildren_35 : decode cX7_leadChildren 35 = .ok (.iconst 1, 1) := by decide +kernel
theorem dX7_leadChildren_36 : decode cX7_leadChildren 36 = .ok (.putfield 433, 3) := by decide +kernel
theorem dX7_leadChildren_39 : decode cX7_leadChildren 39 = .ok (.aload_n 1, 1) := by decide +kernel
theorem dX7_leadChildren_40 : decode cX7_leadChildren 40 = .ok (.getfield 379, 3) := by decide +kernel
theorem dX7_leadChildren_43 : decode cX7_leadChildren 43 = .ok (.iconst 1, 1) := by decide +kernel
theorem dX7_leadChildren_44 : decode cX7_leadChildren 44 = .ok (.iadd, 1) := by decide +kernel
theorem dX7_leadChildren_45 : decode cX7_leadChildren 45 = .ok (.istore_n 3, 1) := by decide +kernel
theorem dX7_leadChildren_46 : decode cX7_leadChildren 46 = .ok (.iload_n 3, 1) := by decide +kernel
theorem dX7_leadChildren_47 : decode cX7_leadChildren 47 = .ok (.aload_n 0, 1) := by decide +kernel
theorem dX7_leadChildren_48 : decode cX7_leadChildren 48 = .ok (.getfield 35, 3) := by decide +kernel
theorem dX7_leadChildren_51 : decode cX7_leadChildren 51 = .ok (.invokevirtual 58, 3) := by decide +kernel
theorem dX7_leadChildren_54 : decode cX7_leadChildren 54 = .ok (.if_icmp .ge 102, 3) := by decide +kernel
theorem dX7_leadChildren_57 : decode cX7_leadChildren 57 = .ok (.aload_n 0, 1) := by decide +kernel
theorem dX7_leadChildren_58 : decode cX7_leadChildren 58 = .ok (.getfield 35, 3) := by decide +kernel
theorem dX7_leadChildren_61 : decode cX7_leadChildren 61 = .ok (.iload_n 3, 1) := by decide +kernel
theorem dX7_leadChildren_62 : decode cX7_leadChildren 62 = .ok (.invokevirtual 384, 3) := by decide +kernel
theorem dX7_leadChildren_65 : decode cX7_leadChildren 65 = .ok (.checkcast 128, 3) := by decide +kernel
theorem dX7_leadChildren_68 : decode cX7_leadChildren 68 = .ok (.astore 4, 2) := by decide +kernel
theorem dX7_leadChildren_70 : decode cX7_leadChildren 70 = .ok (.aload 4, 2) := by decide +kernel
theorem dX7_leadChildren_72 : decode cX7_leadChildren 72 = .ok (.invokevirtual 436, 3) := by decide +kernel
theorem dX7_leadChildren_75 : decode cX7_leadChildren 75 = .ok (.astore 5, 2) := by decide +kernel
theorem dX7_leadChildren_77 : decode cX7_leadChildren 77 = .ok (.aload 5, 2) := by decide +kernel
theorem dX7_leadChildren_79 : decode cX7_leadChildren 79 = .ok (.ifnull 44, 3) := by decide +kernel
theorem dX7_leadChildren_82 : decode cX7_leadChildren 82 = .ok (.aload 5, 2) := by decide +kernel
theorem dX7_leadChildren_84 : decode cX7_leadChildren 84 = .ok (.getfield 433, 3) := by decide +kernel
theorem dX7_leadChildren_87 : decode cX7_leadChildren 87 = .ok (.ifCond .eq 36, 3) := by decide +kernel
theorem dX7_leadChildren_90 : decode cX7_leadChildren 90 = .ok (.aload 4, 2) := by decide +kernel
theorem dX7_leadChildren_92 : decode cX7_leadChildren 92 = .ok (.getfield 251, 3) := by decide +kernel
theorem dX7_leadChildren_95 : decode cX7_leadChildren 95 = .ok (.ifCond .eq 28, 3) := by decide +kernel
theorem dX7_leadChildren_98 : decode cX7_leadChildren 98 = .ok (.aload 4, 2) := by decide +kernel
theorem dX7_leadChildren_100 : decode cX7_leadChildren 100 = .ok (.aload_n 0, 1) := by decide +kernel
theorem dX7_leadChildren_101 : decode cX7_leadChildren 101 = .ok (.getfield 51, 3) := by decide +kernel
theorem dX7_leadChildren_104 : decode cX7_leadChildren 104 = .ok (.invokevirtual 440, 3) := by decide +kernel
theorem dX7_leadChildren_107 : decode cX7_leadChildren 107 = .ok (.ifCond .eq 16, 3) := by decide +kernel
theorem dX7_leadChildren_110 : decode cX7_leadChildren 110 = .ok (.aload 4, 2) := by decide +kernel
theorem dX7_leadChildren_112 : decode cX7_leadChildren 112 = .ok (.invokevirtual 172, 3) := by decide +kernel
theorem dX7_leadChildren_115 : decode cX7_leadChildren 115 = .ok (.iload_n 2, 1) := by decide +kernel
theorem dX7_leadChildren_116 : decode cX7_leadChildren 116 = .ok (.if_icmp .eq 7, 3) := by decide +kernel
theorem dX7_leadChildren_119 : decode cX7_leadChildren 119 = .ok (.iconst 1, 1) := by decide +kernel
theorem dX7_leadChildren_120 : decode cX7_leadChildren 120 = .ok (.goto 4, 3) := by decide +kernel
theorem dX7_leadChildren_123 : decode cX7_leadChildren 123 = .ok (.iconst 0, 1) := by decide +kernel
theorem dX7_leadChildren_124 : decode cX7_leadChildren 124 = .ok (.istore 6, 2) := by decide +kernel
theorem dX7_leadChildren_126 : decode cX7_leadChildren 126 = .ok (.iload 6, 2) := by decide +kernel
theorem dX7_leadChildren_128 : decode cX7_leadChildren 128 = .ok (.ifCond .eq 22, 3) := by decide +kernel
theorem dX7_leadChildren_131 : decode cX7_leadChildren 131 = .ok (.aload 4, 2) := by decide +kernel
theorem dX7_leadChildren_133 : decode cX7_leadChildren 133 = .ok (.getfield 198, 3) := by decide +kernel
theorem dX7_leadChildren_136 : decode cX7_leadChildren 136 = .ok (.aload_n 0, 1) := by decide +kernel
theorem dX7_leadChildren_137 : decode cX7_leadChildren 137 = .ok (.getfield 51, 3) := by decide +kernel
theorem dX7_leadChildren_140 : decode cX7_leadChildren 140 = .ok (.iload_n 2, 1) := by decide +kernel
theorem dX7_leadChildren_141 : decode cX7_leadChildren 141 = .ok (.invokevirtual 91, 3) := by decide +kernel
theorem dX7_leadChildren_144 : decode cX7_leadChildren 144 = .ok (.aload 4, 2) := by decide +kernel
theorem dX7_leadChildren_146 : decode cX7_leadChildren 146 = .ok (.iconst 1, 1) := by decide +kernel
theorem dX7_leadChildren_147 : decode cX7_leadChildren 147 = .ok (.putfield 433, 3) := by decide +kernel
theorem dX7_leadChildren_150 : decode cX7_leadChildren 150 = .ok (.iinc 3 1, 3) := by decide +kernel
theorem dX7_leadChildren_153 : decode cX7_leadChildren 153 = .ok (.goto (-107), 3) := by decide +kernel
theorem dX7_leadChildren_156 : decode cX7_leadChildren 156 = .ok (.return_, 1) := by decide +kernel
theorem dX7_mayMarry_0 : decode cX7_mayMarry 0 = .ok (.aload_n 0, 1) := by decide +kernel
theorem dX7_mayMarry_1 : decode cX7_mayMarry 1 = .ok (.aload_n 2, 1) := by decide +kernel
theorem dX7_mayMarry_2 : decode cX7_mayMarry 2 = .ok (.invokevirtual 367, 3) := by decide +kernel
theorem dX7_mayMarry_5 : decode cX7_mayMarry 5 = .ok (.ifCond .ne 48, 3) := by decide +kernel
theorem dX7_mayMarry_8 : decode cX7_mayMarry 8 = .ok (.aload_n 0, 1) := by decide +kernel
theorem dX7_mayMarry_9 : decode cX7_mayMarry 9 = .ok (.aload_n 1, 1) := by decide +kernel
theorem dX7_mayMarry_10 : decode cX7_mayMarry 10 = .ok (.invokevirtual 367, 3) := by decide +kernel
theorem dX7_mayMarry_13 : decode cX7_mayMarry 13 = .ok (.aload_n 3, 1) := by decide +kernel
theorem dX7_mayMarry_14 : decode cX7_mayMarry 14 = .ok (.iconst 2, 1) := by decide +kernel
theorem dX7_mayMarry_15 : decode cX7_mayMarry 15 = .ok (.aload_n 0, 1) := by decide +kernel
theorem dX7_mayMarry_16 : decode cX7_mayMarry 16 = .ok (.getfield 51, 3) := by decide +kernel
theorem dX7_mayMarry_19 : decode cX7_mayMarry 19 = .ok (.invokevirtual 114, 3) := by decide +kernel
theorem dX7_mayMarry_22 : decode cX7_mayMarry 22 = .ok (.if_icmp .ge 31, 3) := by decide +kernel
theorem dX7_mayMarry_25 : decode cX7_mayMarry 25 = .ok (.aload_n 1, 1) := by decide +kernel
theorem dX7_mayMarry_26 : decode cX7_mayMarry 26 = .ok (.invokevirtual 172, 3) := by decide +kernel
theorem dX7_mayMarry_29 : decode cX7_mayMarry 29 = .ok (.aload_n 2, 1) := by decide +kernel
theorem dX7_mayMarry_30 : decode cX7_mayMarry 30 = .ok (.invokevirtual 172, 3) := by decide +kernel
theorem dX7_mayMarry_33 : decode cX7_mayMarry 33 = .ok (.if_icmp .eq 16, 3) := by decide +kernel
theorem dX7_mayMarry_36 : decode cX7_mayMarry 36 = .ok (.aload_n 3, 1) := by decide +kernel
theorem dX7_mayMarry_37 : decode cX7_mayMarry 37 = .ok (.iconst 4, 1) := by decide +kernel
theorem dX7_mayMarry_38 : decode cX7_mayMarry 38 = .ok (.aload_n 0, 1) := by decide +kernel
theorem dX7_mayMarry_39 : decode cX7_mayMarry 39 = .ok (.getfield 51, 3) := by decide +kernel
theorem dX7_mayMarry_42 : decode cX7_mayMarry 42 = .ok (.invokevirtual 114, 3) := by decide +kernel
theorem dX7_mayMarry_45 : decode cX7_mayMarry 45 = .ok (.iconst 1, 1) := by decide +kernel
theorem dX7_mayMarry_46 : decode cX7_mayMarry 46 = .ok (.if_icmp .ne 7, 3) := by decide +kernel
theorem dX7_mayMarry_49 : decode cX7_mayMarry 49 = .ok (.iconst 1, 1) := by decide +kernel
theorem dX7_mayMarry_50 : decode cX7_mayMarry 50 = .ok (.goto 4, 3) := by decide +kernel
theorem dX7_mayMarry_53 : decode cX7_mayMarry 53 = .ok (.iconst 0, 1) := by decide +kernel
theorem dX7_mayMarry_54 : decode cX7_mayMarry 54 = .ok (.ireturn, 1) := by decide +kernel
theorem dX7_howManyLast_0 : decode cX7_howManyLast 0 = .ok (.iconst 0, 1) := by decide +kernel
theorem dX7_howManyLast_1 : decode cX7_howManyLast 1 = .ok (.istore_n 2, 1) := by decide +kernel
theorem dX7_howManyLast_2 : decode cX7_howManyLast 2 = .ok (.iconst 0, 1) := by decide +kernel
theorem dX7_howManyLast_3 : decode cX7_howManyLast 3 = .ok (.istore_n 3, 1) := by decide +kernel
theorem dX7_howManyLast_4 : decode cX7_howManyLast 4 = .ok (.iload_n 3, 1) := by decide +kernel
theorem dX7_howManyLast_5 : decode cX7_howManyLast 5 = .ok (.aload_n 0, 1) := by decide +kernel
theorem dX7_howManyLast_6 : decode cX7_howManyLast 6 = .ok (.getfield 38, 3) := by decide +kernel
theorem dX7_howManyLast_9 : decode cX7_howManyLast 9 = .ok (.invokevirtual 58, 3) := by decide +kernel
theorem dX7_howManyLast_12 : decode cX7_howManyLast 12 = .ok (.if_icmp .ge 30, 3) := by decide +kernel
theorem dX7_howManyLast_15 : decode cX7_howManyLast 15 = .ok (.aload_n 0, 1) := by decide +kernel
theorem dX7_howManyLast_16 : decode cX7_howManyLast 16 = .ok (.getfield 38, 3) := by decide +kernel
theorem dX7_howManyLast_19 : decode cX7_howManyLast 19 = .ok (.iload_n 3, 1) := by decide +kernel
theorem dX7_howManyLast_20 : decode cX7_howManyLast 20 = .ok (.invokevirtual 384, 3) := by decide +kernel
theorem dX7_howManyLast_23 : decode cX7_howManyLast 23 = .ok (.checkcast 217, 3) := by decide +kernel
theorem dX7_howManyLast_26 : decode cX7_howManyLast 26 = .ok (.aload_n 1, 1) := by decide +kernel
theorem dX7_howManyLast_27 : decode cX7_howManyLast 27 = .ok (.invokevirtual 443, 3) := by decide +kernel
theorem dX7_howManyLast_30 : decode cX7_howManyLast 30 = .ok (.ifCond .eq 6, 3) := by decide +kernel
theorem dX7_howManyLast_33 : decode cX7_howManyLast 33 = .ok (.iinc 2 1, 3) := by decide +kernel
theorem dX7_howManyLast_36 : decode cX7_howManyLast 36 = .ok (.iinc 3 1, 3) := by decide +kernel
theorem dX7_howManyLast_39 : decode cX7_howManyLast 39 = .ok (.goto (-35), 3) := by decide +kernel
theorem dX7_howManyLast_42 : decode cX7_howManyLast 42 = .ok (.iload_n 2, 1) := by decide +kernel
theorem dX7_howManyLast_43 : decode cX7_howManyLast 43 = .ok (.ireturn, 1) := by decide +kernel
theorem dX7_lowestThatLasts_0 : decode cX7_lowestThatLasts 0 = .ok (.iconst 0, 1) := by decide +kernel
theorem dX7_lowestThatLasts_1 : decode cX7_lowestThatLasts 1 = .ok (.istore_n 2, 1) := by decide +kernel
theorem dX7_lowestThatLasts_2 : decode cX7_lowestThatLasts 2 = .ok (.iload_n 2, 1) := by decide +kernel
theorem dX7_lowestThatLasts_3 : decode cX7_lowestThatLasts 3 = .ok (.aload_n 0, 1) := by decide +kernel
theorem dX7_lowestThatLasts_4 : decode cX7_lowestThatLasts 4 = .ok (.getfield 38, 3) := by decide +kernel
theorem dX7_lowestThatLasts_7 : decode cX7_lowestThatLasts 7 = .ok (.invokevirtual 58, 3) := by decide +kernel
theorem dX7_lowestThatLasts_10 : decode cX7_lowestThatLasts 10 = .ok (.if_icmp .ge 29, 3) := by decide +kernel
theorem dX7_lowestThatLasts_13 : decode cX7_lowestThatLasts 13 = .ok (.aload_n 0, 1) := by decide +kernel
theorem dX7_lowestThatLasts_14 : decode cX7_lowestThatLasts 14 = .ok (.getfield 38, 3) := by decide +kernel
theorem dX7_lowestThatLasts_17 : decode cX7_lowestThatLasts 17 = .ok (.iload_n 2, 1) := by decide +kernel
theorem dX7_lowestThatLasts_18 : decode cX7_lowestThatLasts 18 = .ok (.invokevirtual 384, 3) := by decide +kernel
theorem dX7_lowestThatLasts_21 : decode cX7_lowestThatLasts 21 = .ok (.checkcast 217, 3) := by decide +kernel
theorem dX7_lowestThatLasts_24 : decode cX7_lowestThatLasts 24 = .ok (.aload_n 1, 1) := by decide +kernel
theorem dX7_lowestThatLasts_25 : decode cX7_lowestThatLasts 25 = .ok (.invokevirtual 443, 3) := by decide +kernel
theorem dX7_lowestThatLasts_28 : decode cX7_lowestThatLasts 28 = .ok (.ifCond .eq 5, 3) := by decide +kernel
theorem dX7_lowestThatLasts_31 : decode cX7_lowestThatLasts 31 = .ok (.iload_n 2, 1) := by decide +kernel
theorem dX7_lowestThatLasts_32 : decode cX7_lowestThatLasts 32 = .ok (.ireturn, 1) := by decide +kernel
theorem dX7_lowestThatLasts_33 : decode cX7_lowestThatLasts 33 = .ok (.iinc 2 1, 3) := by decide +kernel
theorem dX7_lowestThatLasts_36 : decode cX7_lowestThatLasts 36 = .ok (.goto (-34), 3) := by decide +kernel
theorem dX7_lowestThatLasts_39 : decode cX7_lowestThatLasts 39 = .ok (.iconst (-1), 1) := by decide +kernel
theorem dX7_lowestThatLasts_40 : decode cX7_lowestThatLasts 40 = .ok (.ireturn, 1) := by decide +kernel
theorem dX7_endsByAsking_0 : decode cX7_endsByAsking 0 = .ok (.iload_n 2, 1) := by decide +kernel
theorem dX7_endsByAsking_1 : decode cX7_endsByAsking 1 = .ok (.tableswitch 51 0 2 #[27, 29, 31], 27) := by decide +kernel
theorem dX7_endsByAsking_28 : decode cX7_endsByAsking 28 = .ok (.iload_n 1, 1) := by decide +kernel
theorem dX7_endsByAsking_29 : decode cX7_endsByAsking 29 = .ok (.ireturn, 1) := by decide +kernel
theorem dX7_endsByAsking_30 : decode cX7_endsByAsking 30 = .ok (.iconst 1, 1) := by decide +kernel
theorem dX7_endsByAsking_31 : decode cX7_endsByAsking 31 = .ok (.ireturn, 1) := by decide +kernel
theorem dX7_endsByAsking_32 : decode cX7_endsByAsking 32 = .ok (.aload_n 0, 1) := by decide +kernel
theorem dX7_endsByAsking_33 : decode cX7_endsByAsking 33 = .ok (.getfield 231, 3) := by decide +kernel
theorem dX7_endsByAsking_36 : decode cX7_endsByAsking 36 = .ok (.ifCond .eq 14, 3) := by decide +kernel
theorem dX7_endsByAsking_39 : decode cX7_endsByAsking 39 = .ok (.aload_n 0, 1) := by decide +kernel
theorem dX7_endsByAsking_40 : decode cX7_endsByAsking 40 = .ok (.getfield 234, 3) := by decide +kernel
theorem dX7_endsByAsking_43 : decode cX7_endsByAsking 43 = .ok (.ifCond .eq 7, 3) := by decide +kernel
theorem dX7_endsByAsking_46 : decode cX7_endsByAsking 46 = .ok (.iconst 1, 1) := by decide +kernel
theorem dX7_endsByAsking_47 : decode cX7_endsByAsking 47 = .ok (.goto 4, 3) := by decide +kernel
theorem dX7_endsByAsking_50 : decode cX7_endsByAsking 50 = .ok (.iconst 0, 1) := by decide +kernel
theorem dX7_endsByAsking_51 : decode cX7_endsByAsking 51 = .ok (.ireturn, 1) := by decide +kernel
theorem dX7_endsByAsking_52 : decode cX7_endsByAsking 52 = .ok (.iconst 0, 1) := by decide +kernel
theorem dX7_endsByAsking_53 : decode cX7_endsByAsking 53 = .ok (.ireturn, 1) := by decide +kernel
theorem dX7_endMarriagesOf_0 : decode cX7_endMarriagesOf 0 = .ok (.new 16, 3) := by decide +kernel
theorem dX7_endMarriagesOf_3 : decode cX7_endMarriagesOf 3 = .ok (.dup, 1) := by decide +kernel
theorem dX7_endMarriagesOf_4 : decode cX7_endMarriagesOf 4 = .ok (.invokespecial 18, 3) := by decide +kernel
theorem dX7_endMarriagesOf_7 : decode cX7_endMarriagesOf 7 = .ok (.astore_n 2, 1) := by decide +kernel
theorem dX7_endMarriagesOf_8 : decode cX7_endMarriagesOf 8 = .ok (.iconst 0, 1) := by decide +kernel
theorem dX7_endMarriagesOf_9 : decode cX7_endMarriagesOf 9 = .ok (.istore_n 3, 1) := by decide +kernel
theorem dX7_endMarriagesOf_10 : decode cX7_endMarriagesOf 10 = .ok (.iload_n 3, 1) := by decide +kernel
theorem dX7_endMarriagesOf_11 : decode cX7_endMarriagesOf 11 = .ok (.aload_n 0, 1) := by decide +kernel
theorem dX7_endMarriagesOf_12 : decode cX7_endMarriagesOf 12 = .ok (.getfield 38, 3) := by decide +kernel
theorem dX7_endMarriagesOf_15 : decode cX7_endMarriagesOf 15 = .ok (.invokevirtual 58, 3) := by decide +kernel
theorem dX7_endMarriagesOf_18 : decode cX7_endMarriagesOf 18 = .ok (.if_icmp .ge 80, 3) := by decide +kernel
theorem dX7_endMarriagesOf_21 : decode cX7_endMarriagesOf 21 = .ok (.aload_n 0, 1) := by decide +kernel
theorem dX7_endMarriagesOf_22 : decode cX7_endMarriagesOf 22 = .ok (.getfield 38, 3) := by decide +kernel
theorem dX7_endMarriagesOf_25 : decode cX7_endMarriagesOf 25 = .ok (.iload_n 3, 1) := by decide +kernel
theorem dX7_endMarriagesOf_26 : decode cX7_endMarriagesOf 26 = .ok (.invokevirtual 384, 3) := by decide +kernel
theorem dX7_endMarriagesOf_29 : decode cX7_endMarriagesOf 29 = .ok (.checkcast 217, 3) := by decide +kernel
theorem dX7_endMarriagesOf_32 : decode cX7_endMarriagesOf 32 = .ok (.astore 4, 2) := by decide +kernel
theorem dX7_endMarriagesOf_34 : decode cX7_endMarriagesOf 34 = .ok (.aload 4, 2) := by decide +kernel
theorem dX7_endMarriagesOf_36 : decode cX7_endMarriagesOf 36 = .ok (.aload_n 1, 1) := by decide +kernel
theorem dX7_endMarriagesOf_37 : decode cX7_endMarriagesOf 37 = .ok (.invokevirtual 443, 3) := by decide +kernel
theorem dX7_endMarriagesOf_40 : decode cX7_endMarriagesOf 40 = .ok (.ifCond .eq 52, 3) := by decide +kernel
theorem dX7_endMarriagesOf_43 : decode cX7_endMarriagesOf 43 = .ok (.aload 4, 2) := by decide +kernel
theorem dX7_endMarriagesOf_45 : decode cX7_endMarriagesOf 45 = .ok (.iconst 2, 1) := by decide +kernel
theorem dX7_endMarriagesOf_46 : decode cX7_endMarriagesOf 46 = .ok (.putfield 226, 3) := by decide +kernel
theorem dX7_endMarriagesOf_49 : decode cX7_endMarriagesOf 49 = .ok (.aload 4, 2) := by decide +kernel
theorem dX7_endMarriagesOf_51 : decode cX7_endMarriagesOf 51 = .ok (.getfield 237, 3) := by decide +kernel
theorem dX7_endMarriagesOf_54 : decode cX7_endMarriagesOf 54 = .ok (.aload_n 1, 1) := by decide +kernel
theorem dX7_endMarriagesOf_55 : decode cX7_endMarriagesOf 55 = .ok (.if_acmp .ne 21, 3) := by decide +kernel
theorem dX7_endMarriagesOf_58 : decode cX7_endMarriagesOf 58 = .ok (.aload 4, 2) := by decide +kernel
theorem dX7_endMarriagesOf_60 : decode cX7_endMarriagesOf 60 = .ok (.invokevirtual 248, 3) := by decide +kernel
theorem dX7_endMarriagesOf_63 : decode cX7_endMarriagesOf 63 = .ok (.aload_n 2, 1) := by decide +kernel
theorem dX7_endMarriagesOf_64 : decode cX7_endMarriagesOf 64 = .ok (.aload 4, 2) := by decide +kernel
theorem dX7_endMarriagesOf_66 : decode cX7_endMarriagesOf 66 = .ok (.getfield 241, 3) := by decide +kernel
theorem dX7_endMarriagesOf_69 : decode cX7_endMarriagesOf 69 = .ok (.invokevirtual 74, 3) := by decide +kernel
theorem dX7_endMarriagesOf_72 : decode cX7_endMarriagesOf 72 = .ok (.pop, 1) := by decide +kernel
theorem dX7_endMarriagesOf_73 : decode cX7_endMarriagesOf 73 = .ok (.goto 19, 3) := by decide +kernel
theorem dX7_endMarriagesOf_76 : decode cX7_endMarriagesOf 76 = .ok (.aload 4, 2) := by decide +kernel
theorem dX7_endMarriagesOf_78 : decode cX7_endMarriagesOf 78 = .ok (.iconst 0, 1) := by decide +kernel
theorem dX7_endMarriagesOf_79 : decode cX7_endMarriagesOf 79 = .ok (.putfield 382, 3) := by decide +kernel
theorem dX7_endMarriagesOf_82 : decode cX7_endMarriagesOf 82 = .ok (.aload_n 2, 1) := by decide +kernel
theorem dX7_endMarriagesOf_83 : decode cX7_endMarriagesOf 83 = .ok (.aload 4, 2) := by decide +kernel
theorem dX7_endMarriagesOf_85 : decode cX7_endMarriagesOf 85 = .ok (.getfield 237, 3) := by decide +kernel
theorem dX7_endMarriagesOf_88 : decode cX7_endMarriagesOf 88 = .ok (.invokevirtual 74, 3) := by decide +kernel
theorem dX7_endMarriagesOf_91 : decode cX7_endMarriagesOf 91 = .ok (.pop, 1) := by decide +kernel
theorem dX7_endMarriagesOf_92 : decode cX7_endMarriagesOf 92 = .ok (.iinc 3 1, 3) := by decide +kernel
theorem dX7_endMarriagesOf_95 : decode cX7_endMarriagesOf 95 = .ok (.goto (-85), 3) := by decide +kernel
theorem dX7_endMarriagesOf_98 : decode cX7_endMarriagesOf 98 = .ok (.aload_n 2, 1) := by decide +kernel
theorem dX7_endMarriagesOf_99 : decode cX7_endMarriagesOf 99 = .ok (.areturn, 1) := by decide +kernel
theorem dX7_livingChildrenOf_0 : decode cX7_livingChildrenOf 0 = .ok (.new 16, 3) := by decide +kernel
theorem dX7_livingChildrenOf_3 : decode cX7_livingChildrenOf 3 = .ok (.dup, 1) := by decide +kernel
theorem dX7_livingChildrenOf_4 : decode cX7_livingChildrenOf 4 = .ok (.invokespecial 18, 3) := by decide +kernel
theorem dX7_livingChildrenOf_7 : decode cX7_livingChildrenOf 7 = .ok (.astore_n 2, 1) := by decide +kernel
theorem dX7_livingChildrenOf_8 : decode cX7_livingChildrenOf 8 = .ok (.iconst 0, 1) := by decide +kernel
theorem dX7_livingChildrenOf_9 : decode cX7_livingChildrenOf 9 = .ok (.istore_n 3, 1) := by decide +kernel
theorem dX7_livingChildrenOf_10 : decode cX7_livingChildrenOf 10 = .ok (.iload_n 3, 1) := by decide +kernel
theorem dX7_livingChildrenOf_11 : decode cX7_livingChildrenOf 11 = .ok (.aload_n 0, 1) := by decide +kernel
theorem dX7_livingChildrenOf_12 : decode cX7_livingChildrenOf 12 = .ok (.getfield 35, 3) := by decide +kernel
theorem dX7_livingChildrenOf_15 : decode cX7_livingChildrenOf 15 = .ok (.invokevirtual 58, 3) := by decide +kernel
theorem dX7_livingChildrenOf_18 : decode cX7_livingChildrenOf 18 = .ok (.if_icmp .ge 43, 3) := by decide +kernel
theorem dX7_livingChildrenOf_21 : decode cX7_livingChildrenOf 21 = .ok (.aload_n 0, 1) := by decide +kernel
theorem dX7_livingChildrenOf_22 : decode cX7_livingChildrenOf 22 = .ok (.getfield 35, 3) := by decide +kernel
theorem dX7_livingChildrenOf_25 : decode cX7_livingChildrenOf 25 = .ok (.iload_n 3, 1) := by decide +kernel
theorem dX7_livingChildrenOf_26 : decode cX7_livingChildrenOf 26 = .ok (.invokevirtual 384, 3) := by decide +kernel
theorem dX7_livingChildrenOf_29 : decode cX7_livingChildrenOf 29 = .ok (.checkcast 128, 3) := by decide +kernel
theorem dX7_livingChildrenOf_32 : decode cX7_livingChildrenOf 32 = .ok (.aload_n 1, 1) := by decide +kernel
theorem dX7_livingChildrenOf_33 : decode cX7_livingChildrenOf 33 = .ok (.invokevirtual 446, 3) := by decide +kernel
theorem dX7_livingChildrenOf_36 : decode cX7_livingChildrenOf 36 = .ok (.ifCond .eq 19, 3) := by decide +kernel
theorem dX7_livingChildrenOf_39 : decode cX7_livingChildrenOf 39 = .ok (.aload_n 2, 1) := by decide +kernel
theorem dX7_livingChildrenOf_40 : decode cX7_livingChildrenOf 40 = .ok (.aload_n 0, 1) := by decide +kernel
theorem dX7_livingChildrenOf_41 : decode cX7_livingChildrenOf 41 = .ok (.getfield 35, 3) := by decide +kernel
theorem dX7_livingChildrenOf_44 : decode cX7_livingChildrenOf 44 = .ok (.iload_n 3, 1) := by decide +kernel
theorem dX7_livingChildrenOf_45 : decode cX7_livingChildrenOf 45 = .ok (.invokevirtual 384, 3) := by decide +kernel
theorem dX7_livingChildrenOf_48 : decode cX7_livingChildrenOf 48 = .ok (.checkcast 128, 3) := by decide +kernel
theorem dX7_livingChildrenOf_51 : decode cX7_livingChildrenOf 51 = .ok (.invokevirtual 74, 3) := by decide +kernel
theorem dX7_livingChildrenOf_54 : decode cX7_livingChildrenOf 54 = .ok (.pop, 1) := by decide +kernel
theorem dX7_livingChildrenOf_55 : decode cX7_livingChildrenOf 55 = .ok (.iinc 3 1, 3) := by decide +kernel
theorem dX7_livingChildrenOf_58 : decode cX7_livingChildrenOf 58 = .ok (.goto (-48), 3) := by decide +kernel
theorem dX7_livingChildrenOf_61 : decode cX7_livingChildrenOf 61 = .ok (.aload_n 2, 1) := by decide +kernel
theorem dX7_livingChildrenOf_62 : decode cX7_livingChildrenOf 62 = .ok (.areturn, 1) := by decide +kernel
theorem dX7_howManyChildrenLive_0 : decode cX7_howManyChildrenLive 0 = .ok (.iconst 0, 1) := by decide +kernel
theorem dX7_howManyChildrenLive_1 : decode cX7_howManyChildrenLive 1 = .ok (.istore_n 2, 1) := by decide +kernel
theorem dX7_howManyChildrenLive_2 : decode cX7_howManyChildrenLive 2 = .ok (.iconst 0, 1) := by decide +kernel
theorem dX7_howManyChildrenLive_3 : decode cX7_howManyChildrenLive 3 = .ok (.istore_n 3, 1) := by decide +kernel
theorem dX7_howManyChildrenLive_4 : decode cX7_howManyChildrenLive 4 = .ok (.iload_n 3, 1) := by decide +kernel
theorem dX7_howManyChildrenLive_5 : decode cX7_howManyChildrenLive 5 = .ok (.aload_n 0, 1) := by decide +kernel
theorem dX7_howManyChildrenLive_6 : decode cX7_howManyChildrenLive 6 = .ok (.getfield 35, 3) := by decide +kernel
theorem dX7_howManyChildrenLive_9 : decode cX7_howManyChildrenLive 9 = .ok (.invokevirtual 58, 3) := by decide +kernel
theorem dX7_howManyChildrenLive_12 : decode cX7_howManyChildrenLive 12 = .ok (.if_icmp .ge 30, 3) := by decide +kernel
theorem dX7_howManyChildrenLive_15 : decode cX7_howManyChildrenLive 15 = .ok (.aload_n 0, 1) := by decide +kernel
theorem dX7_howManyChildrenLive_16 : decode cX7_howManyChildrenLive 16 = .ok (.getfield 35, 3) := by decide +kernel
theorem dX7_howManyChildrenLive_19 : decode cX7_howManyChildrenLive 19 = .ok (.iload_n 3, 1) := by decide +kernel
theorem dX7_howManyChildrenLive_20 : decode cX7_howManyChildrenLive 20 = .ok (.invokevirtual 384, 3) := by decide +kernel
theorem dX7_howManyChildrenLive_23 : decode cX7_howManyChildrenLive 23 = .ok (.checkcast 128, 3) := by decide +kernel
theorem dX7_howManyChildrenLive_26 : decode cX7_howManyChildrenLive 26 = .ok (.aload_n 1, 1) := by decide +kernel
theorem dX7_howManyChildrenLive_27 : decode cX7_howManyChildrenLive 27 = .ok (.invokevirtual 446, 3) := by decide +kernel
theorem dX7_howManyChildrenLive_30 : decode cX7_howManyChildrenLive 30 = .ok (.ifCond .eq 6, 3) := by decide +kernel
theorem dX7_howManyChildrenLive_33 : decode cX7_howManyChildrenLive 33 = .ok (.iinc 2 1, 3) := by decide +kernel
theorem dX7_howManyChildrenLive_36 : decode cX7_howManyChildrenLive 36 = .ok (.iinc 3 1, 3) := by decide +kernel
theorem dX7_howManyChildrenLive_39 : decode cX7_howManyChildrenLive 39 = .ok (.goto (-35), 3) := by decide +kernel
theorem dX7_howManyChildrenLive_42 : decode cX7_howManyChildrenLive 42 = .ok (.iload_n 2, 1) := by decide +kernel
theorem dX7_howManyChildrenLive_43 : decode cX7_howManyChildrenLive 43 = .ok (.ireturn, 1) := by decide +kernel
theorem dX7_removeOtherFaiths_0 : decode cX7_removeOtherFaiths 0 = .ok (.aload_n 0, 1) := by decide +kernel
theorem dX7_removeOtherFaiths_1 : decode cX7_removeOtherFaiths 1 = .ok (.invokevirtual 58, 3) := by decide +kernel
theorem dX7_removeOtherFaiths_4 : decode cX7_removeOtherFaiths 4 = .ok (.iconst 1, 1) := by decide +kernel
theorem dX7_removeOtherFaiths_5 : decode cX7_removeOtherFaiths 5 = .ok (.isub, 1) := by decide +kernel
theorem dX7_removeOtherFaiths_6 : decode cX7_removeOtherFaiths 6 = .ok (.istore_n 2, 1) := by decide +kernel
theorem dX7_removeOtherFaiths_7 : decode cX7_removeOtherFaiths 7 = .ok (.iload_n 2, 1) := by decide +kernel
theorem dX7_removeOtherFaiths_8 : decode cX7_removeOtherFaiths 8 = .ok (.ifCond .lt 30, 3) := by decide +kernel
theorem dX7_removeOtherFaiths_11 : decode cX7_removeOtherFaiths 11 = .ok (.aload_n 0, 1) := by decide +kernel
theorem dX7_removeOtherFaiths_12 : decode cX7_removeOtherFaiths 12 = .ok (.iload_n 2, 1) := by decide +kernel
theorem dX7_removeOtherFaiths_13 : decode cX7_removeOtherFaiths 13 = .ok (.invokevirtual 384, 3) := by decide +kernel
theorem dX7_removeOtherFaiths_16 : decode cX7_removeOtherFaiths 16 = .ok (.checkcast 128, 3) := by decide +kernel
theorem dX7_removeOtherFaiths_19 : decode cX7_removeOtherFaiths 19 = .ok (.invokevirtual 172, 3) := by decide +kernel
theorem dX7_removeOtherFaiths_22 : decode cX7_removeOtherFaiths 22 = .ok (.iload_n 1, 1) := by decide +kernel
theorem dX7_removeOtherFaiths_23 : decode cX7_removeOtherFaiths 23 = .ok (.if_icmp .eq 9, 3) := by decide +kernel
theorem dX7_removeOtherFaiths_26 : decode cX7_removeOtherFaiths 26 = .ok (.aload_n 0, 1) := by decide +kernel
theorem dX7_removeOtherFaiths_27 : decode cX7_removeOtherFaiths 27 = .ok (.iload_n 2, 1) := by decide +kernel
theorem dX7_removeOtherFaiths_28 : decode cX7_removeOtherFaiths 28 = .ok (.invokevirtual 449, 3) := by decide +kernel
theorem dX7_removeOtherFaiths_31 : decode cX7_removeOtherFaiths 31 = .ok (.pop, 1) := by decide +kernel
theorem dX7_removeOtherFaiths_32 : decode cX7_removeOtherFaiths 32 = .ok (.iinc 2 (-1), 3) := by decide +kernel
theorem dX7_removeOtherFaiths_35 : decode cX7_removeOtherFaiths 35 = .ok (.goto (-28), 3) := by decide +kernel
theorem dX7_removeOtherFaiths_38 : decode cX7_removeOtherFaiths 38 = .ok (.return_, 1) := by decide +kernel
theorem dX7_leaveEstate_0 : decode cX7_leaveEstate 0 = .ok (.aload_n 1, 1) := by decide +kernel
theorem dX7_leaveEstate_1 : decode cX7_leaveEstate 1 = .ok (.getfield 256, 3) := by decide +kernel
theorem dX7_leaveEstate_4 : decode cX7_leaveEstate 4 = .ok (.lstore 5, 2) := by decide +kernel
theorem dX7_leaveEstate_6 : decode cX7_leaveEstate 6 = .ok (.aload_n 1, 1) := by decide +kernel
theorem dX7_leaveEstate_7 : decode cX7_leaveEstate 7 = .ok (.lconst 0, 1) := by decide +kernel
theorem dX7_leaveEstate_8 : decode cX7_leaveEstate 8 = .ok (.putfield 256, 3) := by decide +kernel
theorem dX7_leaveEstate_11 : decode cX7_leaveEstate 11 = .ok (.aload_n 2, 1) := by decide +kernel
theorem dX7_leaveEstate_12 : decode cX7_leaveEstate 12 = .ok (.invokevirtual 452, 3) := by decide +kernel
theorem dX7_leaveEstate_15 : decode cX7_leaveEstate 15 = .ok (.ifCond .ne 37, 3) := by decide +kernel
theorem dX7_leaveEstate_18 : decode cX7_leaveEstate 18 = .ok (.lload 5, 2) := by decide +kernel
theorem dX7_leaveEstate_20 : decode cX7_leaveEstate 20 = .ok (.aload 4, 2) := by decide +kernel
theorem dX7_leaveEstate_22 : decode cX7_leaveEstate 22 = .ok (.iconst 3, 1) := by decide +kernel
theorem dX7_leaveEstate_23 : decode cX7_leaveEstate 23 = .ok (.aload_n 0, 1) := by decide +kernel
theorem dX7_leaveEstate_24 : decode cX7_leaveEstate 24 = .ok (.getfield 51, 3) := by decide +kernel
theorem dX7_leaveEstate_27 : decode cX7_leaveEstate 27 = .ok (.invokevirtual 114, 3) := by decide +kernel
theorem dX7_leaveEstate_30 : decode cX7_leaveEstate 30 = .ok (.i2l, 1) := by decide +kernel
theorem dX7_leaveEstate_31 : decode cX7_leaveEstate 31 = .ok (.lmul, 1) := by decide +kernel
theorem dX7_leaveEstate_32 : decode cX7_leaveEstate 32 = .ok (.ldc2_w 455, 3) := by decide +kernel
theorem dX7_leaveEstate_35 : decode cX7_leaveEstate 35 = .ok (.ldiv, 1) := by decide +kernel
theorem dX7_leaveEstate_36 : decode cX7_leaveEstate 36 = .ok (.lstore 7, 2) := by decide +kernel
theorem dX7_leaveEstate_38 : decode cX7_leaveEstate 38 = .ok (.lload 7, 2) := by decide +kernel
theorem dX7_leaveEstate_40 : decode cX7_leaveEstate 40 = .ok (.aload_n 2, 1) := by decide +kernel
theorem dX7_leaveEstate_41 : decode cX7_leaveEstate 41 = .ok (.iconst 0, 1) := by decide +kernel
theorem dX7_leaveEstate_42 : decode cX7_leaveEstate 42 = .ok (.invokestatic 457, 3) := by decide +kernel
theorem dX7_leaveEstate_45 : decode cX7_leaveEstate 45 = .ok (.lload 5, 2) := by decide +kernel
theorem dX7_leaveEstate_47 : decode cX7_leaveEstate 47 = .ok (.lload 7, 2) := by decide +kernel
theorem dX7_leaveEstate_49 : decode cX7_leaveEstate 49 = .ok (.lsub, 1) := by decide +kernel
theorem dX7_leaveEstate_50 : decode cX7_leaveEstate 50 = .ok (.lstore 5, 2) := by decide +kernel
theorem dX7_leaveEstate_52 : decode cX7_leaveEstate 52 = .ok (.aload_n 3, 1) := by decide +kernel
theorem dX7_leaveEstate_53 : decode cX7_leaveEstate 53 = .ok (.invokevirtual 452, 3) := by decide +kernel
theorem dX7_leaveEstate_56 : decode cX7_leaveEstate 56 = .ok (.ifCond .eq 17, 3) := by decide +kernel
theorem dX7_leaveEstate_59 : decode cX7_leaveEstate 59 = .ok (.aload_n 0, 1) := by decide +kernel
theorem dX7_leaveEstate_60 : decode cX7_leaveEstate 60 = .ok (.dup, 1) := by decide +kernel
theorem dX7_leaveEstate_61 : decode cX7_leaveEstate 61 = .ok (.getfield 54, 3) := by decide +kernel
theorem dX7_leaveEstate_64 : decode cX7_leaveEstate 64 = .ok (.lload 5, 2) := by decide +kernel
theorem dX7_leaveEstate_66 : decode cX7_leaveEstate 66 = .ok (.ladd, 1) := by decide +kernel
theorem dX7_leaveEstate_67 : decode cX7_leaveEstate 67 = .ok (.putfield 54, 3) := by decide +kernel
theorem dX7_leaveEstate_70 : decode cX7_leaveEstate 70 = .ok (.lload 5, 2) := by decide +kernel
theorem dX7_leaveEstate_72 : decode cX7_leaveEstate 72 = .ok (.lreturn, 1) := by decide +kernel
theorem dX7_leaveEstate_73 : decode cX7_leaveEstate 73 = .ok (.aload 4, 2) := by decide +kernel
theorem dX7_leaveEstate_75 : decode cX7_leaveEstate 75 = .ok (.iconst 0, 1) := by decide +kernel
theorem dX7_leaveEstate_76 : decode cX7_leaveEstate 76 = .ok (.aload_n 0, 1) := by decide +kernel
theorem dX7_leaveEstate_77 : decode cX7_leaveEstate 77 = .ok (.getfield 51, 3) := by decide +kernel
theorem dX7_leaveEstate_80 : decode cX7_leaveEstate 80 = .ok (.invokevirtual 114, 3) := by decide +kernel
theorem dX7_leaveEstate_83 : decode cX7_leaveEstate 83 = .ok (.istore 7, 2) := by decide +kernel
theorem dX7_leaveEstate_85 : decode cX7_leaveEstate 85 = .ok (.iload 7, 2) := by decide +kernel
theorem dX7_leaveEstate_87 : decode cX7_leaveEstate 87 = .ok (.iconst 2, 1) := by decide +kernel
theorem dX7_leaveEstate_88 : decode cX7_leaveEstate 88 = .ok (.if_icmp .ne 20, 3) := by decide +kernel
theorem dX7_leaveEstate_91 : decode cX7_leaveEstate 91 = .ok (.aload_n 3, 1) := by decide +kernel
theorem dX7_leaveEstate_92 : decode cX7_leaveEstate 92 = .ok (.invokestatic 461, 3) := by decide +kernel
theorem dX7_leaveEstate_95 : decode cX7_leaveEstate 95 = .ok (.dup, 1) := by decide +kernel
theorem dX7_leaveEstate_96 : decode cX7_leaveEstate 96 = .ok (.getfield 256, 3) := by decide +kernel
theorem dX7_leaveEstate_99 : decode cX7_leaveEstate 99 = .ok (.lload 5, 2) := by decide +kernel
theorem dX7_leaveEstate_101 : decode cX7_leaveEstate 101 = .ok (.ladd, 1) := by decide +kernel
theorem dX7_leaveEstate_102 : decode cX7_leaveEstate 102 = .ok (.putfield 256, 3) := by decide +kernel
theorem dX7_leaveEstate_105 : decode cX7_leaveEstate 105 = .ok (.goto 20, 3) := by decide +kernel
theorem dX7_leaveEstate_108 : decode cX7_leaveEstate 108 = .ok (.lload 5, 2) := by decide +kernel
theorem dX7_leaveEstate_110 : decode cX7_leaveEstate 110 = .ok (.aload_n 3, 1) := by decide +kernel
theorem dX7_leaveEstate_111 : decode cX7_leaveEstate 111 = .ok (.iload 7, 2) := by decide +kernel
theorem dX7_leaveEstate_113 : decode cX7_leaveEstate 113 = .ok (.iconst 1, 1) := by decide +kernel
theorem dX7_leaveEstate_114 : decode cX7_leaveEstate 114 = .ok (.if_icmp .ne 7, 3) := by decide +kernel
theorem dX7_leaveEstate_117 : decode cX7_leaveEstate 117 = .ok (.iconst 1, 1) := by decide +kernel
theorem dX7_leaveEstate_118 : decode cX7_leaveEstate 118 = .ok (.goto 4, 3) := by decide +kernel
theorem dX7_leaveEstate_121 : decode cX7_leaveEstate 121 = .ok (.iconst 0, 1) := by decide +kernel
theorem dX7_leaveEstate_122 : decode cX7_leaveEstate 122 = .ok (.invokestatic 457, 3) := by decide +kernel
theorem dX7_leaveEstate_125 : decode cX7_leaveEstate 125 = .ok (.lconst 0, 1) := by decide +kernel
theorem dX7_leaveEstate_126 : decode cX7_leaveEstate 126 = .ok (.lreturn, 1) := by decide +kernel
theorem dX7_divide_0 : decode cX7_divide 0 = .ok (.aload_n 2, 1) := by decide +kernel
theorem dX7_divide_1 : decode cX7_divide 1 = .ok (.invokevirtual 452, 3) := by decide +kernel
theorem dX7_divide_4 : decode cX7_divide 4 = .ok (.ifCond .eq 4, 3) := by decide +kernel
theorem dX7_divide_7 : decode cX7_divide 7 = .ok (.return_, 1) := by decide +kernel
theorem dX7_divide_8 : decode cX7_divide 8 = .ok (.iconst 0, 1) := by decide +kernel
theorem dX7_divide_9 : decode cX7_divide 9 = .ok (.istore 4, 2) := by decide +kernel
theorem dX7_divide_11 : decode cX7_divide 11 = .ok (.iconst 0, 1) := by decide +kernel
theorem dX7_divide_12 : decode cX7_divide 12 = .ok (.istore 5, 2) := by decide +kernel
theorem dX7_divide_14 : decode cX7_divide 14 = .ok (.iload 5, 2) := by decide +kernel
theorem dX7_divide_16 : decode cX7_divide 16 = .ok (.aload_n 2, 1) := by decide +kernel
theorem dX7_divide_17 : decode cX7_divide 17 = .ok (.invokevirtual 58, 3) := by decide +kernel
theorem dX7_divide_20 : decode cX7_divide 20 = .ok (.if_icmp .ge 27, 3) := by decide +kernel
theorem dX7_divide_23 : decode cX7_divide 23 = .ok (.iload 4, 2) := by decide +kernel
theorem dX7_divide_25 : decode cX7_divide 25 = .ok (.aload_n 2, 1) := by decide +kernel
theorem dX7_divide_26 : decode cX7_divide 26 = .ok (.iload 5, 2) := by decide +kernel
theorem dX7_divide_28 : decode cX7_divide 28 = .ok (.invokevirtual 384, 3) := by decide +kernel
theorem dX7_divide_31 : decode cX7_divide 31 = .ok (.checkcast 128, 3) := by decide +kernel
theorem dX7_divide_34 : decode cX7_divide 34 = .ok (.iload_n 3, 1) := by decide +kernel
theorem dX7_divide_35 : decode cX7_divide 35 = .ok (.invokevirtual 465, 3) := by decide +kernel
theorem dX7_divide_38 : decode cX7_divide 38 = .ok (.iadd, 1) := by decide +kernel
theorem dX7_divide_39 : decode cX7_divide 39 = .ok (.istore 4, 2) := by decide +kernel
theorem dX7_divide_41 : decode cX7_divide 41 = .ok (.iinc 5 1, 3) := by decide +kernel
theorem dX7_divide_44 : decode cX7_divide 44 = .ok (.goto (-30), 3) := by decide +kernel
theorem dX7_divide_47 : decode cX7_divide 47 = .ok (.lload_n 0, 1) := by decide +kernel
theorem dX7_divide_48 : decode cX7_divide 48 = .ok (.iload 4, 2) := by decide +kernel
theorem dX7_divide_50 : decode cX7_divide 50 = .ok (.iconst 1, 1) := by decide +kernel
theorem dX7_divide_51 : decode cX7_divide 51 = .ok (.invokestatic 132, 3) := by decide +kernel
theorem dX7_divide_54 : decode cX7_divide 54 = .ok (.i2l, 1) := by decide +kernel
theorem dX7_divide_55 : decode cX7_divide 55 = .ok (.ldiv, 1) := by decide +kernel
theorem dX7_divide_56 : decode cX7_divide 56 = .ok (.lstore 5, 2) := by decide +kernel
theorem dX7_divide_58 : decode cX7_divide 58 = .ok (.iconst 0, 1) := by decide +kernel
theorem dX7_divide_59 : decode cX7_divide 59 = .ok (.istore 7, 2) := by decide +kernel
theorem dX7_divide_61 : decode cX7_divide 61 = .ok (.iload 7, 2) := by decide +kernel
theorem dX7_divide_63 : decode cX7_divide 63 = .ok (.aload_n 2, 1) := by decide +kernel
theorem dX7_divide_64 : decode cX7_divide 64 = .ok (.invokevirtual 58, 3) := by decide +kernel
theorem dX7_divide_67 : decode cX7_divide 67 = .ok (.if_icmp .ge 43, 3) := by decide +kernel
theorem dX7_divide_70 : decode cX7_divide 70 = .ok (.aload_n 2, 1) := by decide +kernel
theorem dX7_divide_71 : decode cX7_divide 71 = .ok (.iload 7, 2) := by decide +kernel
theorem dX7_divide_73 : decode cX7_divide 73 = .ok (.invokevirtual 384, 3) := by decide +kernel
theorem dX7_divide_76 : decode cX7_divide 76 = .ok (.checkcast 128, 3) := by decide +kernel
theorem dX7_divide_79 : decode cX7_divide 79 = .ok (.dup, 1) := by decide +kernel
theorem dX7_divide_80 : decode cX7_divide 80 = .ok (.getfield 256, 3) := by decide +kernel
theorem dX7_divide_83 : decode cX7_divide 83 = .ok (.lload 5, 2) := by decide +kernel
theorem dX7_divide_85 : decode cX7_divide 85 = .ok (.aload_n 2, 1) := by decide +kernel
theorem dX7_divide_86 : decode cX7_divide 86 = .ok (.iload 7, 2) := by decide +kernel
theorem dX7_divide_88 : decode cX7_divide 88 = .ok (.invokevirtual 384, 3) := by decide +kernel
theorem dX7_divide_91 : decode cX7_divide 91 = .ok (.checkcast 128, 3) := by decide +kernel
theorem dX7_divide_94 : decode cX7_divide 94 = .ok (.iload_n 3, 1) := by decide +kernel
theorem dX7_divide_95 : decode cX7_divide 95 = .ok (.invokevirtual 465, 3) := by decide +kernel
theorem dX7_divide_98 : decode cX7_divide 98 = .ok (.i2l, 1) := by decide +kernel
theorem dX7_divide_99 : decode cX7_divide 99 = .ok (.lmul, 1) := by decide +kernel
theorem dX7_divide_100 : decode cX7_divide 100 = .ok (.ladd, 1) := by decide +kernel
theorem dX7_divide_101 : decode cX7_divide 101 = .ok (.putfield 256, 3) := by decide +kernel
theorem dX7_divide_104 : decode cX7_divide 104 = .ok (.iinc 7 1, 3) := by decide +kernel
theorem dX7_divide_107 : decode cX7_divide 107 = .ok (.goto (-46), 3) := by decide +kernel
theorem dX7_divide_110 : decode cX7_divide 110 = .ok (.aload_n 2, 1) := by decide +kernel
theorem dX7_divide_111 : decode cX7_divide 111 = .ok (.invokestatic 461, 3) := by decide +kernel
theorem dX7_divide_114 : decode cX7_divide 114 = .ok (.dup, 1) := by decide +kernel
theorem dX7_divide_115 : decode cX7_divide 115 = .ok (.getfield 256, 3) := by decide +kernel
theorem dX7_divide_118 : decode cX7_divide 118 = .ok (.lload_n 0, 1) := by decide +kernel
theorem dX7_divide_119 : decode cX7_divide 119 = .ok (.lload 5, 2) := by decide +kernel
theorem dX7_divide_121 : decode cX7_divide 121 = .ok (.iload 4, 2) := by decide +kernel
theorem dX7_divide_123 : decode cX7_divide 123 = .ok (.i2l, 1) := by decide +kernel
theorem dX7_divide_124 : decode cX7_divide 124 = .ok (.lmul, 1) := by decide +kernel
theorem dX7_divide_125 : decode cX7_divide 125 = .ok (.lsub, 1) := by decide +kernel
theorem dX7_divide_126 : decode cX7_divide 126 = .ok (.ladd, 1) := by decide +kernel
theorem dX7_divide_127 : decode cX7_divide 127 = .ok (.putfield 256, 3) := by decide +kernel
theorem dX7_divide_130 : decode cX7_divide 130 = .ok (.return_, 1) := by decide +kernel
theorem dX7_lowestOf_0 : decode cX7_lowestOf 0 = .ok (.aload_n 0, 1) := by decide +kernel
theorem dX7_lowestOf_1 : decode cX7_lowestOf 1 = .ok (.iconst 0, 1) := by decide +kernel
theorem dX7_lowestOf_2 : decode cX7_lowestOf 2 = .ok (.invokevirtual 384, 3) := by decide +kernel
theorem dX7_lowestOf_5 : decode cX7_lowestOf 5 = .ok (.checkcast 128, 3) := by decide +kernel
theorem dX7_lowestOf_8 : decode cX7_lowestOf 8 = .ok (.astore_n 1, 1) := by decide +kernel
theorem dX7_lowestOf_9 : decode cX7_lowestOf 9 = .ok (.iconst 1, 1) := by decide +kernel
theorem dX7_lowestOf_10 : decode cX7_lowestOf 10 = .ok (.istore_n 2, 1) := by decide +kernel
theorem dX7_lowestOf_11 : decode cX7_lowestOf 11 = .ok (.iload_n 2, 1) := by decide +kernel
theorem dX7_lowestOf_12 : decode cX7_lowestOf 12 = .ok (.aload_n 0, 1) := by decide +kernel
theorem dX7_lowestOf_13 : decode cX7_lowestOf 13 = .ok (.invokevirtual 58, 3) := by decide +kernel
theorem dX7_lowestOf_16 : decode cX7_lowestOf 16 = .ok (.if_icmp .ge 36, 3) := by decide +kernel
theorem dX7_lowestOf_19 : decode cX7_lowestOf 19 = .ok (.aload_n 0, 1) := by decide +kernel
theorem dX7_lowestOf_20 : decode cX7_lowestOf 20 = .ok (.iload_n 2, 1) := by decide +kernel
theorem dX7_lowestOf_21 : decode cX7_lowestOf 21 = .ok (.invokevirtual 384, 3) := by decide +kernel
theorem dX7_lowestOf_24 : decode cX7_lowestOf 24 = .ok (.checkcast 128, 3) := by decide +kernel
theorem dX7_lowestOf_27 : decode cX7_lowestOf 27 = .ok (.getfield 379, 3) := by decide +kernel
theorem dX7_lowestOf_30 : decode cX7_lowestOf 30 = .ok (.aload_n 1, 1) := by decide +kernel
theorem dX7_lowestOf_31 : decode cX7_lowestOf 31 = .ok (.getfield 379, 3) := by decide +kernel
theorem dX7_lowestOf_34 : decode cX7_lowestOf 34 = .ok (.if_icmp .ge 12, 3) := by decide +kernel
theorem dX7_lowestOf_37 : decode cX7_lowestOf 37 = .ok (.aload_n 0, 1) := by decide +kernel
theorem dX7_lowestOf_38 : decode cX7_lowestOf 38 = .ok (.iload_n 2, 1) := by decide +kernel
theorem dX7_lowestOf_39 : decode cX7_lowestOf 39 = .ok (.invokevirtual 384, 3) := by decide +kernel
theorem dX7_lowestOf_42 : decode cX7_lowestOf 42 = .ok (.checkcast 128, 3) := by decide +kernel
theorem dX7_lowestOf_45 : decode cX7_lowestOf 45 = .ok (.astore_n 1, 1) := by decide +kernel
theorem dX7_lowestOf_46 : decode cX7_lowestOf 46 = .ok (.iinc 2 1, 3) := by decide +kernel
theorem dX7_lowestOf_49 : decode cX7_lowestOf 49 = .ok (.goto (-38), 3) := by decide +kernel
theorem dX7_lowestOf_52 : decode cX7_lowestOf 52 = .ok (.aload_n 1, 1) := by decide +kernel
theorem dX7_lowestOf_53 : decode cX7_lowestOf 53 = .ok (.areturn, 1) := by decide +kernel
theorem dX7_isSeisedBetween_0 : decode cX7_isSeisedBetween 0 = .ok (.iconst 0, 1) := by decide +kernel
theorem dX7_isSeisedBetween_1 : decode cX7_isSeisedBetween 1 = .ok (.istore_n 3, 1) := by decide +kernel
theorem dX7_isSeisedBetween_2 : decode cX7_isSeisedBetween 2 = .ok (.iload_n 3, 1) := by decide +kernel
theorem dX7_isSeisedBetween_3 : decode cX7_isSeisedBetween 3 = .ok (.aload_n 0, 1) := by decide +kernel
theorem dX7_isSeisedBetween_4 : decode cX7_isSeisedBetween 4 = .ok (.getfield 41, 3) := by decide +kernel
theorem dX7_isSeisedBetween_7 : decode cX7_isSeisedBetween 7 = .ok (.invokevirtual 58, 3) := by decide +kernel
theorem dX7_isSeisedBetween_10 : decode cX7_isSeisedBetween 10 = .ok (.if_icmp .ge 50, 3) := by decide +kernel
theorem dX7_isSeisedBetween_13 : decode cX7_isSeisedBetween 13 = .ok (.aload_n 0, 1) := by decide +kernel
theorem dX7_isSeisedBetween_14 : decode cX7_isSeisedBetween 14 = .ok (.getfield 41, 3) := by decide +kernel
theorem dX7_isSeisedBetween_17 : decode cX7_isSeisedBetween 17 = .ok (.iload_n 3, 1) := by decide +kernel
theorem dX7_isSeisedBetween_18 : decode cX7_isSeisedBetween 18 = .ok (.invokevirtual 384, 3) := by decide +kernel
theorem dX7_isSeisedBetween_21 : decode cX7_isSeisedBetween 21 = .ok (.checkcast 280, 3) := by decide +kernel
theorem dX7_isSeisedBetween_24 : decode cX7_isSeisedBetween 24 = .ok (.astore 4, 2) := by decide +kernel
theorem dX7_isSeisedBetween_26 : decode cX7_isSeisedBetween 26 = .ok (.aload 4, 2) := by decide +kernel
theorem dX7_isSeisedBetween_28 : decode cX7_isSeisedBetween 28 = .ok (.getfield 287, 3) := by decide +kernel
theorem dX7_isSeisedBetween_31 : decode cX7_isSeisedBetween 31 = .ok (.ifCond .ne 23, 3) := by decide +kernel
theorem dX7_isSeisedBetween_34 : decode cX7_isSeisedBetween 34 = .ok (.aload 4, 2) := by decide +kernel
theorem dX7_isSeisedBetween_36 : decode cX7_isSeisedBetween 36 = .ok (.aload_n 1, 1) := by decide +kernel
theorem dX7_isSeisedBetween_37 : decode cX7_isSeisedBetween 37 = .ok (.invokevirtual 304, 3) := by decide +kernel
theorem dX7_isSeisedBetween_40 : decode cX7_isSeisedBetween 40 = .ok (.ifCond .eq 14, 3) := by decide +kernel
theorem dX7_isSeisedBetween_43 : decode cX7_isSeisedBetween 43 = .ok (.aload 4, 2) := by decide +kernel
theorem dX7_isSeisedBetween_45 : decode cX7_isSeisedBetween 45 = .ok (.aload_n 2, 1) := by decide +kernel
theorem dX7_isSeisedBetween_46 : decode cX7_isSeisedBetween 46 = .ok (.invokevirtual 304, 3) := by decide +kernel
theorem dX7_isSeisedBetween_49 : decode cX7_isSeisedBetween 49 = .ok (.ifCond .eq 5, 3) := by decide +kernel
theorem dX7_isSeisedBetween_52 : decode cX7_isSeisedBetween 52 = .ok (.iconst 1, 1) := by decide +kernel
theorem dX7_isSeisedBetween_53 : decode cX7_isSeisedBetween 53 = .ok (.ireturn, 1) := by decide +kernel
theorem dX7_isSeisedBetween_54 : decode cX7_isSeisedBetween 54 = .ok (.iinc 3 1, 3) := by decide +kernel
theorem dX7_isSeisedBetween_57 : decode cX7_isSeisedBetween 57 = .ok (.goto (-55), 3) := by decide +kernel
theorem dX7_isSeisedBetween_60 : decode cX7_isSeisedBetween 60 = .ok (.iconst 0, 1) := by decide +kernel
theorem dX7_isSeisedBetween_61 : decode cX7_isSeisedBetween 61 = .ok (.ireturn, 1) := by decide +kernel
theorem dX7_isWonBefore_0 : decode cX7_isWonBefore 0 = .ok (.aload_n 2, 1) := by decide +kernel
theorem dX7_isWonBefore_1 : decode cX7_isWonBefore 1 = .ok (.bipush 6, 2) := by decide +kernel
theorem dX7_isWonBefore_3 : decode cX7_isWonBefore 3 = .ok (.aload_n 0, 1) := by decide +kernel
theorem dX7_isWonBefore_4 : decode cX7_isWonBefore 4 = .ok (.getfield 51, 3) := by decide +kernel
theorem dX7_isWonBefore_7 : decode cX7_isWonBefore 7 = .ok (.invokevirtual 114, 3) := by decide +kernel
theorem dX7_isWonBefore_10 : decode cX7_isWonBefore 10 = .ok (.istore_n 3, 1) := by decide +kernel
theorem dX7_isWonBefore_11 : decode cX7_isWonBefore 11 = .ok (.iconst 0, 1) := by decide +kernel
theorem dX7_isWonBefore_12 : decode cX7_isWonBefore 12 = .ok (.istore 4, 2) := by decide +kernel
theorem dX7_isWonBefore_14 : decode cX7_isWonBefore 14 = .ok (.iconst 0, 1) := by decide +kernel
theorem dX7_isWonBefore_15 : decode cX7_isWonBefore 15 = .ok (.istore 5, 2) := by decide +kernel
theorem dX7_isWonBefore_17 : decode cX7_isWonBefore 17 = .ok (.iconst 0, 1) := by decide +kernel
theorem dX7_isWonBefore_18 : decode cX7_isWonBefore 18 = .ok (.istore 6, 2) := by decide +kernel
theorem dX7_isWonBefore_20 : decode cX7_isWonBefore 20 = .ok (.iload 6, 2) := by decide +kernel
theorem dX7_isWonBefore_22 : decode cX7_isWonBefore 22 = .ok (.aload_n 1, 1) := by decide +kernel
theorem dX7_isWonBefore_23 : decode cX7_isWonBefore 23 = .ok (.getfield 313, 3) := by decide +kernel
theorem dX7_isWonBefore_26 : decode cX7_isWonBefore 26 = .ok (.invokevirtual 58, 3) := by decide +kernel
theorem dX7_isWonBefore_29 : decode cX7_isWonBefore 29 = .ok (.if_icmp .ge 64, 3) := by decide +kernel
theorem dX7_isWonBefore_32 : decode cX7_isWonBefore 32 = .ok (.aload_n 1, 1) := by decide +kernel
theorem dX7_isWonBefore_33 : decode cX7_isWonBefore 33 = .ok (.getfield 313, 3) := by decide +kernel
theorem dX7_isWonBefore_36 : decode cX7_isWonBefore 36 = .ok (.iload 6, 2) := by decide +kernel
theorem dX7_isWonBefore_38 : decode cX7_isWonBefore 38 = .ok (.invokevirtual 384, 3) := by decide +kernel
theorem dX7_isWonBefore_41 : decode cX7_isWonBefore 41 = .ok (.checkcast 316, 3) := by decide +kernel
theorem dX7_isWonBefore_44 : decode cX7_isWonBefore 44 = .ok (.astore 7, 2) := by decide +kernel
theorem dX7_isWonBefore_46 : decode cX7_isWonBefore 46 = .ok (.iconst 1, 1) := by decide +kernel
theorem dX7_isWonBefore_47 : decode cX7_isWonBefore 47 = .ok (.iload_n 3, 1) := by decide +kernel
theorem dX7_isWonBefore_48 : decode cX7_isWonBefore 48 = .ok (.aload 7, 2) := by decide +kernel
theorem dX7_isWonBefore_50 : decode cX7_isWonBefore 50 = .ok (.getfield 469, 3) := by decide +kernel
theorem dX7_isWonBefore_53 : decode cX7_isWonBefore 53 = .ok (.invokevirtual 172, 3) := by decide +kernel
theorem dX7_isWonBefore_56 : decode cX7_isWonBefore 56 = .ok (.ishr, 1) := by decide +kernel
theorem dX7_isWonBefore_57 : decode cX7_isWonBefore 57 = .ok (.iconst 1, 1) := by decide +kernel
theorem dX7_isWonBefore_58 : decode cX7_isWonBefore 58 = .ok (.iand, 1) := by decide +kernel
theorem dX7_isWonBefore_59 : decode cX7_isWonBefore 59 = .ok (.iadd, 1) := by decide +kernel
theorem dX7_isWonBefore_60 : decode cX7_isWonBefore 60 = .ok (.istore 8, 2) := by decide +kernel
theorem dX7_isWonBefore_62 : decode cX7_isWonBefore 62 = .ok (.aload 7, 2) := by decide +kernel
theorem dX7_isWonBefore_64 : decode cX7_isWonBefore 64 = .ok (.getfield 472, 3) := by decide +kernel
theorem dX7_isWonBefore_67 : decode cX7_isWonBefore 67 = .ok (.ifCond .eq 13, 3) := by decide +kernel
theorem dX7_isWonBefore_70 : decode cX7_isWonBefore 70 = .ok (.iload 4, 2) := by decide +kernel
theorem dX7_isWonBefore_72 : decode cX7_isWonBefore 72 = .ok (.iload 8, 2) := by decide +kernel
theorem dX7_isWonBefore_74 : decode cX7_isWonBefore 74 = .ok (.iadd, 1) := by decide +kernel
theorem dX7_isWonBefore_75 : decode cX7_isWonBefore 75 = .ok (.istore 4, 2) := by decide +kernel
theorem dX7_isWonBefore_77 : decode cX7_isWonBefore 77 = .ok (.goto 10, 3) := by decide +kernel
theorem dX7_isWonBefore_80 : decode cX7_isWonBefore 80 = .ok (.iload 5, 2) := by decide +kernel
theorem dX7_isWonBefore_82 : decode cX7_isWonBefore 82 = .ok (.iload 8, 2) := by decide +kernel
theorem dX7_isWonBefore_84 : decode cX7_isWonBefore 84 = .ok (.iadd, 1) := by decide +kernel
theorem dX7_isWonBefore_85 : decode cX7_isWonBefore 85 = .ok (.istore 5, 2) := by decide +kernel
theorem dX7_isWonBefore_87 : decode cX7_isWonBefore 87 = .ok (.iinc 6 1, 3) := by decide +kernel
theorem dX7_isWonBefore_90 : decode cX7_isWonBefore 90 = .ok (.goto (-70), 3) := by decide +kernel
theorem dX7_isWonBefore_93 : decode cX7_isWonBefore 93 = .ok (.iload 4, 2) := by decide +kernel
theorem dX7_isWonBefore_95 : decode cX7_isWonBefore 95 = .ok (.iload 5, 2) := by decide +kernel
theorem dX7_isWonBefore_97 : decode cX7_isWonBefore 97 = .ok (.if_icmp .le 13, 3) := by decide +kernel
theorem dX7_isWonBefore_100 : decode cX7_isWonBefore 100 = .ok (.iload 4, 2) := by decide +kernel
theorem dX7_isWonBefore_102 : decode cX7_isWonBefore 102 = .ok (.iconst 4, 1) := by decide +kernel
theorem dX7_isWonBefore_103 : decode cX7_isWonBefore 103 = .ok (.if_icmp .lt 7, 3) := by decide +kernel
theorem dX7_isWonBefore_106 : decode cX7_isWonBefore 106 = .ok (.iconst 1, 1) := by decide +kernel
theorem dX7_isWonBefore_107 : decode cX7_isWonBefore 107 = .ok (.goto 4, 3) := by decide +kernel
theorem dX7_isWonBefore_110 : decode cX7_isWonBefore 110 = .ok (.iconst 0, 1) := by decide +kernel
theorem dX7_isWonBefore_111 : decode cX7_isWonBefore 111 = .ok (.ireturn, 1) := by decide +kernel
end
section
theorem dX8_init_0 : decode cX8_init 0 = .ok (.aload_n 0, 1) := by decide +kernel
theorem dX8_init_1 : decode cX8_init 1 = .ok (.invokespecial 1, 3) := by decide +kernel
theorem dX8_init_4 : decode cX8_init 4 = .ok (.aload_n 0, 1) := by decide +kernel
theorem dX8_init_5 : decode cX8_init 5 = .ok (.sipush 5628, 3) := by decide +kernel
theorem dX8_init_8 : decode cX8_init 8 = .ok (.newarray .int, 2) := by decide +kernel
theorem dX8_init_10 : decode cX8_init 10 = .ok (.putfield 7, 3) := by decide +kernel
theorem dX8_init_13 : decode cX8_init 13 = .ok (.aload_n 0, 1) := by decide +kernel
theorem dX8_init_14 : decode cX8_init 14 = .ok (.bipush 100, 2) := by decide +kernel
theorem dX8_init_16 : decode cX8_init 16 = .ok (.newarray .int, 2) := by decide +kernel
theorem dX8_init_18 : decode cX8_init 18 = .ok (.putfield 13, 3) := by decide +kernel
theorem dX8_init_21 : decode cX8_init 21 = .ok (.aload_n 0, 1) := by decide +kernel
theorem dX8_init_22 : decode cX8_init 22 = .ok (.bipush 100, 2) := by decide +kernel
theorem dX8_init_24 : decode cX8_init 24 = .ok (.newarray .int, 2) := by decide +kernel
theorem dX8_init_26 : decode cX8_init 26 = .ok (.putfield 16, 3) := by decide +kernel
theorem dX8_init_29 : decode cX8_init 29 = .ok (.aload_n 0, 1) := by decide +kernel
theorem dX8_init_30 : decode cX8_init 30 = .ok (.bipush 100, 2) := by decide +kernel
theorem dX8_init_32 : decode cX8_init 32 = .ok (.newarray .int, 2) := by decide +kernel
theorem dX8_init_34 : decode cX8_init 34 = .ok (.putfield 19, 3) := by decide +kernel
theorem dX8_init_37 : decode cX8_init 37 = .ok (.aload_n 0, 1) := by decide +kernel
theorem dX8_init_38 : decode cX8_init 38 = .ok (.bipush 100, 2) := by decide +kernel
theorem dX8_init_40 : decode cX8_init 40 = .ok (.newarray .int, 2) := by decide +kernel
theorem dX8_init_42 : decode cX8_init 42 = .ok (.putfield 22, 3) := by decide +kernel
theorem dX8_init_45 : decode cX8_init 45 = .ok (.aload_n 0, 1) := by decide +kernel
theorem dX8_init_46 : decode cX8_init 46 = .ok (.bipush 40, 2) := by decide +kernel
theorem dX8_init_48 : decode cX8_init 48 = .ok (.newarray .int, 2) := by decide +kernel
theorem dX8_init_50 : decode cX8_init 50 = .ok (.putfield 25, 3) := by decide +kernel
theorem dX8_init_53 : decode cX8_init 53 = .ok (.aload_n 0, 1) := by decide +kernel
theorem dX8_init_54 : decode cX8_init 54 = .ok (.bipush 40, 2) := by decide +kernel
theorem dX8_init_56 : decode cX8_init 56 = .ok (.newarray .int, 2) := by decide +kernel
theorem dX8_init_58 : decode cX8_init 58 = .ok (.putfield 28, 3) := by decide +kernel
theorem dX8_init_61 : decode cX8_init 61 = .ok (.aload_n 0, 1) := by decide +kernel
theorem dX8_init_62 : decode cX8_init 62 = .ok (.bipush 40, 2) := by decide +kernel
theorem dX8_init_64 : decode cX8_init 64 = .ok (.newarray .int, 2) := by decide +kernel
theorem dX8_init_66 : decode cX8_init 66 = .ok (.putfield 31, 3) := by decide +kernel
theorem dX8_init_69 : decode cX8_init 69 = .ok (.aload_n 0, 1) := by decide +kernel
theorem dX8_init_70 : decode cX8_init 70 = .ok (.bipush 40, 2) := by decide +kernel
theorem dX8_init_72 : decode cX8_init 72 = .ok (.newarray .boolean, 2) := by decide +kernel
theorem dX8_init_74 : decode cX8_init 74 = .ok (.putfield 34, 3) := by decide +kernel
theorem dX8_init_77 : decode cX8_init 77 = .ok (.aload_n 0, 1) := by decide +kernel
theorem dX8_init_78 : decode cX8_init 78 = .ok (.bipush 40, 2) := by decide +kernel
theorem dX8_init_80 : decode cX8_init 80 = .ok (.newarray .int, 2) := by decide +kernel
theorem dX8_init_82 : decode cX8_init 82 = .ok (.putfield 38, 3) := by decide +kernel
theorem dX8_init_85 : decode cX8_init 85 = .ok (.aload_n 0, 1) := by decide +kernel
theorem dX8_init_86 : decode cX8_init 86 = .ok (.bipush 40, 2) := by decide +kernel
theorem dX8_init_88 : decode cX8_init 88 = .ok (.newarray .int, 2) := by decide +kernel
theorem dX8_init_90 : decode cX8_init 90 = .ok (.putfield 41, 3) := by decide +kernel
theorem dX8_init_93 : decode cX8_init 93 = .ok (.aload_n 0, 1) := by decide +kernel
theorem dX8_init_94 : decode cX8_init 94 = .ok (.bipush 40, 2) := by decide +kernel
theorem dX8_init_96 : decode cX8_init 96 = .ok (.newarray .int, 2) := by decide +kernel
theorem dX8_init_98 : decode cX8_init 98 = .ok (.putfield 44, 3) := by decide +kernel
theorem dX8_init_101 : decode cX8_init 101 = .ok (.aload_n 0, 1) := by decide +kernel
theorem dX8_init_102 : decode cX8_init 102 = .ok (.bipush 40, 2) := by decide +kernel
theorem dX8_init_104 : decode cX8_init 104 = .ok (.newarray .boolean, 2) := by decide +kernel
theorem dX8_init_106 : decode cX8_init 106 = .ok (.putfield 47, 3) := by decide +kernel
theorem dX8_init_109 : decode cX8_init 109 = .ok (.aload_n 0, 1) := by decide +kernel
theorem dX8_init_110 : decode cX8_init 110 = .ok (.bipush 40, 2) := by decide +kernel
theorem dX8_init_112 : decode cX8_init 112 = .ok (.newarray .long, 2) := by decide +kernel
theorem dX8_init_114 : decode cX8_init 114 = .ok (.putfield 50, 3) := by decide +kernel
theorem dX8_init_117 : decode cX8_init 117 = .ok (.aload_n 0, 1) := by decide +kernel
theorem dX8_init_118 : decode cX8_init 118 = .ok (.bipush 40, 2) := by decide +kernel
theorem dX8_init_120 : decode cX8_init 120 = .ok (.newarray .int, 2) := by decide +kernel
theorem dX8_init_122 : decode cX8_init 122 = .ok (.putfield 54, 3) := by decide +kernel
theorem dX8_init_125 : decode cX8_init 125 = .ok (.aload_n 0, 1) := by decide +kernel
theorem dX8_init_126 : decode cX8_init 126 = .ok (.ldc 57, 2) := by decide +kernel
theorem dX8_init_128 : decode cX8_init 128 = .ok (.newarray .int, 2) := by decide +kernel
theorem dX8_init_130 : decode cX8_init 130 = .ok (.putfield 58, 3) := by decide +kernel
theorem dX8_init_133 : decode cX8_init 133 = .ok (.aload_n 0, 1) := by decide +kernel
theorem dX8_init_134 : decode cX8_init 134 = .ok (.bipush 40, 2) := by decide +kernel
theorem dX8_init_136 : decode cX8_init 136 = .ok (.newarray .int, 2) := by decide +kernel
theorem dX8_init_138 : decode cX8_init 138 = .ok (.putfield 61, 3) := by decide +kernel
theorem dX8_init_141 : decode cX8_init 141 = .ok (.aload_n 0, 1) := by decide +kernel
theorem dX8_init_142 : decode cX8_init 142 = .ok (.bipush 40, 2) := by decide +kernel
theorem dX8_init_144 : decode cX8_init 144 = .ok (.newarray .int, 2) := by decide +kernel
theorem dX8_init_146 : decode cX8_init 146 = .ok (.putfield 64, 3) := by decide +kernel
theorem dX8_init_149 : decode cX8_init 149 = .ok (.aload_n 0, 1) := by decide +kernel
theorem dX8_init_150 : decode cX8_init 150 = .ok (.bipush 40, 2) := by decide +kernel
theorem dX8_init_152 : decode cX8_init 152 = .ok (.newarray .boolean, 2) := by decide +kernel
theorem dX8_init_154 : decode cX8_init 154 = .ok (.putfield 67, 3) := by decide +kernel
theorem dX8_init_157 : decode cX8_init 157 = .ok (.aload_n 0, 1) := by decide +kernel
theorem dX8_init_158 : decode cX8_init 158 = .ok (.bipush 30, 2) := by decide +kernel
theorem dX8_init_160 : decode cX8_init 160 = .ok (.newarray .int, 2) := by decide +kernel
theorem dX8_init_162 : decode cX8_init 162 = .ok (.putfield 70, 3) := by decide +kernel
theorem dX8_init_165 : decode cX8_init 165 = .ok (.aload_n 0, 1) := by decide +kernel
theorem dX8_init_166 : decode cX8_init 166 = .ok (.bipush 30, 2) := by decide +kernel
theorem dX8_init_168 : decode cX8_init 168 = .ok (.newarray .int, 2) := by decide +kernel
theorem dX8_init_170 : decode cX8_init 170 = .ok (.putfield 73, 3) := by decide +kernel
theorem dX8_init_173 : decode cX8_init 173 = .ok (.aload_n 0, 1) := by decide +kernel
theorem dX8_init_174 : decode cX8_init 174 = .ok (.bipush 30, 2) := by decide +kernel
theorem dX8_init_176 : decode cX8_init 176 = .ok (.newarray .int, 2) := by decide +kernel
theorem dX8_init_178 : decode cX8_init 178 = .ok (.putfield 76, 3) := by decide +kernel
theorem dX8_init_181 : decode cX8_init 181 = .ok (.aload_n 0, 1) := by decide +kernel
theorem dX8_init_182 : decode cX8_init 182 = .ok (.bipush 30, 2) := by decide +kernel
theorem dX8_init_184 : decode cX8_init 184 = .ok (.newarray .int, 2) := by decide +kernel
theorem dX8_init_186 : decode cX8_init 186 = .ok (.putfield 79, 3) := by decide +kernel
theorem dX8_init_189 : decode cX8_init 189 = .ok (.aload_n 0, 1) := by decide +kernel
theorem dX8_init_190 : decode cX8_init 190 = .ok (.bipush 30, 2) := by decide +kernel
theorem dX8_init_192 : decode cX8_init 192 = .ok (.newarray .int, 2) := by decide +kernel
theorem dX8_init_194 : decode cX8_init 194 = .ok (.putfield 82, 3) := by decide +kernel
theorem dX8_init_197 : decode cX8_init 197 = .ok (.aload_n 0, 1) := by decide +kernel
theorem dX8_init_198 : decode cX8_init 198 = .ok (.bipush 30, 2) := by decide +kernel
theorem dX8_init_200 : decode cX8_init 200 = .ok (.newarray .boolean, 2) := by decide +kernel
theorem dX8_init_202 : decode cX8_init 202 = .ok (.putfield 85, 3) := by decide +kernel
theorem dX8_init_205 : decode cX8_init 205 = .ok (.aload_n 0, 1) := by decide +kernel
theorem dX8_init_206 : decode cX8_init 206 = .ok (.bipush 30, 2) := by decide +kernel
theorem dX8_init_208 : decode cX8_init 208 = .ok (.newarray .boolean, 2) := by decide +kernel
theorem dX8_init_210 : decode cX8_init 210 = .ok (.putfield 88, 3) := by decide +kernel
theorem dX8_init_213 : decode cX8_init 213 = .ok (.aload_n 0, 1) := by decide +kernel
theorem dX8_init_214 : decode cX8_init 214 = .ok (.bipush 20, 2) := by decide +kernel
theorem dX8_init_216 : decode cX8_init 216 = .ok (.newarray .int, 2) := by decide +kernel
theorem dX8_init_218 : decode cX8_init 218 = .ok (.putfield 91, 3) := by decide +kernel
theorem dX8_init_221 : decode cX8_init 221 = .ok (.aload_n 0, 1) := by decide +kernel
theorem dX8_init_222 : decode cX8_init 222 = .ok (.bipush 20, 2) := by decide +kernel
theorem dX8_init_224 : decode cX8_init 224 = .ok (.newarray .int, 2) := by decide +kernel
theorem dX8_init_226 : decode cX8_init 226 = .ok (.putfield 94, 3) := by decide +kernel
theorem dX8_init_229 : decode cX8_init 229 = .ok (.aload_n 0, 1) := by decide +kernel
theorem dX8_init_230 : decode cX8_init 230 = .ok (.bipush 20, 2) := by decide +kernel
theorem dX8_init_232 : decode cX8_init 232 = .ok (.newarray .int, 2) := by decide +kernel
theorem dX8_init_234 : decode cX8_init 234 = .ok (.putfield 97, 3) := by decide +kernel
theorem dX8_init_237 : decode cX8_init 237 = .ok (.aload_n 0, 1) := by decide +kernel
theorem dX8_init_238 : decode cX8_init 238 = .ok (.bipush 20, 2) := by decide +kernel
theorem dX8_init_240 : decode cX8_init 240 = .ok (.newarray .int, 2) := by decide +kernel
theorem dX8_init_242 : decode cX8_init 242 = .ok (.putfield 100, 3) := by decide +kernel
theorem dX8_init_245 : decode cX8_init 245 = .ok (.aload_n 0, 1) := by decide +kernel
theorem dX8_init_246 : decode cX8_init 246 = .ok (.bipush 20, 2) := by decide +kernel
theorem dX8_init_248 : decode cX8_init 248 = .ok (.newarray .boolean, 2) := by decide +kernel
theorem dX8_init_250 : decode cX8_init 250 = .ok (.putfield 103, 3) := by decide +kernel
theorem dX8_init_253 : decode cX8_init 253 = .ok (.aload_n 0, 1) := by decide +kernel
theorem dX8_init_254 : decode cX8_init 254 = .ok (.bipush 20, 2) := by decide +kernel
theorem dX8_init_256 : decode cX8_init 256 = .ok (.newarray .int, 2) := by decide +kernel
theorem dX8_init_258 : decode cX8_init 258 = .ok (.putfield 106, 3) := by decide +kernel
theorem dX8_init_261 : decode cX8_init 261 = .ok (.aload_n 0, 1) := by decide +kernel
theorem dX8_init_262 : decode cX8_init 262 = .ok (.bipush 20, 2) := by decide +kernel
theorem dX8_init_264 : decode cX8_init 264 = .ok (.newarray .boolean, 2) := by decide +kernel
theorem dX8_init_266 : decode cX8_init 266 = .ok (.putfield 109, 3) := by decide +kernel
theorem dX8_init_269 : decode cX8_init 269 = .ok (.aload_n 0, 1) := by decide +kernel
theorem dX8_init_270 : decode cX8_init 270 = .ok (.sipush 800, 3) := by decide +kernel
theorem dX8_init_273 : decode cX8_init 273 = .ok (.newarray .int, 2) := by decide +kernel
theorem dX8_init_275 : decode cX8_init 275 = .ok (.putfield 112, 3) := by decide +kernel
theorem dX8_init_278 : decode cX8_init 278 = .ok (.aload_n 0, 1) := by decide +kernel
theorem dX8_init_279 : decode cX8_init 279 = .ok (.bipush 20, 2) := by decide +kernel
theorem dX8_init_281 : decode cX8_init 281 = .ok (.newarray .long, 2) := by decide +kernel
theorem dX8_init_283 : decode cX8_init 283 = .ok (.putfield 115, 3) := by decide +kernel
theorem dX8_init_286 : decode cX8_init 286 = .ok (.aload_n 0, 1) := by decide +kernel
theorem dX8_init_287 : decode cX8_init 287 = .ok (.bipush 20, 2) := by decide +kernel
theorem dX8_init_289 : decode cX8_init 289 = .ok (.newarray .long, 2) := by decide +kernel
theorem dX8_init_291 : decode cX8_init 291 = .ok (.putfield 118, 3) := by decide +kernel
theorem dX8_init_294 : decode cX8_init 294 = .ok (.aload_n 0, 1) := by decide +kernel
theorem dX8_init_295 : decode cX8_init 295 = .ok (.bipush 20, 2) := by decide +kernel
theorem dX8_init_297 : decode cX8_init 297 = .ok (.newarray .int, 2) := by decide +kernel
theorem dX8_init_299 : decode cX8_init 299 = .ok (.putfield 121, 3) := by decide +kernel
theorem dX8_init_302 : decode cX8_init 302 = .ok (.aload_n 0, 1) := by decide +kernel
theorem dX8_init_303 : decode cX8_init 303 = .ok (.bipush 20, 2) := by decide +kernel
theorem dX8_init_305 : decode cX8_init 305 = .ok (.newarray .boolean, 2) := by decide +kernel
theorem dX8_init_307 : decode cX8_init 307 = .ok (.putfield 124, 3) := by decide +kernel
theorem dX8_init_310 : decode cX8_init 310 = .ok (.aload_n 0, 1) := by decide +kernel
theorem dX8_init_311 : decode cX8_init 311 = .ok (.bipush 40, 2) := by decide +kernel
theorem dX8_init_313 : decode cX8_init 313 = .ok (.newarray .boolean, 2) := by decide +kernel
theorem dX8_init_315 : decode cX8_init 315 = .ok (.putfield 127, 3) := by decide +kernel
theorem dX8_init_318 : decode cX8_init 318 = .ok (.return_, 1) := by decide +kernel
theorem dX8_thrown_0 : decode cX8_thrown 0 = .ok (.aload_n 0, 1) := by decide +kernel
theorem dX8_thrown_1 : decode cX8_thrown 1 = .ok (.getfield 130, 3) := by decide +kernel
theorem dX8_thrown_4 : decode cX8_thrown 4 = .ok (.ireturn, 1) := by decide +kernel
theorem dX8_holds_0 : decode cX8_holds 0 = .ok (.aload_n 0, 1) := by decide +kernel
theorem dX8_holds_1 : decode cX8_holds 1 = .ok (.iload_n 1, 1) := by decide +kernel
theorem dX8_holds_2 : decode cX8_holds 2 = .ok (.putfield 130, 3) := by decide +kernel
theorem dX8_holds_5 : decode cX8_holds 5 = .ok (.iload_n 1, 1) := by decide +kernel
theorem dX8_holds_6 : decode cX8_holds 6 = .ok (.ifCond .ne 7, 3) := by decide +kernel
theorem dX8_holds_9 : decode cX8_holds 9 = .ok (.iconst 1, 1) := by decide +kernel
theorem dX8_holds_10 : decode cX8_holds 10 = .ok (.goto 4, 3) := by decide +kernel
theorem dX8_holds_13 : decode cX8_holds 13 = .ok (.iconst 0, 1) := by decide +kernel
theorem dX8_holds_14 : decode cX8_holds 14 = .ok (.ireturn, 1) := by decide +kernel
theorem dX8_in_0 : decode cX8_in 0 = .ok (.iload_n 0, 1) := by decide +kernel
theorem dX8_in_1 : decode cX8_in 1 = .ok (.iload_n 1, 1) := by decide +kernel
theorem dX8_in_2 : decode cX8_in 2 = .ok (.if_icmp .lt 12, 3) := by decide +kernel
theorem dX8_in_5 : decode cX8_in 5 = .ok (.iload_n 0, 1) := by decide +kernel
theorem dX8_in_6 : decode cX8_in 6 = .ok (.iload_n 2, 1) := by decide +kernel
theorem dX8_in_7 : decode cX8_in 7 = .ok (.if_icmp .gt 7, 3) := by decide +kernel
theorem dX8_in_10 : decode cX8_in 10 = .ok (.iconst 1, 1) := by decide +kernel
theorem dX8_in_11 : decode cX8_in 11 = .ok (.goto 4, 3) := by decide +kernel
theorem dX8_in_14 : decode cX8_in 14 = .ok (.iconst 0, 1) := by decide +kernel
theorem dX8_in_15 : decode cX8_in 15 = .ok (.ireturn, 1) := by decide +kernel
theorem dX8_isCommunity_0 : decode cX8_isCommunity 0 = .ok (.iload_n 1, 1) := by decide +kernel
theorem dX8_isCommunity_1 : decode cX8_isCommunity 1 = .ok (.iconst 0, 1) := by decide +kernel
theorem dX8_isCommunity_2 : decode cX8_isCommunity 2 = .ok (.aload_n 0, 1) := by decide +kernel
theorem dX8_isCommunity_3 : decode cX8_isCommunity 3 = .ok (.getfield 134, 3) := by decide +kernel
theorem dX8_isCommunity_6 : decode cX8_isCommunity 6 = .ok (.iconst 1, 1) := by decide +kernel
theorem dX8_isCommunity_7 : decode cX8_isCommunity 7 = .ok (.isub, 1) := by decide +kernel
theorem dX8_isCommunity_8 : decode cX8_isCommunity 8 = .ok (.invokestatic 137, 3) := by decide +kernel
theorem dX8_isCommunity_11 : decode cX8_isCommunity 11 = .ok (.ireturn, 1) := by decide +kernel
theorem dX8_isCourt_0 : decode cX8_isCourt 0 = .ok (.iload_n 1, 1) := by decide +kernel
theorem dX8_isCourt_1 : decode cX8_isCourt 1 = .ok (.iconst (-1), 1) := by decide +kernel
theorem dX8_isCourt_2 : decode cX8_isCourt 2 = .ok (.if_icmp .eq 11, 3) := by decide +kernel
theorem dX8_isCourt_5 : decode cX8_isCourt 5 = .ok (.aload_n 0, 1) := by decide +kernel
theorem dX8_isCourt_6 : decode cX8_isCourt 6 = .ok (.iload_n 1, 1) := by decide +kernel
theorem dX8_isCourt_7 : decode cX8_isCourt 7 = .ok (.invokevirtual 141, 3) := by decide +kernel
theorem dX8_isCourt_10 : decode cX8_isCourt 10 = .ok (.ifCond .eq 7, 3) := by decide +kernel
theorem dX8_isCourt_13 : decode cX8_isCourt 13 = .ok (.iconst 1, 1) := by decide +kernel
theorem dX8_isCourt_14 : decode cX8_isCourt 14 = .ok (.goto 4, 3) := by decide +kernel
theorem dX8_isCourt_17 : decode cX8_isCourt 17 = .ok (.iconst 0, 1) := by decide +kernel
theorem dX8_isCourt_18 : decode cX8_isCourt 18 = .ok (.ireturn, 1) := by decide +kernel
theorem dX8_isPerson_0 : decode cX8_isPerson 0 = .ok (.iload_n 1, 1) := by decide +kernel
theorem dX8_isPerson_1 : decode cX8_isPerson 1 = .ok (.iconst 0, 1) := by decide +kernel
theorem dX8_isPerson_2 : decode cX8_isPerson 2 = .ok (.aload_n 0, 1) := by decide +kernel
theorem dX8_isPerson_3 : decode cX8_isPerson 3 = .ok (.getfield 145, 3) := by decide +kernel
theorem dX8_isPerson_6 : decode cX8_isPerson 6 = .ok (.iconst 1, 1) := by decide +kernel
theorem dX8_isPerson_7 : decode cX8_isPerson 7 = .ok (.isub, 1) := by decide +kernel
theorem dX8_isPerson_8 : decode cX8_isPerson 8 = .ok (.invokestatic 137, 3) := by decide +kernel
theorem dX8_isPerson_11 : decode cX8_isPerson 11 = .ok (.ireturn, 1) := by decide +kernel
theorem dX8_isMarriage_0 : decode cX8_isMarriage 0 = .ok (.iload_n 1, 1) := by decide +kernel
theorem dX8_isMarriage_1 : decode cX8_isMarriage 1 = .ok (.iconst 0, 1) := by decide +kernel
theorem dX8_isMarriage_2 : decode cX8_isMarriage 2 = .ok (.aload_n 0, 1) := by decide +kernel
theorem dX8_isMarriage_3 : decode cX8_isMarriage 3 = .ok (.getfield 148, 3) := by decide +kernel
theorem dX8_isMarriage_6 : decode cX8_isMarriage 6 = .ok (.iconst 1, 1) := by decide +kernel
theorem dX8_isMarriage_7 : decode cX8_isMarriage 7 = .ok (.isub, 1) := by decide +kernel
theorem dX8_isMarriage_8 : decode cX8_isMarriage 8 = .ok (.invokestatic 137, 3) := by decide +kernel
theorem dX8_isMarriage_11 : decode cX8_isMarriage 11 = .ok (.ireturn, 1) := by decide +kernel
theorem dX8_isSuit_0 : decode cX8_isSuit 0 = .ok (.iload_n 1, 1) := by decide +kernel
theorem dX8_isSuit_1 : decode cX8_isSuit 1 = .ok (.iconst 0, 1) := by decide +kernel
theorem dX8_isSuit_2 : decode cX8_isSuit 2 = .ok (.aload_n 0, 1) := by decide +kernel
theorem dX8_isSuit_3 : decode cX8_isSuit 3 = .ok (.getfield 151, 3) := by decide +kernel
theorem dX8_isSuit_6 : decode cX8_isSuit 6 = .ok (.iconst 1, 1) := by decide +kernel
theorem dX8_isSuit_7 : decode cX8_isSuit 7 = .ok (.isub, 1) := by decide +kernel
theorem dX8_isSuit_8 : decode cX8_isSuit 8 = .ok (.invokestatic 137, 3) := by decide +kernel
theorem dX8_isSuit_11 : decode cX8_isSuit 11 = .ok (.ireturn, 1) := by decide +kernel
theorem dX8_isRecognised_0 : decode cX8_isRecognised 0 = .ok (.aload_n 0, 1) := by decide +kernel
theorem dX8_isRecognised_1 : decode cX8_isRecognised 1 = .ok (.getfield 7, 3) := by decide +kernel
theorem dX8_isRecognised_4 : decode cX8_isRecognised 4 = .ok (.sipush 938, 3) := by decide +kernel
theorem dX8_isRecognised_7 : decode cX8_isRecognised 7 = .ok (.iload_n 1, 1) := by decide +kernel
theorem dX8_isRecognised_8 : decode cX8_isRecognised 8 = .ok (.imul, 1) := by decide +kernel
theorem dX8_isRecognised_9 : decode cX8_isRecognised 9 = .ok (.iload_n 2, 1) := by decide +kernel
theorem dX8_isRecognised_10 : decode cX8_isRecognised 10 = .ok (.bipush 32, 2) := by decide +kernel
theorem dX8_isRecognised_12 : decode cX8_isRecognised 12 = .ok (.idiv, 1) := by decide +kernel
theorem dX8_isRecognised_13 : decode cX8_isRecognised 13 = .ok (.iadd, 1) := by decide +kernel
theorem dX8_isRecognised_14 : decode cX8_isRecognised 14 = .ok (.iaload, 1) := by decide +kernel
theorem dX8_isRecognised_15 : decode cX8_isRecognised 15 = .ok (.iload_n 2, 1) := by decide +kernel
theorem dX8_isRecognised_16 : decode cX8_isRecognised 16 = .ok (.bipush 32, 2) := by decide +kernel
theorem dX8_isRecognised_18 : decode cX8_isRecognised 18 = .ok (.irem, 1) := by decide +kernel
theorem dX8_isRecognised_19 : decode cX8_isRecognised 19 = .ok (.ishr, 1) := by decide +kernel
theorem dX8_isRecognised_20 : decode cX8_isRecognised 20 = .ok (.iconst 1, 1) := by decide +kernel
theorem dX8_isRecognised_21 : decode cX8_isRecognised 21 = .ok (.iand, 1) := by decide +kernel
theorem dX8_isRecognised_22 : decode cX8_isRecognised 22 = .ok (.iconst 1, 1) := by decide +kernel
theorem dX8_isRecognised_23 : decode cX8_isRecognised 23 = .ok (.if_icmp .ne 7, 3) := by decide +kernel
theorem dX8_isRecognised_26 : decode cX8_isRecognised 26 = .ok (.iconst 1, 1) := by decide +kernel
theorem dX8_isRecognised_27 : decode cX8_isRecognised 27 = .ok (.goto 4, 3) := by decide +kernel
theorem dX8_isRecognised_30 : decode cX8_isRecognised 30 = .ok (.iconst 0, 1) := by decide +kernel
theorem dX8_isRecognised_31 : decode cX8_isRecognised 31 = .ok (.ireturn, 1) := by decide +kernel
theorem dX8_recognises_0 : decode cX8_recognises 0 = .ok (.aload_n 0, 1) := by decide +kernel
theorem dX8_recognises_1 : decode cX8_recognises 1 = .ok (.getfield 154, 3) := by decide +kernel
theorem dX8_recognises_4 : decode cX8_recognises 4 = .ok (.istore_n 3, 1) := by decide +kernel
theorem dX8_recognises_5 : decode cX8_recognises 5 = .ok (.iload_n 3, 1) := by decide +kernel
theorem dX8_recognises_6 : decode cX8_recognises 6 = .ok (.sipush 30000, 3) := by decide +kernel
theorem dX8_recognises_9 : decode cX8_recognises 9 = .ok (.if_icmp .gt 59, 3) := by decide +kernel
theorem dX8_recognises_12 : decode cX8_recognises 12 = .ok (.sipush 938, 3) := by decide +kernel
theorem dX8_recognises_15 : decode cX8_recognises 15 = .ok (.iload_n 1, 1) := by decide +kernel
theorem dX8_recognises_16 : decode cX8_recognises 16 = .ok (.imul, 1) := by decide +kernel
theorem dX8_recognises_17 : decode cX8_recognises 17 = .ok (.iload_n 3, 1) := by decide +kernel
theorem dX8_recognises_18 : decode cX8_recognises 18 = .ok (.bipush 32, 2) := by decide +kernel
theorem dX8_recognises_20 : decode cX8_recognises 20 = .ok (.idiv, 1) := by decide +kernel
theorem dX8_recognises_21 : decode cX8_recognises 21 = .ok (.iadd, 1) := by decide +kernel
theorem dX8_recognises_22 : decode cX8_recognises 22 = .ok (.istore 4, 2) := by decide +kernel
theorem dX8_recognises_24 : decode cX8_recognises 24 = .ok (.aload_n 0, 1) := by decide +kernel
theorem dX8_recognises_25 : decode cX8_recognises 25 = .ok (.getfield 7, 3) := by decide +kernel
theorem dX8_recognises_28 : decode cX8_recognises 28 = .ok (.iload 4, 2) := by decide +kernel
theorem dX8_recognises_30 : decode cX8_recognises 30 = .ok (.aload_n 0, 1) := by decide +kernel
theorem dX8_recognises_31 : decode cX8_recognises 31 = .ok (.getfield 7, 3) := by decide +kernel
theorem dX8_recognises_34 : decode cX8_recognises 34 = .ok (.iload 4, 2) := by decide +kernel
theorem dX8_recognises_36 : decode cX8_recognises 36 = .ok (.iaload, 1) := by decide +kernel
theorem dX8_recognises_37 : decode cX8_recognises 37 = .ok (.iconst 1, 1) := by decide +kernel
theorem dX8_recognises_38 : decode cX8_recognises 38 = .ok (.iload_n 3, 1) := by decide +kernel
theorem dX8_recognises_39 : decode cX8_recognises 39 = .ok (.bipush 32, 2) := by decide +kernel
theorem dX8_recognises_41 : decode cX8_recognises 41 = .ok (.irem, 1) := by decide +kernel
theorem dX8_recognises_42 : decode cX8_recognises 42 = .ok (.ishl, 1) := by decide +kernel
theorem dX8_recognises_43 : decode cX8_recognises 43 = .ok (.iconst (-1), 1) := by decide +kernel
theorem dX8_recognises_44 : decode cX8_recognises 44 = .ok (.ixor, 1) := by decide +kernel
theorem dX8_recognises_45 : decode cX8_recognises 45 = .ok (.iand, 1) := by decide +kernel
theorem dX8_recognises_46 : decode cX8_recognises 46 = .ok (.iload_n 2, 1) := by decide +kernel
theorem dX8_recognises_47 : decode cX8_recognises 47 = .ok (.ifCond .eq 12, 3) := by decide +kernel
theorem dX8_recognises_50 : decode cX8_recognises 50 = .ok (.iconst 1, 1) := by decide +kernel
theorem dX8_recognises_51 : decode cX8_recognises 51 = .ok (.iload_n 3, 1) := by decide +kernel
theorem dX8_recognises_52 : decode cX8_recognises 52 = .ok (.bipush 32, 2) := by decide +kernel
theorem dX8_recognises_54 : decode cX8_recognises 54 = .ok (.irem, 1) := by decide +kernel
theorem dX8_recognises_55 : decode cX8_recognises 55 = .ok (.ishl, 1) := by decide +kernel
theorem dX8_recognises_56 : decode cX8_recognises 56 = .ok (.goto 4, 3) := by decide +kernel
theorem dX8_recognises_59 : decode cX8_recognises 59 = .ok (.iconst 0, 1) := by decide +kernel
theorem dX8_recognises_60 : decode cX8_recognises 60 = .ok (.ior, 1) := by decide +kernel
theorem dX8_recognises_61 : decode cX8_recognises 61 = .ok (.iastore, 1) := by decide +kernel
theorem dX8_recognises_62 : decode cX8_recognises 62 = .ok (.iinc 3 1, 3) := by decide +kernel
theorem dX8_recognises_65 : decode cX8_recognises 65 = .ok (.goto (-60), 3) := by decide +kernel
theorem dX8_recognises_68 : decode cX8_recognises 68 = .ok (.return_, 1) := by decide +kernel
theorem dX8_community_0 : decode cX8_community 0 = .ok (.aload_n 0, 1) := by decide +kernel
theorem dX8_community_1 : decode cX8_community 1 = .ok (.aload_n 0, 1) := by decide +kernel
theorem dX8_community_2 : decode cX8_community 2 = .ok (.getfield 134, 3) := by decide +kernel
theorem dX8_community_5 : decode cX8_community 5 = .ok (.bipush 6, 2) := by decide +kernel
theorem dX8_community_7 : decode cX8_community 7 = .ok (.if_icmp .ne 7, 3) := by decide +kernel
theorem dX8_community_10 : decode cX8_community 10 = .ok (.iconst 1, 1) := by decide +kernel
theorem dX8_community_11 : decode cX8_community 11 = .ok (.goto 4, 3) := by decide +kernel
theorem dX8_community_14 : decode cX8_community 14 = .ok (.iconst 0, 1) := by decide +kernel
theorem dX8_community_15 : decode cX8_community 15 = .ok (.invokevirtual 157, 3) := by decide +kernel
theorem dX8_community_18 : decode cX8_community 18 = .ok (.ifCond .ne 5, 3) := by decide +kernel
theorem dX8_community_21 : decode cX8_community 21 = .ok (.iconst 0, 1) := by decide +kernel
theorem dX8_community_22 : decode cX8_community 22 = .ok (.ireturn, 1) := by decide +kernel
theorem dX8_community_23 : decode cX8_community 23 = .ok (.aload_n 0, 1) := by decide +kernel
theorem dX8_community_24 : decode cX8_community 24 = .ok (.aload_n 0, 1) := by decide +kernel
theorem dX8_community_25 : decode cX8_community 25 = .ok (.getfield 134, 3) := by decide +kernel
theorem dX8_community_28 : decode cX8_community 28 = .ok (.iconst 1, 1) := by decide +kernel
theorem dX8_community_29 : decode cX8_community 29 = .ok (.invokevirtual 160, 3) := by decide +kernel
theorem dX8_community_32 : decode cX8_community 32 = .ok (.aload_n 0, 1) := by decide +kernel
theorem dX8_community_33 : decode cX8_community 33 = .ok (.dup, 1) := by decide +kernel
theorem dX8_community_34 : decode cX8_community 34 = .ok (.getfield 134, 3) := by decide +kernel
theorem dX8_community_37 : decode cX8_community 37 = .ok (.iconst 1, 1) := by decide +kernel
theorem dX8_community_38 : decode cX8_community 38 = .ok (.iadd, 1) := by decide +kernel
theorem dX8_community_39 : decode cX8_community 39 = .ok (.putfield 134, 3) := by decide +kernel
theorem dX8_community_42 : decode cX8_community 42 = .ok (.aload_n 0, 1) := by decide +kernel
theorem dX8_community_43 : decode cX8_community 43 = .ok (.getfield 134, 3) := by decide +kernel
theorem dX8_community_46 : decode cX8_community 46 = .ok (.iconst 1, 1) := by decide +kernel
theorem dX8_community_47 : decode cX8_community 47 = .ok (.isub, 1) := by decide +kernel
theorem dX8_community_48 : decode cX8_community 48 = .ok (.ireturn, 1) := by decide +kernel
theorem dX8_recognise_0 : decode cX8_recognise 0 = .ok (.aload_n 0, 1) := by decide +kernel
theorem dX8_recognise_1 : decode cX8_recognise 1 = .ok (.aload_n 0, 1) := by decide +kernel
theorem dX8_recognise_2 : decode cX8_recognise 2 = .ok (.iload_n 1, 1) := by decide +kernel
theorem dX8_recognise_3 : decode cX8_recognise 3 = .ok (.invokevirtual 141, 3) := by decide +kernel
theorem dX8_recognise_6 : decode cX8_recognise 6 = .ok (.ifCond .eq 7, 3) := by decide +kernel
theorem dX8_recognise_9 : decode cX8_recognise 9 = .ok (.iconst 0, 1) := by decide +kernel
theorem dX8_recognise_10 : decode cX8_recognise 10 = .ok (.goto 4, 3) := by decide +kernel
theorem dX8_recognise_13 : decode cX8_recognise 13 = .ok (.iconst 1, 1) := by decide +kernel
theorem dX8_recognise_14 : decode cX8_recognise 14 = .ok (.invokevirtual 157, 3) := by decide +kernel
theorem dX8_recognise_17 : decode cX8_recognise 17 = .ok (.ifCond .ne 5, 3) := by decide +kernel
theorem dX8_recognise_20 : decode cX8_recognise 20 = .ok (.iconst 0, 1) := by decide +kernel
theorem dX8_recognise_21 : decode cX8_recognise 21 = .ok (.ireturn, 1) := by decide +kernel
theorem dX8_recognise_22 : decode cX8_recognise 22 = .ok (.aload_n 0, 1) := by decide +kernel
theorem dX8_recognise_23 : decode cX8_recognise 23 = .ok (.iload_n 1, 1) := by decide +kernel
theorem dX8_recognise_24 : decode cX8_recognise 24 = .ok (.aload_n 0, 1) := by decide +kernel
theorem dX8_recognise_25 : decode cX8_recognise 25 = .ok (.getfield 154, 3) := by decide +kernel
theorem dX8_recognise_28 : decode cX8_recognise 28 = .ok (.invokevirtual 164, 3) := by decide +kernel
theorem dX8_recognise_31 : decode cX8_recognise 31 = .ok (.istore_n 3, 1) := by decide +kernel
theorem dX8_recognise_32 : decode cX8_recognise 32 = .ok (.aload_n 0, 1) := by decide +kernel
theorem dX8_recognise_33 : decode cX8_recognise 33 = .ok (.iload_n 1, 1) := by decide +kernel
theorem dX8_recognise_34 : decode cX8_recognise 34 = .ok (.iload_n 2, 1) := by decide +kernel
theorem dX8_recognise_35 : decode cX8_recognise 35 = .ok (.invokevirtual 160, 3) := by decide +kernel
theorem dX8_recognise_38 : decode cX8_recognise 38 = .ok (.iload_n 3, 1) := by decide +kernel
theorem dX8_recognise_39 : decode cX8_recognise 39 = .ok (.ireturn, 1) := by decide +kernel
theorem dX8_isNumber_0 : decode cX8_isNumber 0 = .ok (.iload_n 0, 1) := by decide +kernel
theorem dX8_isNumber_1 : decode cX8_isNumber 1 = .ok (.tableswitch 80 0 6 #[43, 50, 57, 64, 80, 80, 72], 43) := by decide +kernel
theorem dX8_isNumber_44 : decode cX8_isNumber 44 = .ok (.iload_n 1, 1) := by decide +kernel
theorem dX8_isNumber_45 : decode cX8_isNumber 45 = .ok (.iconst 0, 1) := by decide +kernel
theorem dX8_isNumber_46 : decode cX8_isNumber 46 = .ok (.iconst 2, 1) := by decide +kernel
theorem dX8_isNumber_47 : decode cX8_isNumber 47 = .ok (.invokestatic 137, 3) := by decide +kernel
theorem dX8_isNumber_50 : decode cX8_isNumber 50 = .ok (.ireturn, 1) := by decide +kernel
theorem dX8_isNumber_51 : decode cX8_isNumber 51 = .ok (.iload_n 1, 1) := by decide +kernel
theorem dX8_isNumber_52 : decode cX8_isNumber 52 = .ok (.iconst 0, 1) := by decide +kernel
theorem dX8_isNumber_53 : decode cX8_isNumber 53 = .ok (.iconst 3, 1) := by decide +kernel
theorem dX8_isNumber_54 : decode cX8_isNumber 54 = .ok (.invokestatic 137, 3) := by decide +kernel
theorem dX8_isNumber_57 : decode cX8_isNumber 57 = .ok (.ireturn, 1) := by decide +kernel
theorem dX8_isNumber_58 : decode cX8_isNumber 58 = .ok (.iload_n 1, 1) := by decide +kernel
theorem dX8_isNumber_59 : decode cX8_isNumber 59 = .ok (.iconst 1, 1) := by decide +kernel
theorem dX8_isNumber_60 : decode cX8_isNumber 60 = .ok (.iconst 4, 1) := by decide +kernel
theorem dX8_isNumber_61 : decode cX8_isNumber 61 = .ok (.invokestatic 137, 3) := by decide +kernel
theorem dX8_isNumber_64 : decode cX8_isNumber 64 = .ok (.ireturn, 1) := by decide +kernel
theorem dX8_isNumber_65 : decode cX8_isNumber 65 = .ok (.iload_n 1, 1) := by decide +kernel
theorem dX8_isNumber_66 : decode cX8_isNumber 66 = .ok (.iconst 0, 1) := by decide +kernel
theorem dX8_isNumber_67 : decode cX8_isNumber 67 = .ok (.bipush 100, 2) := by decide +kernel
theorem dX8_isNumber_69 : decode cX8_isNumber 69 = .ok (.invokestatic 137, 3) := by decide +kernel
theorem dX8_isNumber_72 : decode cX8_isNumber 72 = .ok (.ireturn, 1) := by decide +kernel
theorem dX8_isNumber_73 : decode cX8_isNumber 73 = .ok (.iload_n 1, 1) := by decide +kernel
theorem dX8_isNumber_74 : decode cX8_isNumber 74 = .ok (.iconst 0, 1) := by decide +kernel
theorem dX8_isNumber_75 : decode cX8_isNumber 75 = .ok (.bipush 63, 2) := by decide +kernel
theorem dX8_isNumber_77 : decode cX8_isNumber 77 = .ok (.invokestatic 137, 3) := by decide +kernel
theorem dX8_isNumber_80 : decode cX8_isNumber 80 = .ok (.ireturn, 1) := by decide +kernel
theorem dX8_isNumber_81 : decode cX8_isNumber 81 = .ok (.iload_n 1, 1) := by decide +kernel
theorem dX8_isNumber_82 : decode cX8_isNumber 82 = .ok (.iconst 0, 1) := by decide +kernel
theorem dX8_isNumber_83 : decode cX8_isNumber 83 = .ok (.iconst 1, 1) := by decide +kernel
theorem dX8_isNumber_84 : decode cX8_isNumber 84 = .ok (.invokestatic 137, 3) := by decide +kernel
theorem dX8_isNumber_87 : decode cX8_isNumber 87 = .ok (.ireturn, 1) := by decide +kernel
theorem dX8_lawOf_0 : decode cX8_lawOf 0 = .ok (.iload_n 2, 1) := by decide +kernel
theorem dX8_lawOf_1 : decode cX8_lawOf 1 = .ok (.iconst 1, 1) := by decide +kernel
theorem dX8_lawOf_2 : decode cX8_lawOf 2 = .ok (.if_icmp .ne 7, 3) := by decide +kernel
theorem dX8_lawOf_5 : decode cX8_lawOf 5 = .ok (.iconst 2, 1) := by decide +kernel
theorem dX8_lawOf_6 : decode cX8_lawOf 6 = .ok (.goto 39, 3) := by decide +kernel
theorem dX8_lawOf_9 : decode cX8_lawOf 9 = .ok (.iload_n 2, 1) := by decide +kernel
theorem dX8_lawOf_10 : decode cX8_lawOf 10 = .ok (.iconst 3, 1) := by decide +kernel
theorem dX8_lawOf_11 : decode cX8_lawOf 11 = .ok (.if_icmp .ne 8, 3) := by decide +kernel
theorem dX8_lawOf_14 : decode cX8_lawOf 14 = .ok (.bipush 25, 2) := by decide +kernel
theorem dX8_lawOf_16 : decode cX8_lawOf 16 = .ok (.goto 29, 3) := by decide +kernel
theorem dX8_lawOf_19 : decode cX8_lawOf 19 = .ok (.iload_n 2, 1) := by decide +kernel
theorem dX8_lawOf_20 : decode cX8_lawOf 20 = .ok (.bipush 6, 2) := by decide +kernel
theorem dX8_lawOf_22 : decode cX8_lawOf 22 = .ok (.if_icmp .ne 8, 3) := by decide +kernel
theorem dX8_lawOf_25 : decode cX8_lawOf 25 = .ok (.bipush 63, 2) := by decide +kernel
theorem dX8_lawOf_27 : decode cX8_lawOf 27 = .ok (.goto 18, 3) := by decide +kernel
theorem dX8_lawOf_30 : decode cX8_lawOf 30 = .ok (.iload_n 2, 1) := by decide +kernel
theorem dX8_lawOf_31 : decode cX8_lawOf 31 = .ok (.iconst 2, 1) := by decide +kernel
theorem dX8_lawOf_32 : decode cX8_lawOf 32 = .ok (.if_icmp .eq 8, 3) := by decide +kernel
theorem dX8_lawOf_35 : decode cX8_lawOf 35 = .ok (.iload_n 2, 1) := by decide +kernel
theorem dX8_lawOf_36 : decode cX8_lawOf 36 = .ok (.iconst 4, 1) := by decide +kernel
theorem dX8_lawOf_37 : decode cX8_lawOf 37 = .ok (.if_icmp .ne 7, 3) := by decide +kernel
theorem dX8_lawOf_40 : decode cX8_lawOf 40 = .ok (.iconst 1, 1) := by decide +kernel
theorem dX8_lawOf_41 : decode cX8_lawOf 41 = .ok (.goto 4, 3) := by decide +kernel
theorem dX8_lawOf_44 : decode cX8_lawOf 44 = .ok (.iconst 0, 1) := by decide +kernel
theorem dX8_lawOf_45 : decode cX8_lawOf 45 = .ok (.istore 4, 2) := by decide +kernel
theorem dX8_lawOf_47 : decode cX8_lawOf 47 = .ok (.iconst 0, 1) := by decide +kernel
theorem dX8_lawOf_48 : decode cX8_lawOf 48 = .ok (.istore 5, 2) := by decide +kernel
theorem dX8_lawOf_50 : decode cX8_lawOf 50 = .ok (.iload 5, 2) := by decide +kernel
theorem dX8_lawOf_52 : decode cX8_lawOf 52 = .ok (.aload_n 0, 1) := by decide +kernel
theorem dX8_lawOf_53 : decode cX8_lawOf 53 = .ok (.getfield 168, 3) := by decide +kernel
theorem dX8_lawOf_56 : decode cX8_lawOf 56 = .ok (.if_icmp .ge 68, 3) := by decide +kernel
theorem dX8_lawOf_59 : decode cX8_lawOf 59 = .ok (.aload_n 0, 1) := by decide +kernel
theorem dX8_lawOf_60 : decode cX8_lawOf 60 = .ok (.getfield 13, 3) := by decide +kernel
theorem dX8_lawOf_63 : decode cX8_lawOf 63 = .ok (.iload 5, 2) := by decide +kernel
theorem dX8_lawOf_65 : decode cX8_lawOf 65 = .ok (.iaload, 1) := by decide +kernel
theorem dX8_lawOf_66 : decode cX8_lawOf 66 = .ok (.iload_n 1, 1) := by decide +kernel
theorem dX8_lawOf_67 : decode cX8_lawOf 67 = .ok (.if_icmp .ne 29, 3) := by decide +kernel
theorem dX8_lawOf_70 : decode cX8_lawOf 70 = .ok (.aload_n 0, 1) := by decide +kernel
theorem dX8_lawOf_71 : decode cX8_lawOf 71 = .ok (.getfield 16, 3) := by decide +kernel
theorem dX8_lawOf_74 : decode cX8_lawOf 74 = .ok (.iload 5, 2) := by decide +kernel
theorem dX8_lawOf_76 : decode cX8_lawOf 76 = .ok (.iaload, 1) := by decide +kernel
theorem dX8_lawOf_77 : decode cX8_lawOf 77 = .ok (.iload_n 2, 1) := by decide +kernel
theorem dX8_lawOf_78 : decode cX8_lawOf 78 = .ok (.if_icmp .ne 18, 3) := by decide +kernel
theorem dX8_lawOf_81 : decode cX8_lawOf 81 = .ok (.aload_n 0, 1) := by decide +kernel
theorem dX8_lawOf_82 : decode cX8_lawOf 82 = .ok (.getfield 22, 3) := by decide +kernel
theorem dX8_lawOf_85 : decode cX8_lawOf 85 = .ok (.iload 5, 2) := by decide +kernel
theorem dX8_lawOf_87 : decode cX8_lawOf 87 = .ok (.iaload, 1) := by decide +kernel
theorem dX8_lawOf_88 : decode cX8_lawOf 88 = .ok (.iload_n 3, 1) := by decide +kernel
theorem dX8_lawOf_89 : decode cX8_lawOf 89 = .ok (.if_icmp .gt 7, 3) := by decide +kernel
theorem dX8_lawOf_92 : decode cX8_lawOf 92 = .ok (.iconst 1, 1) := by decide +kernel
theorem dX8_lawOf_93 : decode cX8_lawOf 93 = .ok (.goto 4, 3) := by decide +kernel
theorem dX8_lawOf_96 : decode cX8_lawOf 96 = .ok (.iconst 0, 1) := by decide +kernel
theorem dX8_lawOf_97 : decode cX8_lawOf 97 = .ok (.istore 6, 2) := by decide +kernel
theorem dX8_lawOf_99 : decode cX8_lawOf 99 = .ok (.iload 6, 2) := by decide +kernel
theorem dX8_lawOf_101 : decode cX8_lawOf 101 = .ok (.ifCond .eq 13, 3) := by decide +kernel
theorem dX8_lawOf_104 : decode cX8_lawOf 104 = .ok (.aload_n 0, 1) := by decide +kernel
theorem dX8_lawOf_105 : decode cX8_lawOf 105 = .ok (.getfield 19, 3) := by decide +kernel
theorem dX8_lawOf_108 : decode cX8_lawOf 108 = .ok (.iload 5, 2) := by decide +kernel
theorem dX8_lawOf_110 : decode cX8_lawOf 110 = .ok (.iaload, 1) := by decide +kernel
theorem dX8_lawOf_111 : decode cX8_lawOf 111 = .ok (.goto 5, 3) := by decide +kernel
theorem dX8_lawOf_114 : decode cX8_lawOf 114 = .ok (.iload 4, 2) := by decide +kernel
theorem dX8_lawOf_116 : decode cX8_lawOf 116 = .ok (.istore 4, 2) := by decide +kernel
theorem dX8_lawOf_118 : decode cX8_lawOf 118 = .ok (.iinc 5 1, 3) := by decide +kernel
theorem dX8_lawOf_121 : decode cX8_lawOf 121 = .ok (.goto (-71), 3) := by decide +kernel
theorem dX8_lawOf_124 : decode cX8_lawOf 124 = .ok (.iload 4, 2) := by decide +kernel
theorem dX8_lawOf_126 : decode cX8_lawOf 126 = .ok (.ireturn, 1) := by decide +kernel
theorem dX8_decree_0 : decode cX8_decree 0 = .ok (.iload_n 2, 1) := by decide +kernel
theorem dX8_decree_1 : decode cX8_decree 1 = .ok (.iconst 0, 1) := by decide +kernel
theorem dX8_decree_2 : decode cX8_decree 2 = .ok (.bipush 6, 2) := by decide +kernel
theorem dX8_decree_4 : decode cX8_decree 4 = .ok (.invokestatic 137, 3) := by decide +kernel
theorem dX8_decree_7 : decode cX8_decree 7 = .ok (.ifCond .eq 15, 3) := by decide +kernel
theorem dX8_decree_10 : decode cX8_decree 10 = .ok (.iload_n 2, 1) := by decide +kernel
theorem dX8_decree_11 : decode cX8_decree 11 = .ok (.iload_n 3, 1) := by decide +kernel
theorem dX8_decree_12 : decode cX8_decree 12 = .ok (.invokestatic 171, 3) := by decide +kernel
theorem dX8_decree_15 : decode cX8_decree 15 = .ok (.ifCond .eq 7, 3) := by decide +kernel
theorem dX8_decree_18 : decode cX8_decree 18 = .ok (.iconst 1, 1) := by decide +kernel
theorem dX8_decree_19 : decode cX8_decree 19 = .ok (.goto 4, 3) := by decide +kernel
theorem dX8_decree_22 : decode cX8_decree 22 = .ok (.iconst 0, 1) := by decide +kernel
theorem dX8_decree_23 : decode cX8_decree 23 = .ok (.istore 4, 2) := by decide +kernel
theorem dX8_decree_25 : decode cX8_decree 25 = .ok (.aload_n 0, 1) := by decide +kernel
theorem dX8_decree_26 : decode cX8_decree 26 = .ok (.aload_n 0, 1) := by decide +kernel
theorem dX8_decree_27 : decode cX8_decree 27 = .ok (.iload_n 1, 1) := by decide +kernel
theorem dX8_decree_28 : decode cX8_decree 28 = .ok (.invokevirtual 174, 3) := by decide +kernel
theorem dX8_decree_31 : decode cX8_decree 31 = .ok (.ifCond .ne 7, 3) := by decide +kernel
theorem dX8_decree_34 : decode cX8_decree 34 = .ok (.iconst 1, 1) := by decide +kernel
theorem dX8_decree_35 : decode cX8_decree 35 = .ok (.goto 26, 3) := by decide +kernel
theorem dX8_decree_38 : decode cX8_decree 38 = .ok (.iload 4, 2) := by decide +kernel
theorem dX8_decree_40 : decode cX8_decree 40 = .ok (.ifCond .ne 7, 3) := by decide +kernel
theorem dX8_decree_43 : decode cX8_decree 43 = .ok (.iconst 2, 1) := by decide +kernel
theorem dX8_decree_44 : decode cX8_decree 44 = .ok (.goto 17, 3) := by decide +kernel
theorem dX8_decree_47 : decode cX8_decree 47 = .ok (.aload_n 0, 1) := by decide +kernel
theorem dX8_decree_48 : decode cX8_decree 48 = .ok (.getfield 168, 3) := by decide +kernel
theorem dX8_decree_51 : decode cX8_decree 51 = .ok (.bipush 100, 2) := by decide +kernel
theorem dX8_decree_53 : decode cX8_decree 53 = .ok (.if_icmp .ne 7, 3) := by decide +kernel
theorem dX8_decree_56 : decode cX8_decree 56 = .ok (.iconst 3, 1) := by decide +kernel
theorem dX8_decree_57 : decode cX8_decree 57 = .ok (.goto 4, 3) := by decide +kernel
theorem dX8_decree_60 : decode cX8_decree 60 = .ok (.iconst 0, 1) := by decide +kernel
theorem dX8_decree_61 : decode cX8_decree 61 = .ok (.invokevirtual 157, 3) := by decide +kernel
theorem dX8_decree_64 : decode cX8_decree 64 = .ok (.ifCond .ne 5, 3) := by decide +kernel
theorem dX8_decree_67 : decode cX8_decree 67 = .ok (.iconst 0, 1) := by decide +kernel
theorem dX8_decree_68 : decode cX8_decree 68 = .ok (.ireturn, 1) := by decide +kernel
theorem dX8_decree_69 : decode cX8_decree 69 = .ok (.aload_n 0, 1) := by decide +kernel
theorem dX8_decree_70 : decode cX8_decree 70 = .ok (.iload_n 1, 1) := by decide +kernel
theorem dX8_decree_71 : decode cX8_decree 71 = .ok (.iload_n 2, 1) := by decide +kernel
theorem dX8_decree_72 : decode cX8_decree 72 = .ok (.aload_n 0, 1) := by decide +kernel
theorem dX8_decree_73 : decode cX8_decree 73 = .ok (.getfield 154, 3) := by decide +kernel
theorem dX8_decree_76 : decode cX8_decree 76 = .ok (.invokevirtual 177, 3) := by decide +kernel
theorem dX8_decree_79 : decode cX8_decree 79 = .ok (.istore 5, 2) := by decide +kernel
theorem dX8_decree_81 : decode cX8_decree 81 = .ok (.aload_n 0, 1) := by decide +kernel
theorem dX8_decree_82 : decode cX8_decree 82 = .ok (.getfield 13, 3) := by decide +kernel
theorem dX8_decree_85 : decode cX8_decree 85 = .ok (.aload_n 0, 1) := by decide +kernel
theorem dX8_decree_86 : decode cX8_decree 86 = .ok (.getfield 168, 3) := by decide +kernel
theorem dX8_decree_89 : decode cX8_decree 89 = .ok (.iload_n 1, 1) := by decide +kernel
theorem dX8_decree_90 : decode cX8_decree 90 = .ok (.iastore, 1) := by decide +kernel
theorem dX8_decree_91 : decode cX8_decree 91 = .ok (.aload_n 0, 1) := by decide +kernel
theorem dX8_decree_92 : decode cX8_decree 92 = .ok (.getfield 16, 3) := by decide +kernel
theorem dX8_decree_95 : decode cX8_decree 95 = .ok (.aload_n 0, 1) := by decide +kernel
theorem dX8_decree_96 : decode cX8_decree 96 = .ok (.getfield 168, 3) := by decide +kernel
theorem dX8_decree_99 : decode cX8_decree 99 = .ok (.iload_n 2, 1) := by decide +kernel
theorem dX8_decree_100 : decode cX8_decree 100 = .ok (.iastore, 1) := by decide +kernel
theorem dX8_decree_101 : decode cX8_decree 101 = .ok (.aload_n 0, 1) := by decide +kernel
theorem dX8_decree_102 : decode cX8_decree 102 = .ok (.getfield 19, 3) := by decide +kernel
theorem dX8_decree_105 : decode cX8_decree 105 = .ok (.aload_n 0, 1) := by decide +kernel
theorem dX8_decree_106 : decode cX8_decree 106 = .ok (.getfield 168, 3) := by decide +kernel
theorem dX8_decree_109 : decode cX8_decree 109 = .ok (.iload_n 3, 1) := by decide +kernel
theorem dX8_decree_110 : decode cX8_decree 110 = .ok (.iastore, 1) := by decide +kernel
theorem dX8_decree_111 : decode cX8_decree 111 = .ok (.aload_n 0, 1) := by decide +kernel
theorem dX8_decree_112 : decode cX8_decree 112 = .ok (.getfield 22, 3) := by decide +kernel
theorem dX8_decree_115 : decode cX8_decree 115 = .ok (.aload_n 0, 1) := by decide +kernel
theorem dX8_decree_116 : decode cX8_decree 116 = .ok (.getfield 168, 3) := by decide +kernel
theorem dX8_decree_119 : decode cX8_decree 119 = .ok (.aload_n 0, 1) := by decide +kernel
theorem dX8_decree_120 : decode cX8_decree 120 = .ok (.getfield 154, 3) := by decide +kernel
theorem dX8_decree_123 : decode cX8_decree 123 = .ok (.iastore, 1) := by decide +kernel
theorem dX8_decree_124 : decode cX8_decree 124 = .ok (.aload_n 0, 1) := by decide +kernel
theorem dX8_decree_125 : decode cX8_decree 125 = .ok (.dup, 1) := by decide +kernel
theorem dX8_decree_126 : decode cX8_decree 126 = .ok (.getfield 168, 3) := by decide +kernel
theorem dX8_decree_129 : decode cX8_decree 129 = .ok (.iconst 1, 1) := by decide +kernel
theorem dX8_decree_130 : decode cX8_decree 130 = .ok (.iadd, 1) := by decide +kernel
theorem dX8_decree_131 : decode cX8_decree 131 = .ok (.putfield 168, 3) := by decide +kernel
theorem dX8_decree_134 : decode cX8_decree 134 = .ok (.iload 5, 2) := by decide +kernel
theorem dX8_decree_136 : decode cX8_decree 136 = .ok (.ireturn, 1) := by decide +kernel
theorem dX8_ruleOn_0 : decode cX8_ruleOn 0 = .ok (.iload_n 1, 1) := by decide +kernel
theorem dX8_ruleOn_1 : decode cX8_ruleOn 1 = .ok (.iconst 3, 1) := by decide +kernel
theorem dX8_ruleOn_2 : decode cX8_ruleOn 2 = .ok (.if_icmp .ne 7, 3) := by decide +kernel
theorem dX8_ruleOn_5 : decode cX8_ruleOn 5 = .ok (.iconst 1, 1) := by decide +kernel
theorem dX8_ruleOn_6 : decode cX8_ruleOn 6 = .ok (.goto 4, 3) := by decide +kernel
theorem dX8_ruleOn_9 : decode cX8_ruleOn 9 = .ok (.iconst 0, 1) := by decide +kernel
theorem dX8_ruleOn_10 : decode cX8_ruleOn 10 = .ok (.istore_n 3, 1) := by decide +kernel
theorem dX8_ruleOn_11 : decode cX8_ruleOn 11 = .ok (.iconst 0, 1) := by decide +kernel
theorem dX8_ruleOn_12 : decode cX8_ruleOn 12 = .ok (.istore 4, 2) := by decide +kernel
theorem dX8_ruleOn_14 : decode cX8_ruleOn 14 = .ok (.iload 4, 2) := by decide +kernel
theorem dX8_ruleOn_16 : decode cX8_ruleOn 16 = .ok (.aload_n 0, 1) := by decide +kernel
theorem dX8_ruleOn_17 : decode cX8_ruleOn 17 = .ok (.getfield 181, 3) := by decide +kernel
theorem dX8_ruleOn_20 : decode cX8_ruleOn 20 = .ok (.if_icmp .ge 43, 3) := by decide +kernel
theorem dX8_ruleOn_23 : decode cX8_ruleOn 23 = .ok (.aload_n 0, 1) := by decide +kernel
theorem dX8_ruleOn_24 : decode cX8_ruleOn 24 = .ok (.getfield 25, 3) := by decide +kernel
theorem dX8_ruleOn_27 : decode cX8_ruleOn 27 = .ok (.iload 4, 2) := by decide +kernel
theorem dX8_ruleOn_29 : decode cX8_ruleOn 29 = .ok (.iaload, 1) := by decide +kernel
theorem dX8_ruleOn_30 : decode cX8_ruleOn 30 = .ok (.iload_n 1, 1) := by decide +kernel
theorem dX8_ruleOn_31 : decode cX8_ruleOn 31 = .ok (.if_icmp .ne 24, 3) := by decide +kernel
theorem dX8_ruleOn_34 : decode cX8_ruleOn 34 = .ok (.aload_n 0, 1) := by decide +kernel
theorem dX8_ruleOn_35 : decode cX8_ruleOn 35 = .ok (.getfield 31, 3) := by decide +kernel
theorem dX8_ruleOn_38 : decode cX8_ruleOn 38 = .ok (.iload 4, 2) := by decide +kernel
theorem dX8_ruleOn_40 : decode cX8_ruleOn 40 = .ok (.iaload, 1) := by decide +kernel
theorem dX8_ruleOn_41 : decode cX8_ruleOn 41 = .ok (.iload_n 2, 1) := by decide +kernel
theorem dX8_ruleOn_42 : decode cX8_ruleOn 42 = .ok (.if_icmp .gt 13, 3) := by decide +kernel
theorem dX8_ruleOn_45 : decode cX8_ruleOn 45 = .ok (.aload_n 0, 1) := by decide +kernel
theorem dX8_ruleOn_46 : decode cX8_ruleOn 46 = .ok (.getfield 28, 3) := by decide +kernel
theorem dX8_ruleOn_49 : decode cX8_ruleOn 49 = .ok (.iload 4, 2) := by decide +kernel
theorem dX8_ruleOn_51 : decode cX8_ruleOn 51 = .ok (.iaload, 1) := by decide +kernel
theorem dX8_ruleOn_52 : decode cX8_ruleOn 52 = .ok (.goto 4, 3) := by decide +kernel
theorem dX8_ruleOn_55 : decode cX8_ruleOn 55 = .ok (.iload_n 3, 1) := by decide +kernel
theorem dX8_ruleOn_56 : decode cX8_ruleOn 56 = .ok (.istore_n 3, 1) := by decide +kernel
theorem dX8_ruleOn_57 : decode cX8_ruleOn 57 = .ok (.iinc 4 1, 3) := by decide +kernel
theorem dX8_ruleOn_60 : decode cX8_ruleOn 60 = .ok (.goto (-46), 3) := by decide +kernel
theorem dX8_ruleOn_63 : decode cX8_ruleOn 63 = .ok (.iload_n 3, 1) := by decide +kernel
theorem dX8_ruleOn_64 : decode cX8_ruleOn 64 = .ok (.ireturn, 1) := by decide +kernel
theorem dX8_rule_0 : decode cX8_rule 0 = .ok (.aload_n 0, 1) := by decide +kernel
theorem dX8_rule_1 : decode cX8_rule 1 = .ok (.iload_n 1, 1) := by decide +kernel
theorem dX8_rule_2 : decode cX8_rule 2 = .ok (.iconst 0, 1) := by decide +kernel
theorem dX8_rule_3 : decode cX8_rule 3 = .ok (.iconst 3, 1) := by decide +kernel
theorem dX8_rule_4 : decode cX8_rule 4 = .ok (.invokestatic 137, 3) := by decide +kernel
theorem dX8_rule_7 : decode cX8_rule 7 = .ok (.ifCond .eq 12, 3) := by decide +kernel
theorem dX8_rule_10 : decode cX8_rule 10 = .ok (.iload_n 2, 1) := by decide +kernel
theorem dX8_rule_11 : decode cX8_rule 11 = .ok (.iconst 0, 1) := by decide +kernel
theorem dX8_rule_12 : decode cX8_rule 12 = .ok (.iconst 3, 1) := by decide +kernel
theorem dX8_rule_13 : decode cX8_rule 13 = .ok (.invokestatic 137, 3) := by decide +kernel
theorem dX8_rule_16 : decode cX8_rule 16 = .ok (.ifCond .ne 7, 3) := by decide +kernel
theorem dX8_rule_19 : decode cX8_rule 19 = .ok (.iconst 1, 1) := by decide +kernel
theorem dX8_rule_20 : decode cX8_rule 20 = .ok (.goto 17, 3) := by decide +kernel
theorem dX8_rule_23 : decode cX8_rule 23 = .ok (.aload_n 0, 1) := by decide +kernel
theorem dX8_rule_24 : decode cX8_rule 24 = .ok (.getfield 181, 3) := by decide +kernel
theorem dX8_rule_27 : decode cX8_rule 27 = .ok (.bipush 40, 2) := by decide +kernel
theorem dX8_rule_29 : decode cX8_rule 29 = .ok (.if_icmp .ne 7, 3) := by decide +kernel
theorem dX8_rule_32 : decode cX8_rule 32 = .ok (.iconst 2, 1) := by decide +kernel
theorem dX8_rule_33 : decode cX8_rule 33 = .ok (.goto 4, 3) := by decide +kernel
theorem dX8_rule_36 : decode cX8_rule 36 = .ok (.iconst 0, 1) := by decide +kernel
theorem dX8_rule_37 : decode cX8_rule 37 = .ok (.invokevirtual 157, 3) := by decide +kernel
theorem dX8_rule_40 : decode cX8_rule 40 = .ok (.ifCond .ne 5, 3) := by decide +kernel
theorem dX8_rule_43 : decode cX8_rule 43 = .ok (.iconst 0, 1) := by decide +kernel
theorem dX8_rule_44 : decode cX8_rule 44 = .ok (.ireturn, 1) := by decide +kernel
theorem dX8_rule_45 : decode cX8_rule 45 = .ok (.aload_n 0, 1) := by decide +kernel
theorem dX8_rule_46 : decode cX8_rule 46 = .ok (.iload_n 1, 1) := by decide +kernel
theorem dX8_rule_47 : decode cX8_rule 47 = .ok (.aload_n 0, 1) := by decide +kernel
theorem dX8_rule_48 : decode cX8_rule 48 = .ok (.getfield 154, 3) := by decide +kernel
theorem dX8_rule_51 : decode cX8_rule 51 = .ok (.invokevirtual 184, 3) := by decide +kernel
theorem dX8_rule_54 : decode cX8_rule 54 = .ok (.istore_n 3, 1) := by decide +kernel
theorem dX8_rule_55 : decode cX8_rule 55 = .ok (.aload_n 0, 1) := by decide +kernel
theorem dX8_rule_56 : decode cX8_rule 56 = .ok (.getfield 25, 3) := by decide +kernel
theorem dX8_rule_59 : decode cX8_rule 59 = .ok (.aload_n 0, 1) := by decide +kernel
theorem dX8_rule_60 : decode cX8_rule 60 = .ok (.getfield 181, 3) := by decide +kernel
theorem dX8_rule_63 : decode cX8_rule 63 = .ok (.iload_n 1, 1) := by decide +kernel
theorem dX8_rule_64 : decode cX8_rule 64 = .ok (.iastore, 1) := by decide +kernel
theorem dX8_rule_65 : decode cX8_rule 65 = .ok (.aload_n 0, 1) := by decide +kernel
theorem dX8_rule_66 : decode cX8_rule 66 = .ok (.getfield 28, 3) := by decide +kernel
theorem dX8_rule_69 : decode cX8_rule 69 = .ok (.aload_n 0, 1) := by decide +kernel
theorem dX8_rule_70 : decode cX8_rule 70 = .ok (.getfield 181, 3) := by decide +kernel
theorem dX8_rule_73 : decode cX8_rule 73 = .ok (.iload_n 2, 1) := by decide +kernel
theorem dX8_rule_74 : decode cX8_rule 74 = .ok (.iastore, 1) := by decide +kernel
theorem dX8_rule_75 : decode cX8_rule 75 = .ok (.aload_n 0, 1) := by decide +kernel
theorem dX8_rule_76 : decode cX8_rule 76 = .ok (.getfield 31, 3) := by decide +kernel
theorem dX8_rule_79 : decode cX8_rule 79 = .ok (.aload_n 0, 1) := by decide +kernel
theorem dX8_rule_80 : decode cX8_rule 80 = .ok (.getfield 181, 3) := by decide +kernel
theorem dX8_rule_83 : decode cX8_rule 83 = .ok (.aload_n 0, 1) := by decide +kernel
theorem dX8_rule_84 : decode cX8_rule 84 = .ok (.getfield 154, 3) := by decide +kernel
theorem dX8_rule_87 : decode cX8_rule 87 = .ok (.iastore, 1) := by decide +kernel
theorem dX8_rule_88 : decode cX8_rule 88 = .ok (.aload_n 0, 1) := by decide +kernel
theorem dX8_rule_89 : decode cX8_rule 89 = .ok (.dup, 1) := by decide +kernel
theorem dX8_rule_90 : decode cX8_rule 90 = .ok (.getfield 181, 3) := by decide +kernel
theorem dX8_rule_93 : decode cX8_rule 93 = .ok (.iconst 1, 1) := by decide +kernel
theorem dX8_rule_94 : decode cX8_rule 94 = .ok (.iadd, 1) := by decide +kernel
theorem dX8_rule_95 : decode cX8_rule 95 = .ok (.putfield 181, 3) := by decide +kernel
theorem dX8_rule_98 : decode cX8_rule 98 = .ok (.iload_n 3, 1) := by decide +kernel
theorem dX8_rule_99 : decode cX8_rule 99 = .ok (.ireturn, 1) := by decide +kernel
theorem dX8_law_0 : decode cX8_law 0 = .ok (.iload_n 2, 1) := by decide +kernel
theorem dX8_law_1 : decode cX8_law 1 = .ok (.iconst 0, 1) := by decide +kernel
theorem dX8_law_2 : decode cX8_law 2 = .ok (.bipush 6, 2) := by decide +kernel
theorem dX8_law_4 : decode cX8_law 4 = .ok (.invokestatic 137, 3) := by decide +kernel
theorem dX8_law_7 : decode cX8_law 7 = .ok (.ifCond .eq 19, 3) := by decide +kernel
theorem dX8_law_10 : decode cX8_law 10 = .ok (.iload_n 3, 1) := by decide +kernel
theorem dX8_law_11 : decode cX8_law 11 = .ok (.iconst 0, 1) := by decide +kernel
theorem dX8_law_12 : decode cX8_law 12 = .ok (.aload_n 0, 1) := by decide +kernel
theorem dX8_law_13 : decode cX8_law 13 = .ok (.getfield 154, 3) := by decide +kernel
theorem dX8_law_16 : decode cX8_law 16 = .ok (.invokestatic 137, 3) := by decide +kernel
theorem dX8_law_19 : decode cX8_law 19 = .ok (.ifCond .eq 7, 3) := by decide +kernel
theorem dX8_law_22 : decode cX8_law 22 = .ok (.iconst 1, 1) := by decide +kernel
theorem dX8_law_23 : decode cX8_law 23 = .ok (.goto 4, 3) := by decide +kernel
theorem dX8_law_26 : decode cX8_law 26 = .ok (.iconst 0, 1) := by decide +kernel
theorem dX8_law_27 : decode cX8_law 27 = .ok (.istore 4, 2) := by decide +kernel
theorem dX8_law_29 : decode cX8_law 29 = .ok (.aload_n 0, 1) := by decide +kernel
theorem dX8_law_30 : decode cX8_law 30 = .ok (.aload_n 0, 1) := by decide +kernel
theorem dX8_law_31 : decode cX8_law 31 = .ok (.iload_n 1, 1) := by decide +kernel
theorem dX8_law_32 : decode cX8_law 32 = .ok (.invokevirtual 174, 3) := by decide +kernel
theorem dX8_law_35 : decode cX8_law 35 = .ok (.ifCond .ne 7, 3) := by decide +kernel
theorem dX8_law_38 : decode cX8_law 38 = .ok (.iconst 1, 1) := by decide +kernel
theorem dX8_law_39 : decode cX8_law 39 = .ok (.goto 13, 3) := by decide +kernel
theorem dX8_law_42 : decode cX8_law 42 = .ok (.iload 4, 2) := by decide +kernel
theorem dX8_law_44 : decode cX8_law 44 = .ok (.ifCond .eq 7, 3) := by decide +kernel
theorem dX8_law_47 : decode cX8_law 47 = .ok (.iconst 0, 1) := by decide +kernel
theorem dX8_law_48 : decode cX8_law 48 = .ok (.goto 4, 3) := by decide +kernel
theorem dX8_law_51 : decode cX8_law 51 = .ok (.iconst 2, 1) := by decide +kernel
theorem dX8_law_52 : decode cX8_law 52 = .ok (.invokevirtual 157, 3) := by decide +kernel
theorem dX8_law_55 : decode cX8_law 55 = .ok (.ifCond .eq 13, 3) := by decide +kernel
theorem dX8_law_58 : decode cX8_law 58 = .ok (.aload_n 0, 1) := by decide +kernel
theorem dX8_law_59 : decode cX8_law 59 = .ok (.iload_n 1, 1) := by decide +kernel
theorem dX8_law_60 : decode cX8_law 60 = .ok (.iload_n 2, 1) := by decide +kernel
theorem dX8_law_61 : decode cX8_law 61 = .ok (.iload_n 3, 1) := by decide +kernel
theorem dX8_law_62 : decode cX8_law 62 = .ok (.invokevirtual 177, 3) := by decide +kernel
theorem dX8_law_65 : decode cX8_law 65 = .ok (.goto 4, 3) := by decide +kernel
theorem dX8_law_68 : decode cX8_law 68 = .ok (.iconst 0, 1) := by decide +kernel
theorem dX8_law_69 : decode cX8_law 69 = .ok (.ireturn, 1) := by decide +kernel
theorem dX8_faithOn_0 : decode cX8_faithOn 0 = .ok (.aload_n 0, 1) := by decide +kernel
theorem dX8_faithOn_1 : decode cX8_faithOn 1 = .ok (.getfield 54, 3) := by decide +kernel
theorem dX8_faithOn_4 : decode cX8_faithOn 4 = .ok (.iload_n 1, 1) := by decide +kernel
theorem dX8_faithOn_5 : decode cX8_faithOn 5 = .ok (.iaload, 1) := by decide +kernel
theorem dX8_faithOn_6 : decode cX8_faithOn 6 = .ok (.iconst 1, 1) := by decide +kernel
theorem dX8_faithOn_7 : decode cX8_faithOn 7 = .ok (.isub, 1) := by decide +kernel
theorem dX8_faithOn_8 : decode cX8_faithOn 8 = .ok (.istore_n 3, 1) := by decide +kernel
theorem dX8_faithOn_9 : decode cX8_faithOn 9 = .ok (.iload_n 3, 1) := by decide +kernel
theorem dX8_faithOn_10 : decode cX8_faithOn 10 = .ok (.ifCond .le 28, 3) := by decide +kernel
theorem dX8_faithOn_13 : decode cX8_faithOn 13 = .ok (.aload_n 0, 1) := by decide +kernel
theorem dX8_faithOn_14 : decode cX8_faithOn 14 = .ok (.getfield 58, 3) := by decide +kernel
theorem dX8_faithOn_17 : decode cX8_faithOn 17 = .ok (.sipush 1024, 3) := by decide +kernel
theorem dX8_faithOn_20 : decode cX8_faithOn 20 = .ok (.iload_n 1, 1) := by decide +kernel
theorem dX8_faithOn_21 : decode cX8_faithOn 21 = .ok (.imul, 1) := by decide +kernel
theorem dX8_faithOn_22 : decode cX8_faithOn 22 = .ok (.iload_n 3, 1) := by decide +kernel
theorem dX8_faithOn_23 : decode cX8_faithOn 23 = .ok (.iadd, 1) := by decide +kernel
theorem dX8_faithOn_24 : decode cX8_faithOn 24 = .ok (.iaload, 1) := by decide +kernel
theorem dX8_faithOn_25 : decode cX8_faithOn 25 = .ok (.bipush 8, 2) := by decide +kernel
theorem dX8_faithOn_27 : decode cX8_faithOn 27 = .ok (.idiv, 1) := by decide +kernel
theorem dX8_faithOn_28 : decode cX8_faithOn 28 = .ok (.iload_n 2, 1) := by decide +kernel
theorem dX8_faithOn_29 : decode cX8_faithOn 29 = .ok (.if_icmp .le 9, 3) := by decide +kernel
theorem dX8_faithOn_32 : decode cX8_faithOn 32 = .ok (.iinc 3 (-1), 3) := by decide +kernel
theorem dX8_faithOn_35 : decode cX8_faithOn 35 = .ok (.goto (-26), 3) := by decide +kernel
theorem dX8_faithOn_38 : decode cX8_faithOn 38 = .ok (.aload_n 0, 1) := by decide +kernel
theorem dX8_faithOn_39 : decode cX8_faithOn 39 = .ok (.getfield 58, 3) := by decide +kernel
theorem dX8_faithOn_42 : decode cX8_faithOn 42 = .ok (.sipush 1024, 3) := by decide +kernel
theorem dX8_faithOn_45 : decode cX8_faithOn 45 = .ok (.iload_n 1, 1) := by decide +kernel
theorem dX8_faithOn_46 : decode cX8_faithOn 46 = .ok (.imul, 1) := by decide +kernel
theorem dX8_faithOn_47 : decode cX8_faithOn 47 = .ok (.iload_n 3, 1) := by decide +kernel
theorem dX8_faithOn_48 : decode cX8_faithOn 48 = .ok (.iadd, 1) := by decide +kernel
theorem dX8_faithOn_49 : decode cX8_faithOn 49 = .ok (.iaload, 1) := by decide +kernel
theorem dX8_faithOn_50 : decode cX8_faithOn 50 = .ok (.bipush 8, 2) := by decide +kernel
theorem dX8_faithOn_52 : decode cX8_faithOn 52 = .ok (.irem, 1) := by decide +kernel
theorem dX8_faithOn_53 : decode cX8_faithOn 53 = .ok (.ireturn, 1) := by decide +kernel
theorem dX8_courtOn_0 : decode cX8_courtOn 0 = .ok (.aload_n 0, 1) := by decide +kernel
theorem dX8_courtOn_1 : decode cX8_courtOn 1 = .ok (.iload_n 1, 1) := by decide +kernel
theorem dX8_courtOn_2 : decode cX8_courtOn 2 = .ok (.iload 4, 2) := by decide +kernel
theorem dX8_courtOn_4 : decode cX8_courtOn 4 = .ok (.invokevirtual 184, 3) := by decide +kernel
theorem dX8_courtOn_7 : decode cX8_courtOn 7 = .ok (.istore 5, 2) := by decide +kernel
theorem dX8_courtOn_9 : decode cX8_courtOn 9 = .ok (.aload_n 0, 1) := by decide +kernel
theorem dX8_courtOn_10 : decode cX8_courtOn 10 = .ok (.iload_n 2, 1) := by decide +kernel
theorem dX8_courtOn_11 : decode cX8_courtOn 11 = .ok (.iload 4, 2) := by decide +kernel
theorem dX8_courtOn_13 : decode cX8_courtOn 13 = .ok (.invokevirtual 188, 3) := by decide +kernel
theorem dX8_courtOn_16 : decode cX8_courtOn 16 = .ok (.istore 6, 2) := by decide +kernel
theorem dX8_courtOn_18 : decode cX8_courtOn 18 = .ok (.aload_n 0, 1) := by decide +kernel
theorem dX8_courtOn_19 : decode cX8_courtOn 19 = .ok (.iload_n 3, 1) := by decide +kernel
theorem dX8_courtOn_20 : decode cX8_courtOn 20 = .ok (.iload 4, 2) := by decide +kernel
theorem dX8_courtOn_22 : decode cX8_courtOn 22 = .ok (.invokevirtual 188, 3) := by decide +kernel
theorem dX8_courtOn_25 : decode cX8_courtOn 25 = .ok (.istore 7, 2) := by decide +kernel
theorem dX8_courtOn_27 : decode cX8_courtOn 27 = .ok (.iload 5, 2) := by decide +kernel
theorem dX8_courtOn_29 : decode cX8_courtOn 29 = .ok (.iconst 3, 1) := by decide +kernel
theorem dX8_courtOn_30 : decode cX8_courtOn 30 = .ok (.if_icmp .ne 7, 3) := by decide +kernel
theorem dX8_courtOn_33 : decode cX8_courtOn 33 = .ok (.iconst (-1), 1) := by decide +kernel
theorem dX8_courtOn_34 : decode cX8_courtOn 34 = .ok (.goto 37, 3) := by decide +kernel
theorem dX8_courtOn_37 : decode cX8_courtOn 37 = .ok (.iload 5, 2) := by decide +kernel
theorem dX8_courtOn_39 : decode cX8_courtOn 39 = .ok (.ifCond .ne 8, 3) := by decide +kernel
theorem dX8_courtOn_42 : decode cX8_courtOn 42 = .ok (.iload 6, 2) := by decide +kernel
theorem dX8_courtOn_44 : decode cX8_courtOn 44 = .ok (.goto 27, 3) := by decide +kernel
theorem dX8_courtOn_47 : decode cX8_courtOn 47 = .ok (.iload 5, 2) := by decide +kernel
theorem dX8_courtOn_49 : decode cX8_courtOn 49 = .ok (.iconst 1, 1) := by decide +kernel
theorem dX8_courtOn_50 : decode cX8_courtOn 50 = .ok (.if_icmp .ne 8, 3) := by decide +kernel
theorem dX8_courtOn_53 : decode cX8_courtOn 53 = .ok (.iload 7, 2) := by decide +kernel
theorem dX8_courtOn_55 : decode cX8_courtOn 55 = .ok (.goto 16, 3) := by decide +kernel
theorem dX8_courtOn_58 : decode cX8_courtOn 58 = .ok (.iload 6, 2) := by decide +kernel
theorem dX8_courtOn_60 : decode cX8_courtOn 60 = .ok (.iload 7, 2) := by decide +kernel
theorem dX8_courtOn_62 : decode cX8_courtOn 62 = .ok (.if_icmp .ne 8, 3) := by decide +kernel
theorem dX8_courtOn_65 : decode cX8_courtOn 65 = .ok (.iload 6, 2) := by decide +kernel
theorem dX8_courtOn_67 : decode cX8_courtOn 67 = .ok (.goto 4, 3) := by decide +kernel
theorem dX8_courtOn_70 : decode cX8_courtOn 70 = .ok (.iconst (-1), 1) := by decide +kernel
theorem dX8_courtOn_71 : decode cX8_courtOn 71 = .ok (.istore 8, 2) := by decide +kernel
theorem dX8_courtOn_73 : decode cX8_courtOn 73 = .ok (.iload 8, 2) := by decide +kernel
theorem dX8_courtOn_75 : decode cX8_courtOn 75 = .ok (.iconst (-1), 1) := by decide +kernel
theorem dX8_courtOn_76 : decode cX8_courtOn 76 = .ok (.if_icmp .eq 19, 3) := by decide +kernel
theorem dX8_courtOn_79 : decode cX8_courtOn 79 = .ok (.aload_n 0, 1) := by decide +kernel
theorem dX8_courtOn_80 : decode cX8_courtOn 80 = .ok (.iload 8, 2) := by decide +kernel
theorem dX8_courtOn_82 : decode cX8_courtOn 82 = .ok (.iload 4, 2) := by decide +kernel
theorem dX8_courtOn_84 : decode cX8_courtOn 84 = .ok (.invokevirtual 164, 3) := by decide +kernel
theorem dX8_courtOn_87 : decode cX8_courtOn 87 = .ok (.ifCond .eq 8, 3) := by decide +kernel
theorem dX8_courtOn_90 : decode cX8_courtOn 90 = .ok (.iload 8, 2) := by decide +kernel
theorem dX8_courtOn_92 : decode cX8_courtOn 92 = .ok (.goto 4, 3) := by decide +kernel
theorem dX8_courtOn_95 : decode cX8_courtOn 95 = .ok (.iconst (-1), 1) := by decide +kernel
theorem dX8_courtOn_96 : decode cX8_courtOn 96 = .ok (.ireturn, 1) := by decide +kernel
theorem dX8_court_0 : decode cX8_court 0 = .ok (.aload_n 0, 1) := by decide +kernel
theorem dX8_court_1 : decode cX8_court 1 = .ok (.iload_n 2, 1) := by decide +kernel
theorem dX8_court_2 : decode cX8_court 2 = .ok (.invokevirtual 191, 3) := by decide +kernel
theorem dX8_court_5 : decode cX8_court 5 = .ok (.ifCond .eq 15, 3) := by decide +kernel
theorem dX8_court_8 : decode cX8_court 8 = .ok (.aload_n 0, 1) := by decide +kernel
theorem dX8_court_9 : decode cX8_court 9 = .ok (.iload_n 3, 1) := by decide +kernel
theorem dX8_court_10 : decode cX8_court 10 = .ok (.invokevirtual 191, 3) := by decide +kernel
theorem dX8_court_13 : decode cX8_court 13 = .ok (.ifCond .eq 7, 3) := by decide +kernel
theorem dX8_court_16 : decode cX8_court 16 = .ok (.iconst 1, 1) := by decide +kernel
theorem dX8_court_17 : decode cX8_court 17 = .ok (.goto 4, 3) := by decide +kernel
theorem dX8_court_20 : decode cX8_court 20 = .ok (.iconst 0, 1) := by decide +kernel
theorem dX8_court_21 : decode cX8_court 21 = .ok (.istore 5, 2) := by decide +kernel
theorem dX8_court_23 : decode cX8_court 23 = .ok (.iload 5, 2) := by decide +kernel
theorem dX8_court_25 : decode cX8_court 25 = .ok (.ifCond .eq 52, 3) := by decide +kernel
theorem dX8_court_28 : decode cX8_court 28 = .ok (.iload_n 1, 1) := by decide +kernel
theorem dX8_court_29 : decode cX8_court 29 = .ok (.iconst 0, 1) := by decide +kernel
theorem dX8_court_30 : decode cX8_court 30 = .ok (.iconst 3, 1) := by decide +kernel
theorem dX8_court_31 : decode cX8_court 31 = .ok (.invokestatic 137, 3) := by decide +kernel
theorem dX8_court_34 : decode cX8_court 34 = .ok (.ifCond .eq 43, 3) := by decide +kernel
theorem dX8_court_37 : decode cX8_court 37 = .ok (.iload 4, 2) := by decide +kernel
theorem dX8_court_39 : decode cX8_court 39 = .ok (.aload_n 0, 1) := by decide +kernel
theorem dX8_court_40 : decode cX8_court 40 = .ok (.getfield 44, 3) := by decide +kernel
theorem dX8_court_43 : decode cX8_court 43 = .ok (.iload_n 2, 1) := by decide +kernel
theorem dX8_court_44 : decode cX8_court 44 = .ok (.iaload, 1) := by decide +kernel
theorem dX8_court_45 : decode cX8_court 45 = .ok (.aload_n 0, 1) := by decide +kernel
theorem dX8_court_46 : decode cX8_court 46 = .ok (.getfield 154, 3) := by decide +kernel
theorem dX8_court_49 : decode cX8_court 49 = .ok (.invokestatic 137, 3) := by decide +kernel
theorem dX8_court_52 : decode cX8_court 52 = .ok (.ifCond .eq 25, 3) := by decide +kernel
theorem dX8_court_55 : decode cX8_court 55 = .ok (.iload 4, 2) := by decide +kernel
theorem dX8_court_57 : decode cX8_court 57 = .ok (.aload_n 0, 1) := by decide +kernel
theorem dX8_court_58 : decode cX8_court 58 = .ok (.getfield 44, 3) := by decide +kernel
theorem dX8_court_61 : decode cX8_court 61 = .ok (.iload_n 3, 1) := by decide +kernel
theorem dX8_court_62 : decode cX8_court 62 = .ok (.iaload, 1) := by decide +kernel
theorem dX8_court_63 : decode cX8_court 63 = .ok (.aload_n 0, 1) := by decide +kernel
theorem dX8_court_64 : decode cX8_court 64 = .ok (.getfield 154, 3) := by decide +kernel
theorem dX8_court_67 : decode cX8_court 67 = .ok (.invokestatic 137, 3) := by decide +kernel
theorem dX8_court_70 : decode cX8_court 70 = .ok (.ifCond .eq 7, 3) := by decide +kernel
theorem dX8_court_73 : decode cX8_court 73 = .ok (.iconst 1, 1) := by decide +kernel
theorem dX8_court_74 : decode cX8_court 74 = .ok (.goto 4, 3) := by decide +kernel
theorem dX8_court_77 : decode cX8_court 77 = .ok (.iconst 0, 1) := by decide +kernel
theorem dX8_court_78 : decode cX8_court 78 = .ok (.istore 6, 2) := by decide +kernel
theorem dX8_court_80 : decode cX8_court 80 = .ok (.aload_n 0, 1) := by decide +kernel
theorem dX8_court_81 : decode cX8_court 81 = .ok (.iload 5, 2) := by decide +kernel
theorem dX8_court_83 : decode cX8_court 83 = .ok (.ifCond .ne 7, 3) := by decide +kernel
theorem dX8_court_86 : decode cX8_court 86 = .ok (.iconst 1, 1) := by decide +kernel
theorem dX8_court_87 : decode cX8_court 87 = .ok (.goto 13, 3) := by decide +kernel
theorem dX8_court_90 : decode cX8_court 90 = .ok (.iload 6, 2) := by decide +kernel
theorem dX8_court_92 : decode cX8_court 92 = .ok (.ifCond .eq 7, 3) := by decide +kernel
theorem dX8_court_95 : decode cX8_court 95 = .ok (.iconst 0, 1) := by decide +kernel
theorem dX8_court_96 : decode cX8_court 96 = .ok (.goto 4, 3) := by decide +kernel
theorem dX8_court_99 : decode cX8_court 99 = .ok (.iconst 2, 1) := by decide +kernel
theorem dX8_court_100 : decode cX8_court 100 = .ok (.invokevirtual 157, 3) := by decide +kernel
theorem dX8_court_103 : decode cX8_court 103 = .ok (.ifCond .eq 15, 3) := by decide +kernel
theorem dX8_court_106 : decode cX8_court 106 = .ok (.aload_n 0, 1) := by decide +kernel
theorem dX8_court_107 : decode cX8_court 107 = .ok (.iload_n 1, 1) := by decide +kernel
theorem dX8_court_108 : decode cX8_court 108 = .ok (.iload_n 2, 1) := by decide +kernel
theorem dX8_court_109 : decode cX8_court 109 = .ok (.iload_n 3, 1) := by decide +kernel
theorem dX8_court_110 : decode cX8_court 110 = .ok (.iload 4, 2) := by decide +kernel
theorem dX8_court_112 : decode cX8_court 112 = .ok (.invokevirtual 194, 3) := by decide +kernel
theorem dX8_court_115 : decode cX8_court 115 = .ok (.goto 4, 3) := by decide +kernel
theorem dX8_court_118 : decode cX8_court 118 = .ok (.iconst 0, 1) := by decide +kernel
theorem dX8_court_119 : decode cX8_court 119 = .ok (.ireturn, 1) := by decide +kernel
theorem dX8_takes_0 : decode cX8_takes 0 = .ok (.aload_n 0, 1) := by decide +kernel
theorem dX8_takes_1 : decode cX8_takes 1 = .ok (.getfield 58, 3) := by decide +kernel
theorem dX8_takes_4 : decode cX8_takes 4 = .ok (.sipush 1024, 3) := by decide +kernel
theorem dX8_takes_7 : decode cX8_takes 7 = .ok (.iload_n 1, 1) := by decide +kernel
theorem dX8_takes_8 : decode cX8_takes 8 = .ok (.imul, 1) := by decide +kernel
theorem dX8_takes_9 : decode cX8_takes 9 = .ok (.aload_n 0, 1) := by decide +kernel
theorem dX8_takes_10 : decode cX8_takes 10 = .ok (.getfield 54, 3) := by decide +kernel
theorem dX8_takes_13 : decode cX8_takes 13 = .ok (.iload_n 1, 1) := by decide +kernel
theorem dX8_takes_14 : decode cX8_takes 14 = .ok (.iaload, 1) := by decide +kernel
theorem dX8_takes_15 : decode cX8_takes 15 = .ok (.iadd, 1) := by decide +kernel
theorem dX8_takes_16 : decode cX8_takes 16 = .ok (.bipush 8, 2) := by decide +kernel
theorem dX8_takes_18 : decode cX8_takes 18 = .ok (.aload_n 0, 1) := by decide +kernel
theorem dX8_takes_19 : decode cX8_takes 19 = .ok (.getfield 154, 3) := by decide +kernel
theorem dX8_takes_22 : decode cX8_takes 22 = .ok (.imul, 1) := by decide +kernel
theorem dX8_takes_23 : decode cX8_takes 23 = .ok (.iload_n 2, 1) := by decide +kernel
theorem dX8_takes_24 : decode cX8_takes 24 = .ok (.iadd, 1) := by decide +kernel
theorem dX8_takes_25 : decode cX8_takes 25 = .ok (.iastore, 1) := by decide +kernel
theorem dX8_takes_26 : decode cX8_takes 26 = .ok (.aload_n 0, 1) := by decide +kernel
theorem dX8_takes_27 : decode cX8_takes 27 = .ok (.getfield 54, 3) := by decide +kernel
theorem dX8_takes_30 : decode cX8_takes 30 = .ok (.iload_n 1, 1) := by decide +kernel
theorem dX8_takes_31 : decode cX8_takes 31 = .ok (.dup2, 1) := by decide +kernel
theorem dX8_takes_32 : decode cX8_takes 32 = .ok (.iaload, 1) := by decide +kernel
theorem dX8_takes_33 : decode cX8_takes 33 = .ok (.iconst 1, 1) := by decide +kernel
theorem dX8_takes_34 : decode cX8_takes 34 = .ok (.iadd, 1) := by decide +kernel
theorem dX8_takes_35 : decode cX8_takes 35 = .ok (.iastore, 1) := by decide +kernel
theorem dX8_takes_36 : decode cX8_takes 36 = .ok (.return_, 1) := by decide +kernel
theorem dX8_person_0 : decode cX8_person 0 = .ok (.iload_n 2, 1) := by decide +kernel
theorem dX8_person_1 : decode cX8_person 1 = .ok (.iconst (-1), 1) := by decide +kernel
theorem dX8_person_2 : decode cX8_person 2 = .ok (.if_icmp .eq 11, 3) := by decide +kernel
theorem dX8_person_5 : decode cX8_person 5 = .ok (.aload_n 0, 1) := by decide +kernel
theorem dX8_person_6 : decode cX8_person 6 = .ok (.iload_n 2, 1) := by decide +kernel
theorem dX8_person_7 : decode cX8_person 7 = .ok (.invokevirtual 191, 3) := by decide +kernel
theorem dX8_person_10 : decode cX8_person 10 = .ok (.ifCond .eq 29, 3) := by decide +kernel
theorem dX8_person_13 : decode cX8_person 13 = .ok (.iload_n 3, 1) := by decide +kernel
theorem dX8_person_14 : decode cX8_person 14 = .ok (.iconst (-1), 1) := by decide +kernel
theorem dX8_person_15 : decode cX8_person 15 = .ok (.if_icmp .eq 11, 3) := by decide +kernel
theorem dX8_person_18 : decode cX8_person 18 = .ok (.aload_n 0, 1) := by decide +kernel
theorem dX8_person_19 : decode cX8_person 19 = .ok (.iload_n 3, 1) := by decide +kernel
theorem dX8_person_20 : decode cX8_person 20 = .ok (.invokevirtual 191, 3) := by decide +kernel
theorem dX8_person_23 : decode cX8_person 23 = .ok (.ifCond .eq 16, 3) := by decide +kernel
theorem dX8_person_26 : decode cX8_person 26 = .ok (.aload_n 0, 1) := by decide +kernel
theorem dX8_person_27 : decode cX8_person 27 = .ok (.iload 4, 2) := by decide +kernel
theorem dX8_person_29 : decode cX8_person 29 = .ok (.invokevirtual 174, 3) := by decide +kernel
theorem dX8_person_32 : decode cX8_person 32 = .ok (.ifCond .eq 7, 3) := by decide +kernel
theorem dX8_person_35 : decode cX8_person 35 = .ok (.iconst 1, 1) := by decide +kernel
theorem dX8_person_36 : decode cX8_person 36 = .ok (.goto 4, 3) := by decide +kernel
theorem dX8_person_39 : decode cX8_person 39 = .ok (.iconst 0, 1) := by decide +kernel
theorem dX8_person_40 : decode cX8_person 40 = .ok (.istore 5, 2) := by decide +kernel
theorem dX8_person_42 : decode cX8_person 42 = .ok (.iload_n 2, 1) := by decide +kernel
theorem dX8_person_43 : decode cX8_person 43 = .ok (.iconst (-1), 1) := by decide +kernel
theorem dX8_person_44 : decode cX8_person 44 = .ok (.if_icmp .ne 12, 3) := by decide +kernel
theorem dX8_person_47 : decode cX8_person 47 = .ok (.iload_n 3, 1) := by decide +kernel
theorem dX8_person_48 : decode cX8_person 48 = .ok (.iconst (-1), 1) := by decide +kernel
theorem dX8_person_49 : decode cX8_person 49 = .ok (.if_icmp .ne 7, 3) := by decide +kernel
theorem dX8_person_52 : decode cX8_person 52 = .ok (.iconst 1, 1) := by decide +kernel
theorem dX8_person_53 : decode cX8_person 53 = .ok (.goto 4, 3) := by decide +kernel
theorem dX8_person_56 : decode cX8_person 56 = .ok (.iconst 0, 1) := by decide +kernel
theorem dX8_person_57 : decode cX8_person 57 = .ok (.istore 6, 2) := by decide +kernel
theorem dX8_person_59 : decode cX8_person 59 = .ok (.iload 5, 2) := by decide +kernel
theorem dX8_person_61 : decode cX8_person 61 = .ok (.ifCond .eq 51, 3) := by decide +kernel
theorem dX8_person_64 : decode cX8_person 64 = .ok (.iload_n 2, 1) := by decide +kernel
theorem dX8_person_65 : decode cX8_person 65 = .ok (.iconst (-1), 1) := by decide +kernel
theorem dX8_person_66 : decode cX8_person 66 = .ok (.if_icmp .eq 12, 3) := by decide +kernel
theorem dX8_person_69 : decode cX8_person 69 = .ok (.aload_n 0, 1) := by decide +kernel
theorem dX8_person_70 : decode cX8_person 70 = .ok (.getfield 34, 3) := by decide +kernel
theorem dX8_person_73 : decode cX8_person 73 = .ok (.iload_n 2, 1) := by decide +kernel
theorem dX8_person_74 : decode cX8_person 74 = .ok (.baload, 1) := by decide +kernel
theorem dX8_person_75 : decode cX8_person 75 = .ok (.ifCond .ne 37, 3) := by decide +kernel
theorem dX8_person_78 : decode cX8_person 78 = .ok (.iload_n 3, 1) := by decide +kernel
theorem dX8_person_79 : decode cX8_person 79 = .ok (.iconst (-1), 1) := by decide +kernel
theorem dX8_person_80 : decode cX8_person 80 = .ok (.if_icmp .eq 12, 3) := by decide +kernel
theorem dX8_person_83 : decode cX8_person 83 = .ok (.aload_n 0, 1) := by decide +kernel
theorem dX8_person_84 : decode cX8_person 84 = .ok (.getfield 34, 3) := by decide +kernel
theorem dX8_person_87 : decode cX8_person 87 = .ok (.iload_n 3, 1) := by decide +kernel
theorem dX8_person_88 : decode cX8_person 88 = .ok (.baload, 1) := by decide +kernel
theorem dX8_person_89 : decode cX8_person 89 = .ok (.ifCond .eq 23, 3) := by decide +kernel
theorem dX8_person_92 : decode cX8_person 92 = .ok (.iload 6, 2) := by decide +kernel
theorem dX8_person_94 : decode cX8_person 94 = .ok (.iload 4, 2) := by decide +kernel
theorem dX8_person_96 : decode cX8_person 96 = .ok (.iconst (-1), 1) := by decide +kernel
theorem dX8_person_97 : decode cX8_person 97 = .ok (.if_icmp .eq 7, 3) := by decide +kernel
theorem dX8_person_100 : decode cX8_person 100 = .ok (.iconst 1, 1) := by decide +kernel
theorem dX8_person_101 : decode cX8_person 101 = .ok (.goto 4, 3) := by decide +kernel
theorem dX8_person_104 : decode cX8_person 104 = .ok (.iconst 0, 1) := by decide +kernel
theorem dX8_person_105 : decode cX8_person 105 = .ok (.if_icmp .ne 7, 3) := by decide +kernel
theorem dX8_person_108 : decode cX8_person 108 = .ok (.iconst 1, 1) := by decide +kernel
theorem dX8_person_109 : decode cX8_person 109 = .ok (.goto 4, 3) := by decide +kernel
theorem dX8_person_112 : decode cX8_person 112 = .ok (.iconst 0, 1) := by decide +kernel
theorem dX8_person_113 : decode cX8_person 113 = .ok (.istore 7, 2) := by decide +kernel
theorem dX8_person_115 : decode cX8_person 115 = .ok (.aload_n 0, 1) := by decide +kernel
theorem dX8_person_116 : decode cX8_person 116 = .ok (.iload 5, 2) := by decide +kernel
theorem dX8_person_118 : decode cX8_person 118 = .ok (.ifCond .ne 7, 3) := by decide +kernel
theorem dX8_person_121 : decode cX8_person 121 = .ok (.iconst 1, 1) := by decide +kernel
theorem dX8_person_122 : decode cX8_person 122 = .ok (.goto 26, 3) := by decide +kernel
theorem dX8_person_125 : decode cX8_person 125 = .ok (.iload 7, 2) := by decide +kernel
theorem dX8_person_127 : decode cX8_person 127 = .ok (.ifCond .ne 7, 3) := by decide +kernel
theorem dX8_person_130 : decode cX8_person 130 = .ok (.iconst 2, 1) := by decide +kernel
theorem dX8_person_131 : decode cX8_person 131 = .ok (.goto 17, 3) := by decide +kernel
theorem dX8_person_134 : decode cX8_person 134 = .ok (.aload_n 0, 1) := by decide +kernel
theorem dX8_person_135 : decode cX8_person 135 = .ok (.getfield 145, 3) := by decide +kernel
theorem dX8_person_138 : decode cX8_person 138 = .ok (.bipush 40, 2) := by decide +kernel
theorem dX8_person_140 : decode cX8_person 140 = .ok (.if_icmp .ne 7, 3) := by decide +kernel
theorem dX8_person_143 : decode cX8_person 143 = .ok (.iconst 3, 1) := by decide +kernel
theorem dX8_person_144 : decode cX8_person 144 = .ok (.goto 4, 3) := by decide +kernel
theorem dX8_person_147 : decode cX8_person 147 = .ok (.iconst 0, 1) := by decide +kernel
theorem dX8_person_148 : decode cX8_person 148 = .ok (.invokevirtual 157, 3) := by decide +kernel
theorem dX8_person_151 : decode cX8_person 151 = .ok (.ifCond .ne 5, 3) := by decide +kernel
theorem dX8_person_154 : decode cX8_person 154 = .ok (.iconst 0, 1) := by decide +kernel
theorem dX8_person_155 : decode cX8_person 155 = .ok (.ireturn, 1) := by decide +kernel
theorem dX8_person_156 : decode cX8_person 156 = .ok (.aload_n 0, 1) := by decide +kernel
theorem dX8_person_157 : decode cX8_person 157 = .ok (.getfield 34, 3) := by decide +kernel
theorem dX8_person_160 : decode cX8_person 160 = .ok (.aload_n 0, 1) := by decide +kernel
theorem dX8_person_161 : decode cX8_person 161 = .ok (.getfield 145, 3) := by decide +kernel
theorem dX8_person_164 : decode cX8_person 164 = .ok (.iload_n 1, 1) := by decide +kernel
theorem dX8_person_165 : decode cX8_person 165 = .ok (.bastore, 1) := by decide +kernel
theorem dX8_person_166 : decode cX8_person 166 = .ok (.aload_n 0, 1) := by decide +kernel
theorem dX8_person_167 : decode cX8_person 167 = .ok (.getfield 38, 3) := by decide +kernel
theorem dX8_person_170 : decode cX8_person 170 = .ok (.aload_n 0, 1) := by decide +kernel
theorem dX8_person_171 : decode cX8_person 171 = .ok (.getfield 145, 3) := by decide +kernel
theorem dX8_person_174 : decode cX8_person 174 = .ok (.iload_n 2, 1) := by decide +kernel
theorem dX8_person_175 : decode cX8_person 175 = .ok (.iastore, 1) := by decide +kernel
theorem dX8_person_176 : decode cX8_person 176 = .ok (.aload_n 0, 1) := by decide +kernel
theorem dX8_person_177 : decode cX8_person 177 = .ok (.getfield 41, 3) := by decide +kernel
theorem dX8_person_180 : decode cX8_person 180 = .ok (.aload_n 0, 1) := by decide +kernel
theorem dX8_person_181 : decode cX8_person 181 = .ok (.getfield 145, 3) := by decide +kernel
theorem dX8_person_184 : decode cX8_person 184 = .ok (.iload_n 3, 1) := by decide +kernel
theorem dX8_person_185 : decode cX8_person 185 = .ok (.iastore, 1) := by decide +kernel
theorem dX8_person_186 : decode cX8_person 186 = .ok (.aload_n 0, 1) := by decide +kernel
theorem dX8_person_187 : decode cX8_person 187 = .ok (.getfield 44, 3) := by decide +kernel
theorem dX8_person_190 : decode cX8_person 190 = .ok (.aload_n 0, 1) := by decide +kernel
theorem dX8_person_191 : decode cX8_person 191 = .ok (.getfield 145, 3) := by decide +kernel
theorem dX8_person_194 : decode cX8_person 194 = .ok (.aload_n 0, 1) := by decide +kernel
theorem dX8_person_195 : decode cX8_person 195 = .ok (.getfield 154, 3) := by decide +kernel
theorem dX8_person_198 : decode cX8_person 198 = .ok (.iastore, 1) := by decide +kernel
theorem dX8_person_199 : decode cX8_person 199 = .ok (.aload_n 0, 1) := by decide +kernel
theorem dX8_person_200 : decode cX8_person 200 = .ok (.getfield 61, 3) := by decide +kernel
theorem dX8_person_203 : decode cX8_person 203 = .ok (.aload_n 0, 1) := by decide +kernel
theorem dX8_person_204 : decode cX8_person 204 = .ok (.getfield 145, 3) := by decide +kernel
theorem dX8_person_207 : decode cX8_person 207 = .ok (.iconst (-1), 1) := by decide +kernel
theorem dX8_person_208 : decode cX8_person 208 = .ok (.iastore, 1) := by decide +kernel
theorem dX8_person_209 : decode cX8_person 209 = .ok (.aload_n 0, 1) := by decide +kernel
theorem dX8_person_210 : decode cX8_person 210 = .ok (.getfield 64, 3) := by decide +kernel
theorem dX8_person_213 : decode cX8_person 213 = .ok (.aload_n 0, 1) := by decide +kernel
theorem dX8_person_214 : decode cX8_person 214 = .ok (.getfield 145, 3) := by decide +kernel
theorem dX8_person_217 : decode cX8_person 217 = .ok (.iconst (-1), 1) := by decide +kernel
theorem dX8_person_218 : decode cX8_person 218 = .ok (.iastore, 1) := by decide +kernel
theorem dX8_person_219 : decode cX8_person 219 = .ok (.aload_n 0, 1) := by decide +kernel
theorem dX8_person_220 : decode cX8_person 220 = .ok (.aload_n 0, 1) := by decide +kernel
theorem dX8_person_221 : decode cX8_person 221 = .ok (.getfield 145, 3) := by decide +kernel
theorem dX8_person_224 : decode cX8_person 224 = .ok (.iload 6, 2) := by decide +kernel
theorem dX8_person_226 : decode cX8_person 226 = .ok (.ifCond .eq 8, 3) := by decide +kernel
theorem dX8_person_229 : decode cX8_person 229 = .ok (.iload 4, 2) := by decide +kernel
theorem dX8_person_231 : decode cX8_person 231 = .ok (.goto 21, 3) := by decide +kernel
theorem dX8_person_234 : decode cX8_person 234 = .ok (.aload_n 0, 1) := by decide +kernel
theorem dX8_person_235 : decode cX8_person 235 = .ok (.iload_n 3, 1) := by decide +kernel
theorem dX8_person_236 : decode cX8_person 236 = .ok (.iconst (-1), 1) := by decide +kernel
theorem dX8_person_237 : decode cX8_person 237 = .ok (.if_icmp .eq 7, 3) := by decide +kernel
theorem dX8_person_240 : decode cX8_person 240 = .ok (.iload_n 3, 1) := by decide +kernel
theorem dX8_person_241 : decode cX8_person 241 = .ok (.goto 4, 3) := by decide +kernel
theorem dX8_person_244 : decode cX8_person 244 = .ok (.iload_n 2, 1) := by decide +kernel
theorem dX8_person_245 : decode cX8_person 245 = .ok (.aload_n 0, 1) := by decide +kernel
theorem dX8_person_246 : decode cX8_person 246 = .ok (.getfield 154, 3) := by decide +kernel
theorem dX8_person_249 : decode cX8_person 249 = .ok (.invokevirtual 188, 3) := by decide +kernel
theorem dX8_person_252 : decode cX8_person 252 = .ok (.invokevirtual 198, 3) := by decide +kernel
theorem dX8_person_255 : decode cX8_person 255 = .ok (.aload_n 0, 1) := by decide +kernel
theorem dX8_person_256 : decode cX8_person 256 = .ok (.dup, 1) := by decide +kernel
theorem dX8_person_257 : decode cX8_person 257 = .ok (.getfield 145, 3) := by decide +kernel
theorem dX8_person_260 : decode cX8_person 260 = .ok (.iconst 1, 1) := by decide +kernel
theorem dX8_person_261 : decode cX8_person 261 = .ok (.iadd, 1) := by decide +kernel
theorem dX8_person_262 : decode cX8_person 262 = .ok (.putfield 145, 3) := by decide +kernel
theorem dX8_person_265 : decode cX8_person 265 = .ok (.aload_n 0, 1) := by decide +kernel
theorem dX8_person_266 : decode cX8_person 266 = .ok (.getfield 145, 3) := by decide +kernel
theorem dX8_person_269 : decode cX8_person 269 = .ok (.iconst 1, 1) := by decide +kernel
theorem dX8_person_270 : decode cX8_person 270 = .ok (.isub, 1) := by decide +kernel
theorem dX8_person_271 : decode cX8_person 271 = .ok (.ireturn, 1) := by decide +kernel
theorem dX8_isMinor_0 : decode cX8_isMinor 0 = .ok (.aload_n 0, 1) := by decide +kernel
theorem dX8_isMinor_1 : decode cX8_isMinor 1 = .ok (.getfield 154, 3) := by decide +kernel
theorem dX8_isMinor_4 : decode cX8_isMinor 4 = .ok (.aload_n 0, 1) := by decide +kernel
theorem dX8_isMinor_5 : decode cX8_isMinor 5 = .ok (.getfield 44, 3) := by decide +kernel
theorem dX8_isMinor_8 : decode cX8_isMinor 8 = .ok (.iload_n 1, 1) := by decide +kernel
theorem dX8_isMinor_9 : decode cX8_isMinor 9 = .ok (.iaload, 1) := by decide +kernel
theorem dX8_isMinor_10 : decode cX8_isMinor 10 = .ok (.isub, 1) := by decide +kernel
theorem dX8_isMinor_11 : decode cX8_isMinor 11 = .ok (.sipush 5000, 3) := by decide +kernel
theorem dX8_isMinor_14 : decode cX8_isMinor 14 = .ok (.if_icmp .ge 7, 3) := by decide +kernel
theorem dX8_isMinor_17 : decode cX8_isMinor 17 = .ok (.iconst 1, 1) := by decide +kernel
theorem dX8_isMinor_18 : decode cX8_isMinor 18 = .ok (.goto 4, 3) := by decide +kernel
theorem dX8_isMinor_21 : decode cX8_isMinor 21 = .ok (.iconst 0, 1) := by decide +kernel
theorem dX8_isMinor_22 : decode cX8_isMinor 22 = .ok (.ireturn, 1) := by decide +kernel
theorem dX8_isGrown_0 : decode cX8_isGrown 0 = .ok (.aload_n 0, 1) := by decide +kernel
theorem dX8_isGrown_1 : decode cX8_isGrown 1 = .ok (.getfield 47, 3) := by decide +kernel
theorem dX8_isGrown_4 : decode cX8_isGrown 4 = .ok (.iload_n 1, 1) := by decide +kernel
theorem dX8_isGrown_5 : decode cX8_isGrown 5 = .ok (.baload, 1) := by decide +kernel
theorem dX8_isGrown_6 : decode cX8_isGrown 6 = .ok (.ifCond .ne 15, 3) := by decide +kernel
theorem dX8_isGrown_9 : decode cX8_isGrown 9 = .ok (.aload_n 0, 1) := by decide +kernel
theorem dX8_isGrown_10 : decode cX8_isGrown 10 = .ok (.iload_n 1, 1) := by decide +kernel
theorem dX8_isGrown_11 : decode cX8_isGrown 11 = .ok (.invokevirtual 202, 3) := by decide +kernel
theorem dX8_isGrown_14 : decode cX8_isGrown 14 = .ok (.ifCond .ne 7, 3) := by decide +kernel
theorem dX8_isGrown_17 : decode cX8_isGrown 17 = .ok (.iconst 1, 1) := by decide +kernel
theorem dX8_isGrown_18 : decode cX8_isGrown 18 = .ok (.goto 4, 3) := by decide +kernel
theorem dX8_isGrown_21 : decode cX8_isGrown 21 = .ok (.iconst 0, 1) := by decide +kernel
theorem dX8_isGrown_22 : decode cX8_isGrown 22 = .ok (.ireturn, 1) := by decide +kernel
theorem dX8_canWitness_0 : decode cX8_canWitness 0 = .ok (.aload_n 0, 1) := by decide +kernel
theorem dX8_canWitness_1 : decode cX8_canWitness 1 = .ok (.iload_n 1, 1) := by decide +kernel
theorem dX8_canWitness_2 : decode cX8_canWitness 2 = .ok (.invokevirtual 205, 3) := by decide +kernel
theorem dX8_canWitness_5 : decode cX8_canWitness 5 = .ok (.ifCond .eq 20, 3) := by decide +kernel
theorem dX8_canWitness_8 : decode cX8_canWitness 8 = .ok (.aload_n 0, 1) := by decide +kernel
theorem dX8_canWitness_9 : decode cX8_canWitness 9 = .ok (.iload_n 1, 1) := by decide +kernel
theorem dX8_canWitness_10 : decode cX8_canWitness 10 = .ok (.aload_n 0, 1) := by decide +kernel
theorem dX8_canWitness_11 : decode cX8_canWitness 11 = .ok (.getfield 154, 3) := by decide +kernel
theorem dX8_canWitness_14 : decode cX8_canWitness 14 = .ok (.invokevirtual 188, 3) := by decide +kernel
theorem dX8_canWitness_17 : decode cX8_canWitness 17 = .ok (.iload_n 2, 1) := by decide +kernel
theorem dX8_canWitness_18 : decode cX8_canWitness 18 = .ok (.if_icmp .ne 7, 3) := by decide +kernel
theorem dX8_canWitness_21 : decode cX8_canWitness 21 = .ok (.iconst 1, 1) := by decide +kernel
theorem dX8_canWitness_22 : decode cX8_canWitness 22 = .ok (.goto 4, 3) := by decide +kernel
theorem dX8_canWitness_25 : decode cX8_canWitness 25 = .ok (.iconst 0, 1) := by decide +kernel
theorem dX8_canWitness_26 : decode cX8_canWitness 26 = .ok (.ireturn, 1) := by decide +kernel
theorem dX8_turn_0 : decode cX8_turn 0 = .ok (.aload_n 0, 1) := by decide +kernel
theorem dX8_turn_1 : decode cX8_turn 1 = .ok (.iload_n 1, 1) := by decide +kernel
theorem dX8_turn_2 : decode cX8_turn 2 = .ok (.invokevirtual 191, 3) := by decide +kernel
theorem dX8_turn_5 : decode cX8_turn 5 = .ok (.ifCond .eq 32, 3) := by decide +kernel
theorem dX8_turn_8 : decode cX8_turn 8 = .ok (.aload_n 0, 1) := by decide +kernel
theorem dX8_turn_9 : decode cX8_turn 9 = .ok (.iload_n 2, 1) := by decide +kernel
theorem dX8_turn_10 : decode cX8_turn 10 = .ok (.invokevirtual 141, 3) := by decide +kernel
theorem dX8_turn_13 : decode cX8_turn 13 = .ok (.ifCond .eq 24, 3) := by decide +kernel
theorem dX8_turn_16 : decode cX8_turn 16 = .ok (.aload_n 0, 1) := by decide +kernel
theorem dX8_turn_17 : decode cX8_turn 17 = .ok (.iload_n 3, 1) := by decide +kernel
theorem dX8_turn_18 : decode cX8_turn 18 = .ok (.invokevirtual 191, 3) := by decide +kernel
theorem dX8_turn_21 : decode cX8_turn 21 = .ok (.ifCond .eq 16, 3) := by decide +kernel
theorem dX8_turn_24 : decode cX8_turn 24 = .ok (.aload_n 0, 1) := by decide +kernel
theorem dX8_turn_25 : decode cX8_turn 25 = .ok (.iload 4, 2) := by decide +kernel
theorem dX8_turn_27 : decode cX8_turn 27 = .ok (.invokevirtual 191, 3) := by decide +kernel
theorem dX8_turn_30 : decode cX8_turn 30 = .ok (.ifCond .eq 7, 3) := by decide +kernel
theorem dX8_turn_33 : decode cX8_turn 33 = .ok (.iconst 1, 1) := by decide +kernel
theorem dX8_turn_34 : decode cX8_turn 34 = .ok (.goto 4, 3) := by decide +kernel
theorem dX8_turn_37 : decode cX8_turn 37 = .ok (.iconst 0, 1) := by decide +kernel
theorem dX8_turn_38 : decode cX8_turn 38 = .ok (.istore 5, 2) := by decide +kernel
theorem dX8_turn_40 : decode cX8_turn 40 = .ok (.iload_n 3, 1) := by decide +kernel
theorem dX8_turn_41 : decode cX8_turn 41 = .ok (.iload 4, 2) := by decide +kernel
theorem dX8_turn_43 : decode cX8_turn 43 = .ok (.if_icmp .eq 18, 3) := by decide +kernel
theorem dX8_turn_46 : decode cX8_turn 46 = .ok (.iload_n 3, 1) := by decide +kernel
theorem dX8_turn_47 : decode cX8_turn 47 = .ok (.iload_n 1, 1) := by decide +kernel
theorem dX8_turn_48 : decode cX8_turn 48 = .ok (.if_icmp .eq 13, 3) := by decide +kernel
theorem dX8_turn_51 : decode cX8_turn 51 = .ok (.iload 4, 2) := by decide +kernel
theorem dX8_turn_53 : decode cX8_turn 53 = .ok (.iload_n 1, 1) := by decide +kernel
theorem dX8_turn_54 : decode cX8_turn 54 = .ok (.if_icmp .eq 7, 3) := by decide +kernel
theorem dX8_turn_57 : decode cX8_turn 57 = .ok (.iconst 1, 1) := by decide +kernel
theorem dX8_turn_58 : decode cX8_turn 58 = .ok (.goto 4, 3) := by decide +kernel
theorem dX8_turn_61 : decode cX8_turn 61 = .ok (.iconst 0, 1) := by decide +kernel
theorem dX8_turn_62 : decode cX8_turn 62 = .ok (.istore 6, 2) := by decide +kernel
theorem dX8_turn_64 : decode cX8_turn 64 = .ok (.aload_n 0, 1) := by decide +kernel
theorem dX8_turn_65 : decode cX8_turn 65 = .ok (.iload 5, 2) := by decide +kernel
theorem dX8_turn_67 : decode cX8_turn 67 = .ok (.ifCond .ne 7, 3) := by decide +kernel
theorem dX8_turn_70 : decode cX8_turn 70 = .ok (.iconst 1, 1) := by decide +kernel
theorem dX8_turn_71 : decode cX8_turn 71 = .ok (.goto 13, 3) := by decide +kernel
theorem dX8_turn_74 : decode cX8_turn 74 = .ok (.iload 6, 2) := by decide +kernel
theorem dX8_turn_76 : decode cX8_turn 76 = .ok (.ifCond .eq 7, 3) := by decide +kernel
theorem dX8_turn_79 : decode cX8_turn 79 = .ok (.iconst 0, 1) := by decide +kernel
theorem dX8_turn_80 : decode cX8_turn 80 = .ok (.goto 4, 3) := by decide +kernel
theorem dX8_turn_83 : decode cX8_turn 83 = .ok (.iconst 2, 1) := by decide +kernel
theorem dX8_turn_84 : decode cX8_turn 84 = .ok (.invokevirtual 157, 3) := by decide +kernel
theorem dX8_turn_87 : decode cX8_turn 87 = .ok (.ifCond .ne 5, 3) := by decide +kernel
theorem dX8_turn_90 : decode cX8_turn 90 = .ok (.iconst 0, 1) := by decide +kernel
theorem dX8_turn_91 : decode cX8_turn 91 = .ok (.ireturn, 1) := by decide +kernel
theorem dX8_turn_92 : decode cX8_turn 92 = .ok (.aload_n 0, 1) := by decide +kernel
theorem dX8_turn_93 : decode cX8_turn 93 = .ok (.iload_n 1, 1) := by decide +kernel
theorem dX8_turn_94 : decode cX8_turn 94 = .ok (.invokevirtual 205, 3) := by decide +kernel
theorem dX8_turn_97 : decode cX8_turn 97 = .ok (.ifCond .eq 30, 3) := by decide +kernel
theorem dX8_turn_100 : decode cX8_turn 100 = .ok (.aload_n 0, 1) := by decide +kernel
theorem dX8_turn_101 : decode cX8_turn 101 = .ok (.iload_n 1, 1) := by decide +kernel
theorem dX8_turn_102 : decode cX8_turn 102 = .ok (.aload_n 0, 1) := by decide +kernel
theorem dX8_turn_103 : decode cX8_turn 103 = .ok (.getfield 154, 3) := by decide +kernel
theorem dX8_turn_106 : decode cX8_turn 106 = .ok (.invokevirtual 188, 3) := by decide +kernel
theorem dX8_turn_109 : decode cX8_turn 109 = .ok (.iload_n 2, 1) := by decide +kernel
theorem dX8_turn_110 : decode cX8_turn 110 = .ok (.if_icmp .eq 17, 3) := by decide +kernel
theorem dX8_turn_113 : decode cX8_turn 113 = .ok (.aload_n 0, 1) := by decide +kernel
theorem dX8_turn_114 : decode cX8_turn 114 = .ok (.getfield 61, 3) := by decide +kernel
theorem dX8_turn_117 : decode cX8_turn 117 = .ok (.iload_n 1, 1) := by decide +kernel
theorem dX8_turn_118 : decode cX8_turn 118 = .ok (.iaload, 1) := by decide +kernel
theorem dX8_turn_119 : decode cX8_turn 119 = .ok (.iconst (-1), 1) := by decide +kernel
theorem dX8_turn_120 : decode cX8_turn 120 = .ok (.if_icmp .ne 7, 3) := by decide +kernel
theorem dX8_turn_123 : decode cX8_turn 123 = .ok (.iconst 1, 1) := by decide +kernel
theorem dX8_turn_124 : decode cX8_turn 124 = .ok (.goto 4, 3) := by decide +kernel
theorem dX8_turn_127 : decode cX8_turn 127 = .ok (.iconst 0, 1) := by decide +kernel
theorem dX8_turn_128 : decode cX8_turn 128 = .ok (.istore 7, 2) := by decide +kernel
theorem dX8_turn_130 : decode cX8_turn 130 = .ok (.aload_n 0, 1) := by decide +kernel
theorem dX8_turn_131 : decode cX8_turn 131 = .ok (.iload 7, 2) := by decide +kernel
theorem dX8_turn_133 : decode cX8_turn 133 = .ok (.ifCond .eq 26, 3) := by decide +kernel
theorem dX8_turn_136 : decode cX8_turn 136 = .ok (.aload_n 0, 1) := by decide +kernel
theorem dX8_turn_137 : decode cX8_turn 137 = .ok (.iload_n 3, 1) := by decide +kernel
theorem dX8_turn_138 : decode cX8_turn 138 = .ok (.iload_n 2, 1) := by decide +kernel
theorem dX8_turn_139 : decode cX8_turn 139 = .ok (.invokevirtual 208, 3) := by decide +kernel
theorem dX8_turn_142 : decode cX8_turn 142 = .ok (.ifCond .eq 17, 3) := by decide +kernel
theorem dX8_turn_145 : decode cX8_turn 145 = .ok (.aload_n 0, 1) := by decide +kernel
theorem dX8_turn_146 : decode cX8_turn 146 = .ok (.iload 4, 2) := by decide +kernel
theorem dX8_turn_148 : decode cX8_turn 148 = .ok (.iload_n 2, 1) := by decide +kernel
theorem dX8_turn_149 : decode cX8_turn 149 = .ok (.invokevirtual 208, 3) := by decide +kernel
theorem dX8_turn_152 : decode cX8_turn 152 = .ok (.ifCond .eq 7, 3) := by decide +kernel
theorem dX8_turn_155 : decode cX8_turn 155 = .ok (.iconst 0, 1) := by decide +kernel
theorem dX8_turn_156 : decode cX8_turn 156 = .ok (.goto 4, 3) := by decide +kernel
theorem dX8_turn_159 : decode cX8_turn 159 = .ok (.iconst 3, 1) := by decide +kernel
theorem dX8_turn_160 : decode cX8_turn 160 = .ok (.invokevirtual 157, 3) := by decide +kernel
theorem dX8_turn_163 : decode cX8_turn 163 = .ok (.ifCond .ne 5, 3) := by decide +kernel
theorem dX8_turn_166 : decode cX8_turn 166 = .ok (.iconst 0, 1) := by decide +kernel
theorem dX8_turn_167 : decode cX8_turn 167 = .ok (.ireturn, 1) := by decide +kernel
theorem dX8_turn_168 : decode cX8_turn 168 = .ok (.aload_n 0, 1) := by decide +kernel
theorem dX8_turn_169 : decode cX8_turn 169 = .ok (.getfield 61, 3) := by decide +kernel
theorem dX8_turn_172 : decode cX8_turn 172 = .ok (.iload_n 1, 1) := by decide +kernel
theorem dX8_turn_173 : decode cX8_turn 173 = .ok (.iload_n 2, 1) := by decide +kernel
theorem dX8_turn_174 : decode cX8_turn 174 = .ok (.iastore, 1) := by decide +kernel
theorem dX8_turn_175 : decode cX8_turn 175 = .ok (.aload_n 0, 1) := by decide +kernel
theorem dX8_turn_176 : decode cX8_turn 176 = .ok (.getfield 64, 3) := by decide +kernel
theorem dX8_turn_179 : decode cX8_turn 179 = .ok (.iload_n 1, 1) := by decide +kernel
theorem dX8_turn_180 : decode cX8_turn 180 = .ok (.aload_n 0, 1) := by decide +kernel
theorem dX8_turn_181 : decode cX8_turn 181 = .ok (.getfield 154, 3) := by decide +kernel
theorem dX8_turn_184 : decode cX8_turn 184 = .ok (.bipush 30, 2) := by decide +kernel
theorem dX8_turn_186 : decode cX8_turn 186 = .ok (.iadd, 1) := by decide +kernel
theorem dX8_turn_187 : decode cX8_turn 187 = .ok (.iastore, 1) := by decide +kernel
theorem dX8_turn_188 : decode cX8_turn 188 = .ok (.aload_n 0, 1) := by decide +kernel
theorem dX8_turn_189 : decode cX8_turn 189 = .ok (.getfield 154, 3) := by decide +kernel
theorem dX8_turn_192 : decode cX8_turn 192 = .ok (.bipush 30, 2) := by decide +kernel
theorem dX8_turn_194 : decode cX8_turn 194 = .ok (.iadd, 1) := by decide +kernel
theorem dX8_turn_195 : decode cX8_turn 195 = .ok (.ireturn, 1) := by decide +kernel
theorem dX8_stays_0 : decode cX8_stays 0 = .ok (.aload_n 0, 1) := by decide +kernel
theorem dX8_stays_1 : decode cX8_stays 1 = .ok (.getfield 61, 3) := by decide +kernel
theorem dX8_stays_4 : decode cX8_stays 4 = .ok (.iload_n 1, 1) := by decide +kernel
theorem dX8_stays_5 : decode cX8_stays 5 = .ok (.iconst (-1), 1) := by decide +kernel
theorem dX8_stays_6 : decode cX8_stays 6 = .ok (.iastore, 1) := by decide +kernel
theorem dX8_stays_7 : decode cX8_stays 7 = .ok (.aload_n 0, 1) := by decide +kernel
theorem dX8_stays_8 : decode cX8_stays 8 = .ok (.getfield 64, 3) := by decide +kernel
theorem dX8_stays_11 : decode cX8_stays 11 = .ok (.iload_n 1, 1) := by decide +kernel
theorem dX8_stays_12 : decode cX8_stays 12 = .ok (.iconst (-1), 1) := by decide +kernel
theorem dX8_stays_13 : decode cX8_stays 13 = .ok (.iastore, 1) := by decide +kernel
theorem dX8_stays_14 : decode cX8_stays 14 = .ok (.return_, 1) := by decide +kernel
theorem dX8_recant_0 : decode cX8_recant 0 = .ok (.aload_n 0, 1) := by decide +kernel
theorem dX8_recant_1 : decode cX8_recant 1 = .ok (.iload_n 1, 1) := by decide +kernel
theorem dX8_recant_2 : decode cX8_recant 2 = .ok (.invokevirtual 191, 3) := by decide +kernel
theorem dX8_recant_5 : decode cX8_recant 5 = .ok (.istore_n 2, 1) := by decide +kernel
theorem dX8_recant_6 : decode cX8_recant 6 = .ok (.aload_n 0, 1) := by decide +kernel
theorem dX8_recant_7 : decode cX8_recant 7 = .ok (.iload_n 2, 1) := by decide +kernel
theorem dX8_recant_8 : decode cX8_recant 8 = .ok (.ifCond .ne 7, 3) := by decide +kernel
theorem dX8_recant_11 : decode cX8_recant 11 = .ok (.iconst 1, 1) := by decide +kernel
theorem dX8_recant_12 : decode cX8_recant 12 = .ok (.goto 18, 3) := by decide +kernel
theorem dX8_recant_15 : decode cX8_recant 15 = .ok (.aload_n 0, 1) := by decide +kernel
theorem dX8_recant_16 : decode cX8_recant 16 = .ok (.getfield 61, 3) := by decide +kernel
theorem dX8_recant_19 : decode cX8_recant 19 = .ok (.iload_n 1, 1) := by decide +kernel
theorem dX8_recant_20 : decode cX8_recant 20 = .ok (.iaload, 1) := by decide +kernel
theorem dX8_recant_21 : decode cX8_recant 21 = .ok (.iconst (-1), 1) := by decide +kernel
theorem dX8_recant_22 : decode cX8_recant 22 = .ok (.if_icmp .ne 7, 3) := by decide +kernel
theorem dX8_recant_25 : decode cX8_recant 25 = .ok (.iconst 2, 1) := by decide +kernel
theorem dX8_recant_26 : decode cX8_recant 26 = .ok (.goto 4, 3) := by decide +kernel
theorem dX8_recant_29 : decode cX8_recant 29 = .ok (.iconst 0, 1) := by decide +kernel
theorem dX8_recant_30 : decode cX8_recant 30 = .ok (.invokevirtual 157, 3) := by decide +kernel
theorem dX8_recant_33 : decode cX8_recant 33 = .ok (.ifCond .ne 5, 3) := by decide +kernel
theorem dX8_recant_36 : decode cX8_recant 36 = .ok (.iconst 0, 1) := by decide +kernel
theorem dX8_recant_37 : decode cX8_recant 37 = .ok (.ireturn, 1) := by decide +kernel
theorem dX8_recant_38 : decode cX8_recant 38 = .ok (.aload_n 0, 1) := by decide +kernel
theorem dX8_recant_39 : decode cX8_recant 39 = .ok (.getfield 61, 3) := by decide +kernel
theorem dX8_recant_42 : decode cX8_recant 42 = .ok (.iload_n 1, 1) := by decide +kernel
theorem dX8_recant_43 : decode cX8_recant 43 = .ok (.iaload, 1) := by decide +kernel
theorem dX8_recant_44 : decode cX8_recant 44 = .ok (.istore_n 3, 1) := by decide +kernel
theorem dX8_recant_45 : decode cX8_recant 45 = .ok (.aload_n 0, 1) := by decide +kernel
theorem dX8_recant_46 : decode cX8_recant 46 = .ok (.iload_n 1, 1) := by decide +kernel
theorem dX8_recant_47 : decode cX8_recant 47 = .ok (.invokevirtual 211, 3) := by decide +kernel
theorem dX8_recant_50 : decode cX8_recant 50 = .ok (.iload_n 3, 1) := by decide +kernel
theorem dX8_recant_51 : decode cX8_recant 51 = .ok (.ireturn, 1) := by decide +kernel
theorem dX8_faith_0 : decode cX8_faith 0 = .ok (.aload_n 0, 1) := by decide +kernel
theorem dX8_faith_1 : decode cX8_faith 1 = .ok (.iload_n 1, 1) := by decide +kernel
theorem dX8_faith_2 : decode cX8_faith 2 = .ok (.invokevirtual 191, 3) := by decide +kernel
theorem dX8_faith_5 : decode cX8_faith 5 = .ok (.istore_n 3, 1) := by decide +kernel
theorem dX8_faith_6 : decode cX8_faith 6 = .ok (.aload_n 0, 1) := by decide +kernel
theorem dX8_faith_7 : decode cX8_faith 7 = .ok (.iload_n 3, 1) := by decide +kernel
theorem dX8_faith_8 : decode cX8_faith 8 = .ok (.ifCond .ne 7, 3) := by decide +kernel
theorem dX8_faith_11 : decode cX8_faith 11 = .ok (.iconst 1, 1) := by decide +kernel
theorem dX8_faith_12 : decode cX8_faith 12 = .ok (.goto 25, 3) := by decide +kernel
theorem dX8_faith_15 : decode cX8_faith 15 = .ok (.iload_n 2, 1) := by decide +kernel
theorem dX8_faith_16 : decode cX8_faith 16 = .ok (.aload_n 0, 1) := by decide +kernel
theorem dX8_faith_17 : decode cX8_faith 17 = .ok (.getfield 44, 3) := by decide +kernel
theorem dX8_faith_20 : decode cX8_faith 20 = .ok (.iload_n 1, 1) := by decide +kernel
theorem dX8_faith_21 : decode cX8_faith 21 = .ok (.iaload, 1) := by decide +kernel
theorem dX8_faith_22 : decode cX8_faith 22 = .ok (.aload_n 0, 1) := by decide +kernel
theorem dX8_faith_23 : decode cX8_faith 23 = .ok (.getfield 154, 3) := by decide +kernel
theorem dX8_faith_26 : decode cX8_faith 26 = .ok (.invokestatic 137, 3) := by decide +kernel
theorem dX8_faith_29 : decode cX8_faith 29 = .ok (.ifCond .eq 7, 3) := by decide +kernel
theorem dX8_faith_32 : decode cX8_faith 32 = .ok (.iconst 0, 1) := by decide +kernel
theorem dX8_faith_33 : decode cX8_faith 33 = .ok (.goto 4, 3) := by decide +kernel
theorem dX8_faith_36 : decode cX8_faith 36 = .ok (.iconst 2, 1) := by decide +kernel
theorem dX8_faith_37 : decode cX8_faith 37 = .ok (.invokevirtual 157, 3) := by decide +kernel
theorem dX8_faith_40 : decode cX8_faith 40 = .ok (.ifCond .eq 12, 3) := by decide +kernel
theorem dX8_faith_43 : decode cX8_faith 43 = .ok (.aload_n 0, 1) := by decide +kernel
theorem dX8_faith_44 : decode cX8_faith 44 = .ok (.iload_n 1, 1) := by decide +kernel
theorem dX8_faith_45 : decode cX8_faith 45 = .ok (.iload_n 2, 1) := by decide +kernel
theorem dX8_faith_46 : decode cX8_faith 46 = .ok (.invokevirtual 188, 3) := by decide +kernel
theorem dX8_faith_49 : decode cX8_faith 49 = .ok (.goto 4, 3) := by decide +kernel
theorem dX8_faith_52 : decode cX8_faith 52 = .ok (.iconst 0, 1) := by decide +kernel
theorem dX8_faith_53 : decode cX8_faith 53 = .ok (.ireturn, 1) := by decide +kernel
theorem dX8_follows_0 : decode cX8_follows 0 = .ok (.aload_n 0, 1) := by decide +kernel
theorem dX8_follows_1 : decode cX8_follows 1 = .ok (.getfield 41, 3) := by decide +kernel
theorem dX8_follows_4 : decode cX8_follows 4 = .ok (.iload_n 1, 1) := by decide +kernel
theorem dX8_follows_5 : decode cX8_follows 5 = .ok (.iaload, 1) := by decide +kernel
theorem dX8_follows_6 : decode cX8_follows 6 = .ok (.iconst (-1), 1) := by decide +kernel
theorem dX8_follows_7 : decode cX8_follows 7 = .ok (.if_icmp .eq 12, 3) := by decide +kernel
theorem dX8_follows_10 : decode cX8_follows 10 = .ok (.aload_n 0, 1) := by decide +kernel
theorem dX8_follows_11 : decode cX8_follows 11 = .ok (.getfield 41, 3) := by decide +kernel
theorem dX8_follows_14 : decode cX8_follows 14 = .ok (.iload_n 1, 1) := by decide +kernel
theorem dX8_follows_15 : decode cX8_follows 15 = .ok (.iaload, 1) := by decide +kernel
theorem dX8_follows_16 : decode cX8_follows 16 = .ok (.goto 9, 3) := by decide +kernel
theorem dX8_follows_19 : decode cX8_follows 19 = .ok (.aload_n 0, 1) := by decide +kernel
theorem dX8_follows_20 : decode cX8_follows 20 = .ok (.getfield 38, 3) := by decide +kernel
theorem dX8_follows_23 : decode cX8_follows 23 = .ok (.iload_n 1, 1) := by decide +kernel
theorem dX8_follows_24 : decode cX8_follows 24 = .ok (.iaload, 1) := by decide +kernel
theorem dX8_follows_25 : decode cX8_follows 25 = .ok (.istore_n 3, 1) := by decide +kernel
theorem dX8_follows_26 : decode cX8_follows 26 = .ok (.iload_n 3, 1) := by decide +kernel
theorem dX8_follows_27 : decode cX8_follows 27 = .ok (.iconst (-1), 1) := by decide +kernel
theorem dX8_follows_28 : decode cX8_follows 28 = .ok (.if_icmp .eq 46, 3) := by decide +kernel
theorem dX8_follows_31 : decode cX8_follows 31 = .ok (.aload_n 0, 1) := by decide +kernel
theorem dX8_follows_32 : decode cX8_follows 32 = .ok (.getfield 67, 3) := by decide +kernel
theorem dX8_follows_35 : decode cX8_follows 35 = .ok (.iload_n 3, 1) := by decide +kernel
theorem dX8_follows_36 : decode cX8_follows 36 = .ok (.baload, 1) := by decide +kernel
theorem dX8_follows_37 : decode cX8_follows 37 = .ok (.ifCond .eq 37, 3) := by decide +kernel
theorem dX8_follows_40 : decode cX8_follows 40 = .ok (.aload_n 0, 1) := by decide +kernel
theorem dX8_follows_41 : decode cX8_follows 41 = .ok (.getfield 47, 3) := by decide +kernel
theorem dX8_follows_44 : decode cX8_follows 44 = .ok (.iload_n 1, 1) := by decide +kernel
theorem dX8_follows_45 : decode cX8_follows 45 = .ok (.baload, 1) := by decide +kernel
theorem dX8_follows_46 : decode cX8_follows 46 = .ok (.ifCond .ne 28, 3) := by decide +kernel
theorem dX8_follows_49 : decode cX8_follows 49 = .ok (.aload_n 0, 1) := by decide +kernel
theorem dX8_follows_50 : decode cX8_follows 50 = .ok (.iload_n 1, 1) := by decide +kernel
theorem dX8_follows_51 : decode cX8_follows 51 = .ok (.invokevirtual 202, 3) := by decide +kernel
theorem dX8_follows_54 : decode cX8_follows 54 = .ok (.ifCond .eq 20, 3) := by decide +kernel
theorem dX8_follows_57 : decode cX8_follows 57 = .ok (.aload_n 0, 1) := by decide +kernel
theorem dX8_follows_58 : decode cX8_follows 58 = .ok (.iload_n 1, 1) := by decide +kernel
theorem dX8_follows_59 : decode cX8_follows 59 = .ok (.aload_n 0, 1) := by decide +kernel
theorem dX8_follows_60 : decode cX8_follows 60 = .ok (.getfield 154, 3) := by decide +kernel
theorem dX8_follows_63 : decode cX8_follows 63 = .ok (.invokevirtual 188, 3) := by decide +kernel
theorem dX8_follows_66 : decode cX8_follows 66 = .ok (.iload_n 2, 1) := by decide +kernel
theorem dX8_follows_67 : decode cX8_follows 67 = .ok (.if_icmp .eq 7, 3) := by decide +kernel
theorem dX8_follows_70 : decode cX8_follows 70 = .ok (.iconst 1, 1) := by decide +kernel
theorem dX8_follows_71 : decode cX8_follows 71 = .ok (.goto 4, 3) := by decide +kernel
theorem dX8_follows_74 : decode cX8_follows 74 = .ok (.iconst 0, 1) := by decide +kernel
theorem dX8_follows_75 : decode cX8_follows 75 = .ok (.ireturn, 1) := by decide +kernel
theorem dX8_turns_0 : decode cX8_turns 0 = .ok (.aload_n 0, 1) := by decide +kernel
theorem dX8_turns_1 : decode cX8_turns 1 = .ok (.getfield 61, 3) := by decide +kernel
theorem dX8_turns_4 : decode cX8_turns 4 = .ok (.iload_n 1, 1) := by decide +kernel
theorem dX8_turns_5 : decode cX8_turns 5 = .ok (.iaload, 1) := by decide +kernel
theorem dX8_turns_6 : decode cX8_turns 6 = .ok (.istore_n 2, 1) := by decide +kernel
theorem dX8_turns_7 : decode cX8_turns 7 = .ok (.sipush 1024, 3) := by decide +kernel
theorem dX8_turns_10 : decode cX8_turns 10 = .ok (.iload_n 1, 1) := by decide +kernel
theorem dX8_turns_11 : decode cX8_turns 11 = .ok (.imul, 1) := by decide +kernel
theorem dX8_turns_12 : decode cX8_turns 12 = .ok (.aload_n 0, 1) := by decide +kernel
theorem dX8_turns_13 : decode cX8_turns 13 = .ok (.getfield 54, 3) := by decide +kernel
theorem dX8_turns_16 : decode cX8_turns 16 = .ok (.iload_n 1, 1) := by decide +kernel
theorem dX8_turns_17 : decode cX8_turns 17 = .ok (.iaload, 1) := by decide +kernel
theorem dX8_turns_18 : decode cX8_turns 18 = .ok (.iadd, 1) := by decide +kernel
theorem dX8_turns_19 : decode cX8_turns 19 = .ok (.istore_n 3, 1) := by decide +kernel
theorem dX8_turns_20 : decode cX8_turns 20 = .ok (.aload_n 0, 1) := by decide +kernel
theorem dX8_turns_21 : decode cX8_turns 21 = .ok (.iload_n 1, 1) := by decide +kernel
theorem dX8_turns_22 : decode cX8_turns 22 = .ok (.invokevirtual 211, 3) := by decide +kernel
theorem dX8_turns_25 : decode cX8_turns 25 = .ok (.aload_n 0, 1) := by decide +kernel
theorem dX8_turns_26 : decode cX8_turns 26 = .ok (.getfield 54, 3) := by decide +kernel
theorem dX8_turns_29 : decode cX8_turns 29 = .ok (.iload_n 1, 1) := by decide +kernel
theorem dX8_turns_30 : decode cX8_turns 30 = .ok (.iaload, 1) := by decide +kernel
theorem dX8_turns_31 : decode cX8_turns 31 = .ok (.iconst 1, 1) := by decide +kernel
theorem dX8_turns_32 : decode cX8_turns 32 = .ok (.if_icmp .le 52, 3) := by decide +kernel
theorem dX8_turns_35 : decode cX8_turns 35 = .ok (.aload_n 0, 1) := by decide +kernel
theorem dX8_turns_36 : decode cX8_turns 36 = .ok (.getfield 58, 3) := by decide +kernel
theorem dX8_turns_39 : decode cX8_turns 39 = .ok (.iload_n 3, 1) := by decide +kernel
theorem dX8_turns_40 : decode cX8_turns 40 = .ok (.iconst 2, 1) := by decide +kernel
theorem dX8_turns_41 : decode cX8_turns 41 = .ok (.isub, 1) := by decide +kernel
theorem dX8_turns_42 : decode cX8_turns 42 = .ok (.iaload, 1) := by decide +kernel
theorem dX8_turns_43 : decode cX8_turns 43 = .ok (.bipush 8, 2) := by decide +kernel
theorem dX8_turns_45 : decode cX8_turns 45 = .ok (.irem, 1) := by decide +kernel
theorem dX8_turns_46 : decode cX8_turns 46 = .ok (.iload_n 2, 1) := by decide +kernel
theorem dX8_turns_47 : decode cX8_turns 47 = .ok (.if_icmp .ne 37, 3) := by decide +kernel
theorem dX8_turns_50 : decode cX8_turns 50 = .ok (.aload_n 0, 1) := by decide +kernel
theorem dX8_turns_51 : decode cX8_turns 51 = .ok (.getfield 154, 3) := by decide +kernel
theorem dX8_turns_54 : decode cX8_turns 54 = .ok (.aload_n 0, 1) := by decide +kernel
theorem dX8_turns_55 : decode cX8_turns 55 = .ok (.getfield 58, 3) := by decide +kernel
theorem dX8_turns_58 : decode cX8_turns 58 = .ok (.iload_n 3, 1) := by decide +kernel
theorem dX8_turns_59 : decode cX8_turns 59 = .ok (.iconst 1, 1) := by decide +kernel
theorem dX8_turns_60 : decode cX8_turns 60 = .ok (.isub, 1) := by decide +kernel
theorem dX8_turns_61 : decode cX8_turns 61 = .ok (.iaload, 1) := by decide +kernel
theorem dX8_turns_62 : decode cX8_turns 62 = .ok (.bipush 8, 2) := by decide +kernel
theorem dX8_turns_64 : decode cX8_turns 64 = .ok (.idiv, 1) := by decide +kernel
theorem dX8_turns_65 : decode cX8_turns 65 = .ok (.isub, 1) := by decide +kernel
theorem dX8_turns_66 : decode cX8_turns 66 = .ok (.bipush 100, 2) := by decide +kernel
theorem dX8_turns_68 : decode cX8_turns 68 = .ok (.if_icmp .ge 16, 3) := by decide +kernel
theorem dX8_turns_71 : decode cX8_turns 71 = .ok (.aload_n 0, 1) := by decide +kernel
theorem dX8_turns_72 : decode cX8_turns 72 = .ok (.getfield 54, 3) := by decide +kernel
theorem dX8_turns_75 : decode cX8_turns 75 = .ok (.iload_n 1, 1) := by decide +kernel
theorem dX8_turns_76 : decode cX8_turns 76 = .ok (.dup2, 1) := by decide +kernel
theorem dX8_turns_77 : decode cX8_turns 77 = .ok (.iaload, 1) := by decide +kernel
theorem dX8_turns_78 : decode cX8_turns 78 = .ok (.iconst 1, 1) := by decide +kernel
theorem dX8_turns_79 : decode cX8_turns 79 = .ok (.isub, 1) := by decide +kernel
theorem dX8_turns_80 : decode cX8_turns 80 = .ok (.iastore, 1) := by decide +kernel
theorem dX8_turns_81 : decode cX8_turns 81 = .ok (.goto 9, 3) := by decide +kernel
theorem dX8_turns_84 : decode cX8_turns 84 = .ok (.aload_n 0, 1) := by decide +kernel
theorem dX8_turns_85 : decode cX8_turns 85 = .ok (.iload_n 1, 1) := by decide +kernel
theorem dX8_turns_86 : decode cX8_turns 86 = .ok (.iload_n 2, 1) := by decide +kernel
theorem dX8_turns_87 : decode cX8_turns 87 = .ok (.invokevirtual 198, 3) := by decide +kernel
theorem dX8_turns_90 : decode cX8_turns 90 = .ok (.iconst 0, 1) := by decide +kernel
theorem dX8_turns_91 : decode cX8_turns 91 = .ok (.istore 4, 2) := by decide +kernel
theorem dX8_turns_93 : decode cX8_turns 93 = .ok (.iload 4, 2) := by decide +kernel
theorem dX8_turns_95 : decode cX8_turns 95 = .ok (.aload_n 0, 1) := by decide +kernel
theorem dX8_turns_96 : decode cX8_turns 96 = .ok (.getfield 145, 3) := by decide +kernel
theorem dX8_turns_99 : decode cX8_turns 99 = .ok (.if_icmp .ge 58, 3) := by decide +kernel
theorem dX8_turns_102 : decode cX8_turns 102 = .ok (.aload_n 0, 1) := by decide +kernel
theorem dX8_turns_103 : decode cX8_turns 103 = .ok (.getfield 67, 3) := by decide +kernel
theorem dX8_turns_106 : decode cX8_turns 106 = .ok (.iload 4, 2) := by decide +kernel
theorem dX8_turns_108 : decode cX8_turns 108 = .ok (.iload 4, 2) := by decide +kernel
theorem dX8_turns_110 : decode cX8_turns 110 = .ok (.iload_n 1, 1) := by decide +kernel
theorem dX8_turns_111 : decode cX8_turns 111 = .ok (.if_icmp .ne 7, 3) := by decide +kernel
theorem dX8_turns_114 : decode cX8_turns 114 = .ok (.iconst 1, 1) := by decide +kernel
theorem dX8_turns_115 : decode cX8_turns 115 = .ok (.goto 4, 3) := by decide +kernel
theorem dX8_turns_118 : decode cX8_turns 118 = .ok (.iconst 0, 1) := by decide +kernel
theorem dX8_turns_119 : decode cX8_turns 119 = .ok (.bastore, 1) := by decide +kernel
theorem dX8_turns_120 : decode cX8_turns 120 = .ok (.iload 4, 2) := by decide +kernel
theorem dX8_turns_122 : decode cX8_turns 122 = .ok (.iload_n 1, 1) := by decide +kernel
theorem dX8_turns_123 : decode cX8_turns 123 = .ok (.if_icmp .eq 28, 3) := by decide +kernel
theorem dX8_turns_126 : decode cX8_turns 126 = .ok (.aload_n 0, 1) := by decide +kernel
theorem dX8_turns_127 : decode cX8_turns 127 = .ok (.iload 4, 2) := by decide +kernel
theorem dX8_turns_129 : decode cX8_turns 129 = .ok (.iload_n 2, 1) := by decide +kernel
theorem dX8_turns_130 : decode cX8_turns 130 = .ok (.invokevirtual 215, 3) := by decide +kernel
theorem dX8_turns_133 : decode cX8_turns 133 = .ok (.ifCond .eq 18, 3) := by decide +kernel
theorem dX8_turns_136 : decode cX8_turns 136 = .ok (.aload_n 0, 1) := by decide +kernel
theorem dX8_turns_137 : decode cX8_turns 137 = .ok (.getfield 67, 3) := by decide +kernel
theorem dX8_turns_140 : decode cX8_turns 140 = .ok (.iload 4, 2) := by decide +kernel
theorem dX8_turns_142 : decode cX8_turns 142 = .ok (.iconst 1, 1) := by decide +kernel
theorem dX8_turns_143 : decode cX8_turns 143 = .ok (.bastore, 1) := by decide +kernel
theorem dX8_turns_144 : decode cX8_turns 144 = .ok (.aload_n 0, 1) := by decide +kernel
theorem dX8_turns_145 : decode cX8_turns 145 = .ok (.iload 4, 2) := by decide +kernel
theorem dX8_turns_147 : decode cX8_turns 147 = .ok (.iload_n 2, 1) := by decide +kernel
theorem dX8_turns_148 : decode cX8_turns 148 = .ok (.invokevirtual 198, 3) := by decide +kernel
theorem dX8_turns_151 : decode cX8_turns 151 = .ok (.iinc 4 1, 3) := by decide +kernel
theorem dX8_turns_154 : decode cX8_turns 154 = .ok (.goto (-61), 3) := by decide +kernel
theorem dX8_turns_157 : decode cX8_turns 157 = .ok (.return_, 1) := by decide +kernel
theorem dX8_lasting_0 : decode cX8_lasting 0 = .ok (.iconst 0, 1) := by decide +kernel
theorem dX8_lasting_1 : decode cX8_lasting 1 = .ok (.istore_n 2, 1) := by decide +kernel
theorem dX8_lasting_2 : decode cX8_lasting 2 = .ok (.iconst 0, 1) := by decide +kernel
theorem dX8_lasting_3 : decode cX8_lasting 3 = .ok (.istore_n 3, 1) := by decide +kernel
theorem dX8_lasting_4 : decode cX8_lasting 4 = .ok (.iload_n 3, 1) := by decide +kernel
theorem dX8_lasting_5 : decode cX8_lasting 5 = .ok (.aload_n 0, 1) := by decide +kernel
theorem dX8_lasting_6 : decode cX8_lasting 6 = .ok (.getfield 148, 3) := by decide +kernel
theorem dX8_lasting_9 : decode cX8_lasting 9 = .ok (.if_icmp .ge 46, 3) := by decide +kernel
theorem dX8_lasting_12 : decode cX8_lasting 12 = .ok (.iload_n 2, 1) := by decide +kernel
theorem dX8_lasting_13 : decode cX8_lasting 13 = .ok (.aload_n 0, 1) := by decide +kernel
theorem dX8_lasting_14 : decode cX8_lasting 14 = .ok (.getfield 76, 3) := by decide +kernel
theorem dX8_lasting_17 : decode cX8_lasting 17 = .ok (.iload_n 3, 1) := by decide +kernel
theorem dX8_lasting_18 : decode cX8_lasting 18 = .ok (.iaload, 1) := by decide +kernel
theorem dX8_lasting_19 : decode cX8_lasting 19 = .ok (.ifCond .ne 27, 3) := by decide +kernel
theorem dX8_lasting_22 : decode cX8_lasting 22 = .ok (.aload_n 0, 1) := by decide +kernel
theorem dX8_lasting_23 : decode cX8_lasting 23 = .ok (.getfield 70, 3) := by decide +kernel
theorem dX8_lasting_26 : decode cX8_lasting 26 = .ok (.iload_n 3, 1) := by decide +kernel
theorem dX8_lasting_27 : decode cX8_lasting 27 = .ok (.iaload, 1) := by decide +kernel
theorem dX8_lasting_28 : decode cX8_lasting 28 = .ok (.iload_n 1, 1) := by decide +kernel
theorem dX8_lasting_29 : decode cX8_lasting 29 = .ok (.if_icmp .eq 13, 3) := by decide +kernel
theorem dX8_lasting_32 : decode cX8_lasting 32 = .ok (.aload_n 0, 1) := by decide +kernel
theorem dX8_lasting_33 : decode cX8_lasting 33 = .ok (.getfield 73, 3) := by decide +kernel
theorem dX8_lasting_36 : decode cX8_lasting 36 = .ok (.iload_n 3, 1) := by decide +kernel
theorem dX8_lasting_37 : decode cX8_lasting 37 = .ok (.iaload, 1) := by decide +kernel
theorem dX8_lasting_38 : decode cX8_lasting 38 = .ok (.iload_n 1, 1) := by decide +kernel
theorem dX8_lasting_39 : decode cX8_lasting 39 = .ok (.if_icmp .ne 7, 3) := by decide +kernel
theorem dX8_lasting_42 : decode cX8_lasting 42 = .ok (.iconst 1, 1) := by decide +kernel
theorem dX8_lasting_43 : decode cX8_lasting 43 = .ok (.goto 4, 3) := by decide +kernel
theorem dX8_lasting_46 : decode cX8_lasting 46 = .ok (.iconst 0, 1) := by decide +kernel
theorem dX8_lasting_47 : decode cX8_lasting 47 = .ok (.iadd, 1) := by decide +kernel
theorem dX8_lasting_48 : decode cX8_lasting 48 = .ok (.istore_n 2, 1) := by decide +kernel
theorem dX8_lasting_49 : decode cX8_lasting 49 = .ok (.iinc 3 1, 3) := by decide +kernel
theorem dX8_lasting_52 : decode cX8_lasting 52 = .ok (.goto (-48), 3) := by decide +kernel
theorem dX8_lasting_55 : decode cX8_lasting 55 = .ok (.iload_n 2, 1) := by decide +kernel
theorem dX8_lasting_56 : decode cX8_lasting 56 = .ok (.ireturn, 1) := by decide +kernel
theorem dX8_canMarry_0 : decode cX8_canMarry 0 = .ok (.aload_n 0, 1) := by decide +kernel
theorem dX8_canMarry_1 : decode cX8_canMarry 1 = .ok (.iload_n 1, 1) := by decide +kernel
theorem dX8_canMarry_2 : decode cX8_canMarry 2 = .ok (.invokevirtual 205, 3) := by decide +kernel
theorem dX8_canMarry_5 : decode cX8_canMarry 5 = .ok (.ifCond .eq 20, 3) := by decide +kernel
theorem dX8_canMarry_8 : decode cX8_canMarry 8 = .ok (.aload_n 0, 1) := by decide +kernel
theorem dX8_canMarry_9 : decode cX8_canMarry 9 = .ok (.iload_n 2, 1) := by decide +kernel
theorem dX8_canMarry_10 : decode cX8_canMarry 10 = .ok (.invokevirtual 205, 3) := by decide +kernel
theorem dX8_canMarry_13 : decode cX8_canMarry 13 = .ok (.ifCond .eq 12, 3) := by decide +kernel
theorem dX8_canMarry_16 : decode cX8_canMarry 16 = .ok (.aload_n 0, 1) := by decide +kernel
theorem dX8_canMarry_17 : decode cX8_canMarry 17 = .ok (.getfield 148, 3) := by decide +kernel
theorem dX8_canMarry_20 : decode cX8_canMarry 20 = .ok (.bipush 30, 2) := by decide +kernel
theorem dX8_canMarry_22 : decode cX8_canMarry 22 = .ok (.if_icmp .ne 5, 3) := by decide +kernel
theorem dX8_canMarry_25 : decode cX8_canMarry 25 = .ok (.iconst 0, 1) := by decide +kernel
theorem dX8_canMarry_26 : decode cX8_canMarry 26 = .ok (.ireturn, 1) := by decide +kernel
theorem dX8_canMarry_27 : decode cX8_canMarry 27 = .ok (.aload_n 0, 1) := by decide +kernel
theorem dX8_canMarry_28 : decode cX8_canMarry 28 = .ok (.iconst 0, 1) := by decide +kernel
theorem dX8_canMarry_29 : decode cX8_canMarry 29 = .ok (.iload_n 1, 1) := by decide +kernel
theorem dX8_canMarry_30 : decode cX8_canMarry 30 = .ok (.iload_n 2, 1) := by decide +kernel
theorem dX8_canMarry_31 : decode cX8_canMarry 31 = .ok (.aload_n 0, 1) := by decide +kernel
theorem dX8_canMarry_32 : decode cX8_canMarry 32 = .ok (.getfield 154, 3) := by decide +kernel
theorem dX8_canMarry_35 : decode cX8_canMarry 35 = .ok (.invokevirtual 194, 3) := by decide +kernel
theorem dX8_canMarry_38 : decode cX8_canMarry 38 = .ok (.istore_n 3, 1) := by decide +kernel
theorem dX8_canMarry_39 : decode cX8_canMarry 39 = .ok (.aload_n 0, 1) := by decide +kernel
theorem dX8_canMarry_40 : decode cX8_canMarry 40 = .ok (.iload_n 1, 1) := by decide +kernel
theorem dX8_canMarry_41 : decode cX8_canMarry 41 = .ok (.aload_n 0, 1) := by decide +kernel
theorem dX8_canMarry_42 : decode cX8_canMarry 42 = .ok (.getfield 154, 3) := by decide +kernel
theorem dX8_canMarry_45 : decode cX8_canMarry 45 = .ok (.invokevirtual 188, 3) := by decide +kernel
theorem dX8_canMarry_48 : decode cX8_canMarry 48 = .ok (.aload_n 0, 1) := by decide +kernel
theorem dX8_canMarry_49 : decode cX8_canMarry 49 = .ok (.iload_n 2, 1) := by decide +kernel
theorem dX8_canMarry_50 : decode cX8_canMarry 50 = .ok (.aload_n 0, 1) := by decide +kernel
theorem dX8_canMarry_51 : decode cX8_canMarry 51 = .ok (.getfield 154, 3) := by decide +kernel
theorem dX8_canMarry_54 : decode cX8_canMarry 54 = .ok (.invokevirtual 188, 3) := by decide +kernel
theorem dX8_canMarry_57 : decode cX8_canMarry 57 = .ok (.if_icmp .ne 7, 3) := by decide +kernel
theorem dX8_canMarry_60 : decode cX8_canMarry 60 = .ok (.iconst 1, 1) := by decide +kernel
theorem dX8_canMarry_61 : decode cX8_canMarry 61 = .ok (.goto 4, 3) := by decide +kernel
theorem dX8_canMarry_64 : decode cX8_canMarry 64 = .ok (.iconst 0, 1) := by decide +kernel
theorem dX8_canMarry_65 : decode cX8_canMarry 65 = .ok (.istore 4, 2) := by decide +kernel
theorem dX8_canMarry_67 : decode cX8_canMarry 67 = .ok (.aload_n 0, 1) := by decide +kernel
theorem dX8_canMarry_68 : decode cX8_canMarry 68 = .ok (.iload_n 2, 1) := by decide +kernel
theorem dX8_canMarry_69 : decode cX8_canMarry 69 = .ok (.invokevirtual 218, 3) := by decide +kernel
theorem dX8_canMarry_72 : decode cX8_canMarry 72 = .ok (.ifCond .ne 44, 3) := by decide +kernel
theorem dX8_canMarry_75 : decode cX8_canMarry 75 = .ok (.aload_n 0, 1) := by decide +kernel
theorem dX8_canMarry_76 : decode cX8_canMarry 76 = .ok (.iload_n 1, 1) := by decide +kernel
theorem dX8_canMarry_77 : decode cX8_canMarry 77 = .ok (.invokevirtual 218, 3) := by decide +kernel
theorem dX8_canMarry_80 : decode cX8_canMarry 80 = .ok (.aload_n 0, 1) := by decide +kernel
theorem dX8_canMarry_81 : decode cX8_canMarry 81 = .ok (.iload_n 3, 1) := by decide +kernel
theorem dX8_canMarry_82 : decode cX8_canMarry 82 = .ok (.iconst 2, 1) := by decide +kernel
theorem dX8_canMarry_83 : decode cX8_canMarry 83 = .ok (.aload_n 0, 1) := by decide +kernel
theorem dX8_canMarry_84 : decode cX8_canMarry 84 = .ok (.getfield 154, 3) := by decide +kernel
theorem dX8_canMarry_87 : decode cX8_canMarry 87 = .ok (.invokevirtual 177, 3) := by decide +kernel
theorem dX8_canMarry_90 : decode cX8_canMarry 90 = .ok (.if_icmp .ge 26, 3) := by decide +kernel
theorem dX8_canMarry_93 : decode cX8_canMarry 93 = .ok (.iload 4, 2) := by decide +kernel
theorem dX8_canMarry_95 : decode cX8_canMarry 95 = .ok (.ifCond .ne 17, 3) := by decide +kernel
theorem dX8_canMarry_98 : decode cX8_canMarry 98 = .ok (.aload_n 0, 1) := by decide +kernel
theorem dX8_canMarry_99 : decode cX8_canMarry 99 = .ok (.iload_n 3, 1) := by decide +kernel
theorem dX8_canMarry_100 : decode cX8_canMarry 100 = .ok (.iconst 4, 1) := by decide +kernel
theorem dX8_canMarry_101 : decode cX8_canMarry 101 = .ok (.aload_n 0, 1) := by decide +kernel
theorem dX8_canMarry_102 : decode cX8_canMarry 102 = .ok (.getfield 154, 3) := by decide +kernel
theorem dX8_canMarry_105 : decode cX8_canMarry 105 = .ok (.invokevirtual 177, 3) := by decide +kernel
theorem dX8_canMarry_108 : decode cX8_canMarry 108 = .ok (.iconst 1, 1) := by decide +kernel
theorem dX8_canMarry_109 : decode cX8_canMarry 109 = .ok (.if_icmp .ne 7, 3) := by decide +kernel
theorem dX8_canMarry_112 : decode cX8_canMarry 112 = .ok (.iconst 1, 1) := by decide +kernel
theorem dX8_canMarry_113 : decode cX8_canMarry 113 = .ok (.goto 4, 3) := by decide +kernel
theorem dX8_canMarry_116 : decode cX8_canMarry 116 = .ok (.iconst 0, 1) := by decide +kernel
theorem dX8_canMarry_117 : decode cX8_canMarry 117 = .ok (.ireturn, 1) := by decide +kernel
theorem dX8_marry_0 : decode cX8_marry 0 = .ok (.aload_n 0, 1) := by decide +kernel
theorem dX8_marry_1 : decode cX8_marry 1 = .ok (.iload_n 1, 1) := by decide +kernel
theorem dX8_marry_2 : decode cX8_marry 2 = .ok (.invokevirtual 191, 3) := by decide +kernel
theorem dX8_marry_5 : decode cX8_marry 5 = .ok (.ifCond .eq 15, 3) := by decide +kernel
theorem dX8_marry_8 : decode cX8_marry 8 = .ok (.aload_n 0, 1) := by decide +kernel
theorem dX8_marry_9 : decode cX8_marry 9 = .ok (.iload_n 2, 1) := by decide +kernel
theorem dX8_marry_10 : decode cX8_marry 10 = .ok (.invokevirtual 191, 3) := by decide +kernel
theorem dX8_marry_13 : decode cX8_marry 13 = .ok (.ifCond .eq 7, 3) := by decide +kernel
theorem dX8_marry_16 : decode cX8_marry 16 = .ok (.iconst 1, 1) := by decide +kernel
theorem dX8_marry_17 : decode cX8_marry 17 = .ok (.goto 4, 3) := by decide +kernel
theorem dX8_marry_20 : decode cX8_marry 20 = .ok (.iconst 0, 1) := by decide +kernel
theorem dX8_marry_21 : decode cX8_marry 21 = .ok (.istore 4, 2) := by decide +kernel
theorem dX8_marry_23 : decode cX8_marry 23 = .ok (.iload 4, 2) := by decide +kernel
theorem dX8_marry_25 : decode cX8_marry 25 = .ok (.ifCond .eq 35, 3) := by decide +kernel
theorem dX8_marry_28 : decode cX8_marry 28 = .ok (.aload_n 0, 1) := by decide +kernel
theorem dX8_marry_29 : decode cX8_marry 29 = .ok (.getfield 34, 3) := by decide +kernel
theorem dX8_marry_32 : decode cX8_marry 32 = .ok (.iload_n 1, 1) := by decide +kernel
theorem dX8_marry_33 : decode cX8_marry 33 = .ok (.baload, 1) := by decide +kernel
theorem dX8_marry_34 : decode cX8_marry 34 = .ok (.ifCond .eq 26, 3) := by decide +kernel
theorem dX8_marry_37 : decode cX8_marry 37 = .ok (.aload_n 0, 1) := by decide +kernel
theorem dX8_marry_38 : decode cX8_marry 38 = .ok (.getfield 34, 3) := by decide +kernel
theorem dX8_marry_41 : decode cX8_marry 41 = .ok (.iload_n 2, 1) := by decide +kernel
theorem dX8_marry_42 : decode cX8_marry 42 = .ok (.baload, 1) := by decide +kernel
theorem dX8_marry_43 : decode cX8_marry 43 = .ok (.ifCond .ne 17, 3) := by decide +kernel
theorem dX8_marry_46 : decode cX8_marry 46 = .ok (.iload_n 3, 1) := by decide +kernel
theorem dX8_marry_47 : decode cX8_marry 47 = .ok (.iconst 0, 1) := by decide +kernel
theorem dX8_marry_48 : decode cX8_marry 48 = .ok (.ldc 222, 2) := by decide +kernel
theorem dX8_marry_50 : decode cX8_marry 50 = .ok (.invokestatic 137, 3) := by decide +kernel
theorem dX8_marry_53 : decode cX8_marry 53 = .ok (.ifCond .eq 7, 3) := by decide +kernel
theorem dX8_marry_56 : decode cX8_marry 56 = .ok (.iconst 1, 1) := by decide +kernel
theorem dX8_marry_57 : decode cX8_marry 57 = .ok (.goto 4, 3) := by decide +kernel
theorem dX8_marry_60 : decode cX8_marry 60 = .ok (.iconst 0, 1) := by decide +kernel
theorem dX8_marry_61 : decode cX8_marry 61 = .ok (.istore 5, 2) := by decide +kernel
theorem dX8_marry_63 : decode cX8_marry 63 = .ok (.aload_n 0, 1) := by decide +kernel
theorem dX8_marry_64 : decode cX8_marry 64 = .ok (.iload 4, 2) := by decide +kernel
theorem dX8_marry_66 : decode cX8_marry 66 = .ok (.ifCond .ne 7, 3) := by decide +kernel
theorem dX8_marry_69 : decode cX8_marry 69 = .ok (.iconst 1, 1) := by decide +kernel
theorem dX8_marry_70 : decode cX8_marry 70 = .ok (.goto 26, 3) := by decide +kernel
theorem dX8_marry_73 : decode cX8_marry 73 = .ok (.iload 5, 2) := by decide +kernel
theorem dX8_marry_75 : decode cX8_marry 75 = .ok (.ifCond .ne 7, 3) := by decide +kernel
theorem dX8_marry_78 : decode cX8_marry 78 = .ok (.iconst 2, 1) := by decide +kernel
theorem dX8_marry_79 : decode cX8_marry 79 = .ok (.goto 17, 3) := by decide +kernel
theorem dX8_marry_82 : decode cX8_marry 82 = .ok (.aload_n 0, 1) := by decide +kernel
theorem dX8_marry_83 : decode cX8_marry 83 = .ok (.iload_n 1, 1) := by decide +kernel
theorem dX8_marry_84 : decode cX8_marry 84 = .ok (.iload_n 2, 1) := by decide +kernel
theorem dX8_marry_85 : decode cX8_marry 85 = .ok (.invokevirtual 223, 3) := by decide +kernel
theorem dX8_marry_88 : decode cX8_marry 88 = .ok (.ifCond .eq 7, 3) := by decide +kernel
theorem dX8_marry_91 : decode cX8_marry 91 = .ok (.iconst 0, 1) := by decide +kernel
theorem dX8_marry_92 : decode cX8_marry 92 = .ok (.goto 4, 3) := by decide +kernel
theorem dX8_marry_95 : decode cX8_marry 95 = .ok (.iconst 3, 1) := by decide +kernel
theorem dX8_marry_96 : decode cX8_marry 96 = .ok (.invokevirtual 157, 3) := by decide +kernel
theorem dX8_marry_99 : decode cX8_marry 99 = .ok (.ifCond .ne 5, 3) := by decide +kernel
theorem dX8_marry_102 : decode cX8_marry 102 = .ok (.iconst 0, 1) := by decide +kernel
theorem dX8_marry_103 : decode cX8_marry 103 = .ok (.ireturn, 1) := by decide +kernel
theorem dX8_marry_104 : decode cX8_marry 104 = .ok (.aload_n 0, 1) := by decide +kernel
theorem dX8_marry_105 : decode cX8_marry 105 = .ok (.getfield 70, 3) := by decide +kernel
theorem dX8_marry_108 : decode cX8_marry 108 = .ok (.aload_n 0, 1) := by decide +kernel
theorem dX8_marry_109 : decode cX8_marry 109 = .ok (.getfield 148, 3) := by decide +kernel
theorem dX8_marry_112 : decode cX8_marry 112 = .ok (.iload_n 1, 1) := by decide +kernel
theorem dX8_marry_113 : decode cX8_marry 113 = .ok (.iastore, 1) := by decide +kernel
theorem dX8_marry_114 : decode cX8_marry 114 = .ok (.aload_n 0, 1) := by decide +kernel
theorem dX8_marry_115 : decode cX8_marry 115 = .ok (.getfield 73, 3) := by decide +kernel
theorem dX8_marry_118 : decode cX8_marry 118 = .ok (.aload_n 0, 1) := by decide +kernel
theorem dX8_marry_119 : decode cX8_marry 119 = .ok (.getfield 148, 3) := by decide +kernel
theorem dX8_marry_122 : decode cX8_marry 122 = .ok (.iload_n 2, 1) := by decide +kernel
theorem dX8_marry_123 : decode cX8_marry 123 = .ok (.iastore, 1) := by decide +kernel
theorem dX8_marry_124 : decode cX8_marry 124 = .ok (.aload_n 0, 1) := by decide +kernel
theorem dX8_marry_125 : decode cX8_marry 125 = .ok (.getfield 79, 3) := by decide +kernel
theorem dX8_marry_128 : decode cX8_marry 128 = .ok (.aload_n 0, 1) := by decide +kernel
theorem dX8_marry_129 : decode cX8_marry 129 = .ok (.getfield 148, 3) := by decide +kernel
theorem dX8_marry_132 : decode cX8_marry 132 = .ok (.iload_n 3, 1) := by decide +kernel
theorem dX8_marry_133 : decode cX8_marry 133 = .ok (.iastore, 1) := by decide +kernel
theorem dX8_marry_134 : decode cX8_marry 134 = .ok (.aload_n 0, 1) := by decide +kernel
theorem dX8_marry_135 : decode cX8_marry 135 = .ok (.getfield 82, 3) := by decide +kernel
theorem dX8_marry_138 : decode cX8_marry 138 = .ok (.aload_n 0, 1) := by decide +kernel
theorem dX8_marry_139 : decode cX8_marry 139 = .ok (.getfield 148, 3) := by decide +kernel
theorem dX8_marry_142 : decode cX8_marry 142 = .ok (.aload_n 0, 1) := by decide +kernel
theorem dX8_marry_143 : decode cX8_marry 143 = .ok (.iconst 0, 1) := by decide +kernel
theorem dX8_marry_144 : decode cX8_marry 144 = .ok (.iload_n 1, 1) := by decide +kernel
theorem dX8_marry_145 : decode cX8_marry 145 = .ok (.iload_n 2, 1) := by decide +kernel
theorem dX8_marry_146 : decode cX8_marry 146 = .ok (.aload_n 0, 1) := by decide +kernel
theorem dX8_marry_147 : decode cX8_marry 147 = .ok (.getfield 154, 3) := by decide +kernel
theorem dX8_marry_150 : decode cX8_marry 150 = .ok (.invokevirtual 194, 3) := by decide +kernel
theorem dX8_marry_153 : decode cX8_marry 153 = .ok (.iastore, 1) := by decide +kernel
theorem dX8_marry_154 : decode cX8_marry 154 = .ok (.aload_n 0, 1) := by decide +kernel
theorem dX8_marry_155 : decode cX8_marry 155 = .ok (.dup, 1) := by decide +kernel
theorem dX8_marry_156 : decode cX8_marry 156 = .ok (.getfield 148, 3) := by decide +kernel
theorem dX8_marry_159 : decode cX8_marry 159 = .ok (.iconst 1, 1) := by decide +kernel
theorem dX8_marry_160 : decode cX8_marry 160 = .ok (.iadd, 1) := by decide +kernel
theorem dX8_marry_161 : decode cX8_marry 161 = .ok (.putfield 148, 3) := by decide +kernel
theorem dX8_marry_164 : decode cX8_marry 164 = .ok (.aload_n 0, 1) := by decide +kernel
theorem dX8_marry_165 : decode cX8_marry 165 = .ok (.getfield 148, 3) := by decide +kernel
theorem dX8_marry_168 : decode cX8_marry 168 = .ok (.iconst 1, 1) := by decide +kernel
theorem dX8_marry_169 : decode cX8_marry 169 = .ok (.isub, 1) := by decide +kernel
theorem dX8_marry_170 : decode cX8_marry 170 = .ok (.ireturn, 1) := by decide +kernel
theorem dX8_paysDower_0 : decode cX8_paysDower 0 = .ok (.aload_n 0, 1) := by decide +kernel
theorem dX8_paysDower_1 : decode cX8_paysDower 1 = .ok (.getfield 70, 3) := by decide +kernel
theorem dX8_paysDower_4 : decode cX8_paysDower 4 = .ok (.iload_n 1, 1) := by decide +kernel
theorem dX8_paysDower_5 : decode cX8_paysDower 5 = .ok (.iaload, 1) := by decide +kernel
theorem dX8_paysDower_6 : decode cX8_paysDower 6 = .ok (.istore_n 2, 1) := by decide +kernel
theorem dX8_paysDower_7 : decode cX8_paysDower 7 = .ok (.aload_n 0, 1) := by decide +kernel
theorem dX8_paysDower_8 : decode cX8_paysDower 8 = .ok (.getfield 50, 3) := by decide +kernel
theorem dX8_paysDower_11 : decode cX8_paysDower 11 = .ok (.iload_n 2, 1) := by decide +kernel
theorem dX8_paysDower_12 : decode cX8_paysDower 12 = .ok (.laload, 1) := by decide +kernel
theorem dX8_paysDower_13 : decode cX8_paysDower 13 = .ok (.aload_n 0, 1) := by decide +kernel
theorem dX8_paysDower_14 : decode cX8_paysDower 14 = .ok (.getfield 79, 3) := by decide +kernel
theorem dX8_paysDower_17 : decode cX8_paysDower 17 = .ok (.iload_n 1, 1) := by decide +kernel
theorem dX8_paysDower_18 : decode cX8_paysDower 18 = .ok (.iaload, 1) := by decide +kernel
theorem dX8_paysDower_19 : decode cX8_paysDower 19 = .ok (.i2l, 1) := by decide +kernel
theorem dX8_paysDower_20 : decode cX8_paysDower 20 = .ok (.lcmp, 1) := by decide +kernel
theorem dX8_paysDower_21 : decode cX8_paysDower 21 = .ok (.ifCond .ge 12, 3) := by decide +kernel
theorem dX8_paysDower_24 : decode cX8_paysDower 24 = .ok (.aload_n 0, 1) := by decide +kernel
theorem dX8_paysDower_25 : decode cX8_paysDower 25 = .ok (.getfield 50, 3) := by decide +kernel
theorem dX8_paysDower_28 : decode cX8_paysDower 28 = .ok (.iload_n 2, 1) := by decide +kernel
theorem dX8_paysDower_29 : decode cX8_paysDower 29 = .ok (.laload, 1) := by decide +kernel
theorem dX8_paysDower_30 : decode cX8_paysDower 30 = .ok (.goto 10, 3) := by decide +kernel
theorem dX8_paysDower_33 : decode cX8_paysDower 33 = .ok (.aload_n 0, 1) := by decide +kernel
theorem dX8_paysDower_34 : decode cX8_paysDower 34 = .ok (.getfield 79, 3) := by decide +kernel
theorem dX8_paysDower_37 : decode cX8_paysDower 37 = .ok (.iload_n 1, 1) := by decide +kernel
theorem dX8_paysDower_38 : decode cX8_paysDower 38 = .ok (.iaload, 1) := by decide +kernel
theorem dX8_paysDower_39 : decode cX8_paysDower 39 = .ok (.i2l, 1) := by decide +kernel
theorem dX8_paysDower_40 : decode cX8_paysDower 40 = .ok (.lstore_n 3, 1) := by decide +kernel
theorem dX8_paysDower_41 : decode cX8_paysDower 41 = .ok (.aload_n 0, 1) := by decide +kernel
theorem dX8_paysDower_42 : decode cX8_paysDower 42 = .ok (.getfield 50, 3) := by decide +kernel
theorem dX8_paysDower_45 : decode cX8_paysDower 45 = .ok (.iload_n 2, 1) := by decide +kernel
theorem dX8_paysDower_46 : decode cX8_paysDower 46 = .ok (.dup2, 1) := by decide +kernel
theorem dX8_paysDower_47 : decode cX8_paysDower 47 = .ok (.laload, 1) := by decide +kernel
theorem dX8_paysDower_48 : decode cX8_paysDower 48 = .ok (.lload_n 3, 1) := by decide +kernel
theorem dX8_paysDower_49 : decode cX8_paysDower 49 = .ok (.lsub, 1) := by decide +kernel
theorem dX8_paysDower_50 : decode cX8_paysDower 50 = .ok (.lastore, 1) := by decide +kernel
theorem dX8_paysDower_51 : decode cX8_paysDower 51 = .ok (.aload_n 0, 1) := by decide +kernel
theorem dX8_paysDower_52 : decode cX8_paysDower 52 = .ok (.getfield 50, 3) := by decide +kernel
theorem dX8_paysDower_55 : decode cX8_paysDower 55 = .ok (.aload_n 0, 1) := by decide +kernel
theorem dX8_paysDower_56 : decode cX8_paysDower 56 = .ok (.getfield 73, 3) := by decide +kernel
theorem dX8_paysDower_59 : decode cX8_paysDower 59 = .ok (.iload_n 1, 1) := by decide +kernel
theorem dX8_paysDower_60 : decode cX8_paysDower 60 = .ok (.iaload, 1) := by decide +kernel
theorem dX8_paysDower_61 : decode cX8_paysDower 61 = .ok (.dup2, 1) := by decide +kernel
theorem dX8_paysDower_62 : decode cX8_paysDower 62 = .ok (.laload, 1) := by decide +kernel
theorem dX8_paysDower_63 : decode cX8_paysDower 63 = .ok (.lload_n 3, 1) := by decide +kernel
theorem dX8_paysDower_64 : decode cX8_paysDower 64 = .ok (.ladd, 1) := by decide +kernel
theorem dX8_paysDower_65 : decode cX8_paysDower 65 = .ok (.lastore, 1) := by decide +kernel
theorem dX8_paysDower_66 : decode cX8_paysDower 66 = .ok (.aload_n 0, 1) := by decide +kernel
theorem dX8_paysDower_67 : decode cX8_paysDower 67 = .ok (.getfield 79, 3) := by decide +kernel
theorem dX8_paysDower_70 : decode cX8_paysDower 70 = .ok (.iload_n 1, 1) := by decide +kernel
theorem dX8_paysDower_71 : decode cX8_paysDower 71 = .ok (.iconst 0, 1) := by decide +kernel
theorem dX8_paysDower_72 : decode cX8_paysDower 72 = .ok (.iastore, 1) := by decide +kernel
theorem dX8_paysDower_73 : decode cX8_paysDower 73 = .ok (.return_, 1) := by decide +kernel
theorem dX8_divorce_0 : decode cX8_divorce 0 = .ok (.aload_n 0, 1) := by decide +kernel
theorem dX8_divorce_1 : decode cX8_divorce 1 = .ok (.iload_n 1, 1) := by decide +kernel
theorem dX8_divorce_2 : decode cX8_divorce 2 = .ok (.invokevirtual 226, 3) := by decide +kernel
theorem dX8_divorce_5 : decode cX8_divorce 5 = .ok (.istore_n 3, 1) := by decide +kernel
theorem dX8_divorce_6 : decode cX8_divorce 6 = .ok (.aload_n 0, 1) := by decide +kernel
theorem dX8_divorce_7 : decode cX8_divorce 7 = .ok (.iload_n 3, 1) := by decide +kernel
theorem dX8_divorce_8 : decode cX8_divorce 8 = .ok (.ifCond .ne 7, 3) := by decide +kernel
theorem dX8_divorce_11 : decode cX8_divorce 11 = .ok (.iconst 1, 1) := by decide +kernel
theorem dX8_divorce_12 : decode cX8_divorce 12 = .ok (.goto 17, 3) := by decide +kernel
theorem dX8_divorce_15 : decode cX8_divorce 15 = .ok (.aload_n 0, 1) := by decide +kernel
theorem dX8_divorce_16 : decode cX8_divorce 16 = .ok (.getfield 76, 3) := by decide +kernel
theorem dX8_divorce_19 : decode cX8_divorce 19 = .ok (.iload_n 1, 1) := by decide +kernel
theorem dX8_divorce_20 : decode cX8_divorce 20 = .ok (.iaload, 1) := by decide +kernel
theorem dX8_divorce_21 : decode cX8_divorce 21 = .ok (.ifCond .eq 7, 3) := by decide +kernel
theorem dX8_divorce_24 : decode cX8_divorce 24 = .ok (.iconst 2, 1) := by decide +kernel
theorem dX8_divorce_25 : decode cX8_divorce 25 = .ok (.goto 4, 3) := by decide +kernel
theorem dX8_divorce_28 : decode cX8_divorce 28 = .ok (.iconst 0, 1) := by decide +kernel
theorem dX8_divorce_29 : decode cX8_divorce 29 = .ok (.invokevirtual 157, 3) := by decide +kernel
theorem dX8_divorce_32 : decode cX8_divorce 32 = .ok (.ifCond .ne 5, 3) := by decide +kernel
theorem dX8_divorce_35 : decode cX8_divorce 35 = .ok (.iconst 0, 1) := by decide +kernel
theorem dX8_divorce_36 : decode cX8_divorce 36 = .ok (.ireturn, 1) := by decide +kernel
theorem dX8_divorce_37 : decode cX8_divorce 37 = .ok (.aload_n 0, 1) := by decide +kernel
theorem dX8_divorce_38 : decode cX8_divorce 38 = .ok (.iconst 1, 1) := by decide +kernel
theorem dX8_divorce_39 : decode cX8_divorce 39 = .ok (.aload_n 0, 1) := by decide +kernel
theorem dX8_divorce_40 : decode cX8_divorce 40 = .ok (.getfield 70, 3) := by decide +kernel
theorem dX8_divorce_43 : decode cX8_divorce 43 = .ok (.iload_n 1, 1) := by decide +kernel
theorem dX8_divorce_44 : decode cX8_divorce 44 = .ok (.iaload, 1) := by decide +kernel
theorem dX8_divorce_45 : decode cX8_divorce 45 = .ok (.aload_n 0, 1) := by decide +kernel
theorem dX8_divorce_46 : decode cX8_divorce 46 = .ok (.getfield 73, 3) := by decide +kernel
theorem dX8_divorce_49 : decode cX8_divorce 49 = .ok (.iload_n 1, 1) := by decide +kernel
theorem dX8_divorce_50 : decode cX8_divorce 50 = .ok (.iaload, 1) := by decide +kernel
theorem dX8_divorce_51 : decode cX8_divorce 51 = .ok (.aload_n 0, 1) := by decide +kernel
theorem dX8_divorce_52 : decode cX8_divorce 52 = .ok (.getfield 154, 3) := by decide +kernel
theorem dX8_divorce_55 : decode cX8_divorce 55 = .ok (.invokevirtual 194, 3) := by decide +kernel
theorem dX8_divorce_58 : decode cX8_divorce 58 = .ok (.istore 4, 2) := by decide +kernel
theorem dX8_divorce_60 : decode cX8_divorce 60 = .ok (.aload_n 0, 1) := by decide +kernel
theorem dX8_divorce_61 : decode cX8_divorce 61 = .ok (.iload 4, 2) := by decide +kernel
theorem dX8_divorce_63 : decode cX8_divorce 63 = .ok (.iconst 1, 1) := by decide +kernel
theorem dX8_divorce_64 : decode cX8_divorce 64 = .ok (.aload_n 0, 1) := by decide +kernel
theorem dX8_divorce_65 : decode cX8_divorce 65 = .ok (.getfield 154, 3) := by decide +kernel
theorem dX8_divorce_68 : decode cX8_divorce 68 = .ok (.invokevirtual 177, 3) := by decide +kernel
theorem dX8_divorce_71 : decode cX8_divorce 71 = .ok (.istore 5, 2) := by decide +kernel
theorem dX8_divorce_73 : decode cX8_divorce 73 = .ok (.iload_n 2, 1) := by decide +kernel
theorem dX8_divorce_74 : decode cX8_divorce 74 = .ok (.ifCond .eq 12, 3) := by decide +kernel
theorem dX8_divorce_77 : decode cX8_divorce 77 = .ok (.aload_n 0, 1) := by decide +kernel
theorem dX8_divorce_78 : decode cX8_divorce 78 = .ok (.getfield 88, 3) := by decide +kernel
theorem dX8_divorce_81 : decode cX8_divorce 81 = .ok (.iload_n 1, 1) := by decide +kernel
theorem dX8_divorce_82 : decode cX8_divorce 82 = .ok (.baload, 1) := by decide +kernel
theorem dX8_divorce_83 : decode cX8_divorce 83 = .ok (.goto 9, 3) := by decide +kernel
theorem dX8_divorce_86 : decode cX8_divorce 86 = .ok (.aload_n 0, 1) := by decide +kernel
theorem dX8_divorce_87 : decode cX8_divorce 87 = .ok (.getfield 85, 3) := by decide +kernel
theorem dX8_divorce_90 : decode cX8_divorce 90 = .ok (.iload_n 1, 1) := by decide +kernel
theorem dX8_divorce_91 : decode cX8_divorce 91 = .ok (.baload, 1) := by decide +kernel
theorem dX8_divorce_92 : decode cX8_divorce 92 = .ok (.istore 6, 2) := by decide +kernel
theorem dX8_divorce_94 : decode cX8_divorce 94 = .ok (.aload_n 0, 1) := by decide +kernel
theorem dX8_divorce_95 : decode cX8_divorce 95 = .ok (.getfield 85, 3) := by decide +kernel
theorem dX8_divorce_98 : decode cX8_divorce 98 = .ok (.iload_n 1, 1) := by decide +kernel
theorem dX8_divorce_99 : decode cX8_divorce 99 = .ok (.aload_n 0, 1) := by decide +kernel
theorem dX8_divorce_100 : decode cX8_divorce 100 = .ok (.getfield 85, 3) := by decide +kernel
theorem dX8_divorce_103 : decode cX8_divorce 103 = .ok (.iload_n 1, 1) := by decide +kernel
theorem dX8_divorce_104 : decode cX8_divorce 104 = .ok (.baload, 1) := by decide +kernel
theorem dX8_divorce_105 : decode cX8_divorce 105 = .ok (.ifCond .ne 7, 3) := by decide +kernel
theorem dX8_divorce_108 : decode cX8_divorce 108 = .ok (.iload_n 2, 1) := by decide +kernel
theorem dX8_divorce_109 : decode cX8_divorce 109 = .ok (.ifCond .eq 7, 3) := by decide +kernel
theorem dX8_divorce_112 : decode cX8_divorce 112 = .ok (.iconst 1, 1) := by decide +kernel
theorem dX8_divorce_113 : decode cX8_divorce 113 = .ok (.goto 4, 3) := by decide +kernel
theorem dX8_divorce_116 : decode cX8_divorce 116 = .ok (.iconst 0, 1) := by decide +kernel
theorem dX8_divorce_117 : decode cX8_divorce 117 = .ok (.bastore, 1) := by decide +kernel
theorem dX8_divorce_118 : decode cX8_divorce 118 = .ok (.aload_n 0, 1) := by decide +kernel
theorem dX8_divorce_119 : decode cX8_divorce 119 = .ok (.getfield 88, 3) := by decide +kernel
theorem dX8_divorce_122 : decode cX8_divorce 122 = .ok (.iload_n 1, 1) := by decide +kernel
theorem dX8_divorce_123 : decode cX8_divorce 123 = .ok (.aload_n 0, 1) := by decide +kernel
theorem dX8_divorce_124 : decode cX8_divorce 124 = .ok (.getfield 88, 3) := by decide +kernel
theorem dX8_divorce_127 : decode cX8_divorce 127 = .ok (.iload_n 1, 1) := by decide +kernel
theorem dX8_divorce_128 : decode cX8_divorce 128 = .ok (.baload, 1) := by decide +kernel
theorem dX8_divorce_129 : decode cX8_divorce 129 = .ok (.ifCond .ne 7, 3) := by decide +kernel
theorem dX8_divorce_132 : decode cX8_divorce 132 = .ok (.iload_n 2, 1) := by decide +kernel
theorem dX8_divorce_133 : decode cX8_divorce 133 = .ok (.ifCond .ne 7, 3) := by decide +kernel
theorem dX8_divorce_136 : decode cX8_divorce 136 = .ok (.iconst 1, 1) := by decide +kernel
theorem dX8_divorce_137 : decode cX8_divorce 137 = .ok (.goto 4, 3) := by decide +kernel
theorem dX8_divorce_140 : decode cX8_divorce 140 = .ok (.iconst 0, 1) := by decide +kernel
theorem dX8_divorce_141 : decode cX8_divorce 141 = .ok (.bastore, 1) := by decide +kernel
theorem dX8_divorce_142 : decode cX8_divorce 142 = .ok (.iload 5, 2) := by decide +kernel
theorem dX8_divorce_144 : decode cX8_divorce 144 = .ok (.iconst 1, 1) := by decide +kernel
theorem dX8_divorce_145 : decode cX8_divorce 145 = .ok (.if_icmp .eq 23, 3) := by decide +kernel
theorem dX8_divorce_148 : decode cX8_divorce 148 = .ok (.iload 5, 2) := by decide +kernel
theorem dX8_divorce_150 : decode cX8_divorce 150 = .ok (.ifCond .ne 7, 3) := by decide +kernel
theorem dX8_divorce_153 : decode cX8_divorce 153 = .ok (.iload_n 2, 1) := by decide +kernel
theorem dX8_divorce_154 : decode cX8_divorce 154 = .ok (.ifCond .ne 14, 3) := by decide +kernel
theorem dX8_divorce_157 : decode cX8_divorce 157 = .ok (.iload 5, 2) := by decide +kernel
theorem dX8_divorce_159 : decode cX8_divorce 159 = .ok (.iconst 2, 1) := by decide +kernel
theorem dX8_divorce_160 : decode cX8_divorce 160 = .ok (.if_icmp .ne 12, 3) := by decide +kernel
theorem dX8_divorce_163 : decode cX8_divorce 163 = .ok (.iload 6, 2) := by decide +kernel
theorem dX8_divorce_165 : decode cX8_divorce 165 = .ok (.ifCond .eq 7, 3) := by decide +kernel
theorem dX8_divorce_168 : decode cX8_divorce 168 = .ok (.iconst 1, 1) := by decide +kernel
theorem dX8_divorce_169 : decode cX8_divorce 169 = .ok (.goto 4, 3) := by decide +kernel
theorem dX8_divorce_172 : decode cX8_divorce 172 = .ok (.iconst 0, 1) := by decide +kernel
theorem dX8_divorce_173 : decode cX8_divorce 173 = .ok (.istore 7, 2) := by decide +kernel
theorem dX8_divorce_175 : decode cX8_divorce 175 = .ok (.iload 7, 2) := by decide +kernel
theorem dX8_divorce_177 : decode cX8_divorce 177 = .ok (.ifCond .eq 15, 3) := by decide +kernel
theorem dX8_divorce_180 : decode cX8_divorce 180 = .ok (.aload_n 0, 1) := by decide +kernel
theorem dX8_divorce_181 : decode cX8_divorce 181 = .ok (.getfield 76, 3) := by decide +kernel
theorem dX8_divorce_184 : decode cX8_divorce 184 = .ok (.iload_n 1, 1) := by decide +kernel
theorem dX8_divorce_185 : decode cX8_divorce 185 = .ok (.iconst 1, 1) := by decide +kernel
theorem dX8_divorce_186 : decode cX8_divorce 186 = .ok (.iastore, 1) := by decide +kernel
theorem dX8_divorce_187 : decode cX8_divorce 187 = .ok (.aload_n 0, 1) := by decide +kernel
theorem dX8_divorce_188 : decode cX8_divorce 188 = .ok (.iload_n 1, 1) := by decide +kernel
theorem dX8_divorce_189 : decode cX8_divorce 189 = .ok (.invokevirtual 229, 3) := by decide +kernel
theorem dX8_divorce_192 : decode cX8_divorce 192 = .ok (.iload 7, 2) := by decide +kernel
theorem dX8_divorce_194 : decode cX8_divorce 194 = .ok (.ireturn, 1) := by decide +kernel
theorem dX8_goods_0 : decode cX8_goods 0 = .ok (.aload_n 0, 1) := by decide +kernel
theorem dX8_goods_1 : decode cX8_goods 1 = .ok (.iload_n 1, 1) := by decide +kernel
theorem dX8_goods_2 : decode cX8_goods 2 = .ok (.invokevirtual 191, 3) := by decide +kernel
theorem dX8_goods_5 : decode cX8_goods 5 = .ok (.istore_n 3, 1) := by decide +kernel
theorem dX8_goods_6 : decode cX8_goods 6 = .ok (.aload_n 0, 1) := by decide +kernel
theorem dX8_goods_7 : decode cX8_goods 7 = .ok (.iload_n 3, 1) := by decide +kernel
theorem dX8_goods_8 : decode cX8_goods 8 = .ok (.ifCond .ne 7, 3) := by decide +kernel
theorem dX8_goods_11 : decode cX8_goods 11 = .ok (.iconst 1, 1) := by decide +kernel
theorem dX8_goods_12 : decode cX8_goods 12 = .ok (.goto 31, 3) := by decide +kernel
theorem dX8_goods_15 : decode cX8_goods 15 = .ok (.iload_n 2, 1) := by decide +kernel
theorem dX8_goods_16 : decode cX8_goods 16 = .ok (.iconst 1, 1) := by decide +kernel
theorem dX8_goods_17 : decode cX8_goods 17 = .ok (.ldc 222, 2) := by decide +kernel
theorem dX8_goods_19 : decode cX8_goods 19 = .ok (.invokestatic 137, 3) := by decide +kernel
theorem dX8_goods_22 : decode cX8_goods 22 = .ok (.ifCond .ne 7, 3) := by decide +kernel
theorem dX8_goods_25 : decode cX8_goods 25 = .ok (.iconst 2, 1) := by decide +kernel
theorem dX8_goods_26 : decode cX8_goods 26 = .ok (.goto 17, 3) := by decide +kernel
theorem dX8_goods_29 : decode cX8_goods 29 = .ok (.aload_n 0, 1) := by decide +kernel
theorem dX8_goods_30 : decode cX8_goods 30 = .ok (.getfield 47, 3) := by decide +kernel
theorem dX8_goods_33 : decode cX8_goods 33 = .ok (.iload_n 1, 1) := by decide +kernel
theorem dX8_goods_34 : decode cX8_goods 34 = .ok (.baload, 1) := by decide +kernel
theorem dX8_goods_35 : decode cX8_goods 35 = .ok (.ifCond .eq 7, 3) := by decide +kernel
theorem dX8_goods_38 : decode cX8_goods 38 = .ok (.iconst 3, 1) := by decide +kernel
theorem dX8_goods_39 : decode cX8_goods 39 = .ok (.goto 4, 3) := by decide +kernel
theorem dX8_goods_42 : decode cX8_goods 42 = .ok (.iconst 0, 1) := by decide +kernel
theorem dX8_goods_43 : decode cX8_goods 43 = .ok (.invokevirtual 157, 3) := by decide +kernel
theorem dX8_goods_46 : decode cX8_goods 46 = .ok (.ifCond .ne 5, 3) := by decide +kernel
theorem dX8_goods_49 : decode cX8_goods 49 = .ok (.lconst 0, 1) := by decide +kernel
theorem dX8_goods_50 : decode cX8_goods 50 = .ok (.lreturn, 1) := by decide +kernel
theorem dX8_goods_51 : decode cX8_goods 51 = .ok (.aload_n 0, 1) := by decide +kernel
theorem dX8_goods_52 : decode cX8_goods 52 = .ok (.getfield 50, 3) := by decide +kernel
theorem dX8_goods_55 : decode cX8_goods 55 = .ok (.iload_n 1, 1) := by decide +kernel
theorem dX8_goods_56 : decode cX8_goods 56 = .ok (.dup2, 1) := by decide +kernel
theorem dX8_goods_57 : decode cX8_goods 57 = .ok (.laload, 1) := by decide +kernel
theorem dX8_goods_58 : decode cX8_goods 58 = .ok (.iload_n 2, 1) := by decide +kernel
theorem dX8_goods_59 : decode cX8_goods 59 = .ok (.i2l, 1) := by decide +kernel
theorem dX8_goods_60 : decode cX8_goods 60 = .ok (.ladd, 1) := by decide +kernel
theorem dX8_goods_61 : decode cX8_goods 61 = .ok (.lastore, 1) := by decide +kernel
theorem dX8_goods_62 : decode cX8_goods 62 = .ok (.aload_n 0, 1) := by decide +kernel
theorem dX8_goods_63 : decode cX8_goods 63 = .ok (.getfield 50, 3) := by decide +kernel
theorem dX8_goods_66 : decode cX8_goods 66 = .ok (.iload_n 1, 1) := by decide +kernel
theorem dX8_goods_67 : decode cX8_goods 67 = .ok (.laload, 1) := by decide +kernel
theorem dX8_goods_68 : decode cX8_goods 68 = .ok (.lreturn, 1) := by decide +kernel
theorem dX8_isChild_0 : decode cX8_isChild 0 = .ok (.aload_n 0, 1) := by decide +kernel
theorem dX8_isChild_1 : decode cX8_isChild 1 = .ok (.getfield 38, 3) := by decide +kernel
theorem dX8_isChild_4 : decode cX8_isChild 4 = .ok (.iload_n 1, 1) := by decide +kernel
theorem dX8_isChild_5 : decode cX8_isChild 5 = .ok (.iaload, 1) := by decide +kernel
theorem dX8_isChild_6 : decode cX8_isChild 6 = .ok (.iload_n 2, 1) := by decide +kernel
theorem dX8_isChild_7 : decode cX8_isChild 7 = .ok (.if_icmp .eq 13, 3) := by decide +kernel
theorem dX8_isChild_10 : decode cX8_isChild 10 = .ok (.aload_n 0, 1) := by decide +kernel
theorem dX8_isChild_11 : decode cX8_isChild 11 = .ok (.getfield 41, 3) := by decide +kernel
theorem dX8_isChild_14 : decode cX8_isChild 14 = .ok (.iload_n 1, 1) := by decide +kernel
theorem dX8_isChild_15 : decode cX8_isChild 15 = .ok (.iaload, 1) := by decide +kernel
theorem dX8_isChild_16 : decode cX8_isChild 16 = .ok (.iload_n 2, 1) := by decide +kernel
theorem dX8_isChild_17 : decode cX8_isChild 17 = .ok (.if_icmp .ne 7, 3) := by decide +kernel
theorem dX8_isChild_20 : decode cX8_isChild 20 = .ok (.iconst 1, 1) := by decide +kernel
theorem dX8_isChild_21 : decode cX8_isChild 21 = .ok (.goto 4, 3) := by decide +kernel
theorem dX8_isChild_24 : decode cX8_isChild 24 = .ok (.iconst 0, 1) := by decide +kernel
theorem dX8_isChild_25 : decode cX8_isChild 25 = .ok (.ireturn, 1) := by decide +kernel
theorem dX8_units_0 : decode cX8_units 0 = .ok (.iconst 0, 1) := by decide +kernel
theorem dX8_units_1 : decode cX8_units 1 = .ok (.istore_n 2, 1) := by decide +kernel
theorem dX8_units_2 : decode cX8_units 2 = .ok (.iconst 0, 1) := by decide +kernel
theorem dX8_units_3 : decode cX8_units 3 = .ok (.istore_n 3, 1) := by decide +kernel
theorem dX8_units_4 : decode cX8_units 4 = .ok (.iload_n 3, 1) := by decide +kernel
theorem dX8_units_5 : decode cX8_units 5 = .ok (.aload_n 0, 1) := by decide +kernel
theorem dX8_units_6 : decode cX8_units 6 = .ok (.getfield 145, 3) := by decide +kernel
theorem dX8_units_9 : decode cX8_units 9 = .ok (.if_icmp .ge 39, 3) := by decide +kernel
theorem dX8_units_12 : decode cX8_units 12 = .ok (.iload_n 2, 1) := by decide +kernel
theorem dX8_units_13 : decode cX8_units 13 = .ok (.aload_n 0, 1) := by decide +kernel
theorem dX8_units_14 : decode cX8_units 14 = .ok (.getfield 127, 3) := by decide +kernel
theorem dX8_units_17 : decode cX8_units 17 = .ok (.iload_n 3, 1) := by decide +kernel
theorem dX8_units_18 : decode cX8_units 18 = .ok (.baload, 1) := by decide +kernel
theorem dX8_units_19 : decode cX8_units 19 = .ok (.ifCond .ne 7, 3) := by decide +kernel
theorem dX8_units_22 : decode cX8_units 22 = .ok (.iconst 0, 1) := by decide +kernel
theorem dX8_units_23 : decode cX8_units 23 = .ok (.goto 17, 3) := by decide +kernel
theorem dX8_units_26 : decode cX8_units 26 = .ok (.aload_n 0, 1) := by decide +kernel
theorem dX8_units_27 : decode cX8_units 27 = .ok (.getfield 34, 3) := by decide +kernel
theorem dX8_units_30 : decode cX8_units 30 = .ok (.iload_n 3, 1) := by decide +kernel
theorem dX8_units_31 : decode cX8_units 31 = .ok (.baload, 1) := by decide +kernel
theorem dX8_units_32 : decode cX8_units 32 = .ok (.ifCond .eq 7, 3) := by decide +kernel
theorem dX8_units_35 : decode cX8_units 35 = .ok (.iload_n 1, 1) := by decide +kernel
theorem dX8_units_36 : decode cX8_units 36 = .ok (.goto 4, 3) := by decide +kernel
theorem dX8_units_39 : decode cX8_units 39 = .ok (.iconst 1, 1) := by decide +kernel
theorem dX8_units_40 : decode cX8_units 40 = .ok (.iadd, 1) := by decide +kernel
theorem dX8_units_41 : decode cX8_units 41 = .ok (.istore_n 2, 1) := by decide +kernel
theorem dX8_units_42 : decode cX8_units 42 = .ok (.iinc 3 1, 3) := by decide +kernel
theorem dX8_units_45 : decode cX8_units 45 = .ok (.goto (-41), 3) := by decide +kernel
theorem dX8_units_48 : decode cX8_units 48 = .ok (.iload_n 2, 1) := by decide +kernel
theorem dX8_units_49 : decode cX8_units 49 = .ok (.ireturn, 1) := by decide +kernel
theorem dX8_gives_0 : decode cX8_gives 0 = .ok (.lload_n 1, 1) := by decide +kernel
theorem dX8_gives_1 : decode cX8_gives 1 = .ok (.aload_n 0, 1) := by decide +kernel
theorem dX8_gives_2 : decode cX8_gives 2 = .ok (.iload_n 3, 1) := by decide +kernel
theorem dX8_gives_3 : decode cX8_gives 3 = .ok (.invokevirtual 232, 3) := by decide +kernel
theorem dX8_gives_6 : decode cX8_gives 6 = .ok (.i2l, 1) := by decide +kernel
theorem dX8_gives_7 : decode cX8_gives 7 = .ok (.ldiv, 1) := by decide +kernel
theorem dX8_gives_8 : decode cX8_gives 8 = .ok (.lstore 4, 2) := by decide +kernel
theorem dX8_gives_10 : decode cX8_gives 10 = .ok (.lload_n 1, 1) := by decide +kernel
theorem dX8_gives_11 : decode cX8_gives 11 = .ok (.lload 4, 2) := by decide +kernel
theorem dX8_gives_13 : decode cX8_gives 13 = .ok (.aload_n 0, 1) := by decide +kernel
theorem dX8_gives_14 : decode cX8_gives 14 = .ok (.iload_n 3, 1) := by decide +kernel
theorem dX8_gives_15 : decode cX8_gives 15 = .ok (.invokevirtual 232, 3) := by decide +kernel
theorem dX8_gives_18 : decode cX8_gives 18 = .ok (.i2l, 1) := by decide +kernel
theorem dX8_gives_19 : decode cX8_gives 19 = .ok (.lmul, 1) := by decide +kernel
theorem dX8_gives_20 : decode cX8_gives 20 = .ok (.lsub, 1) := by decide +kernel
theorem dX8_gives_21 : decode cX8_gives 21 = .ok (.lstore 6, 2) := by decide +kernel
theorem dX8_gives_23 : decode cX8_gives 23 = .ok (.iconst 0, 1) := by decide +kernel
theorem dX8_gives_24 : decode cX8_gives 24 = .ok (.istore 8, 2) := by decide +kernel
theorem dX8_gives_26 : decode cX8_gives 26 = .ok (.iload 8, 2) := by decide +kernel
theorem dX8_gives_28 : decode cX8_gives 28 = .ok (.aload_n 0, 1) := by decide +kernel
theorem dX8_gives_29 : decode cX8_gives 29 = .ok (.getfield 145, 3) := by decide +kernel
theorem dX8_gives_32 : decode cX8_gives 32 = .ok (.if_icmp .ge 55, 3) := by decide +kernel
theorem dX8_gives_35 : decode cX8_gives 35 = .ok (.aload_n 0, 1) := by decide +kernel
theorem dX8_gives_36 : decode cX8_gives 36 = .ok (.getfield 127, 3) := by decide +kernel
theorem dX8_gives_39 : decode cX8_gives 39 = .ok (.iload 8, 2) := by decide +kernel
theorem dX8_gives_41 : decode cX8_gives 41 = .ok (.baload, 1) := by decide +kernel
theorem dX8_gives_42 : decode cX8_gives 42 = .ok (.ifCond .eq 39, 3) := by decide +kernel
theorem dX8_gives_45 : decode cX8_gives 45 = .ok (.aload_n 0, 1) := by decide +kernel
theorem dX8_gives_46 : decode cX8_gives 46 = .ok (.getfield 50, 3) := by decide +kernel
theorem dX8_gives_49 : decode cX8_gives 49 = .ok (.iload 8, 2) := by decide +kernel
theorem dX8_gives_51 : decode cX8_gives 51 = .ok (.dup2, 1) := by decide +kernel
theorem dX8_gives_52 : decode cX8_gives 52 = .ok (.laload, 1) := by decide +kernel
theorem dX8_gives_53 : decode cX8_gives 53 = .ok (.aload_n 0, 1) := by decide +kernel
theorem dX8_gives_54 : decode cX8_gives 54 = .ok (.getfield 34, 3) := by decide +kernel
theorem dX8_gives_57 : decode cX8_gives 57 = .ok (.iload 8, 2) := by decide +kernel
theorem dX8_gives_59 : decode cX8_gives 59 = .ok (.baload, 1) := by decide +kernel
theorem dX8_gives_60 : decode cX8_gives 60 = .ok (.ifCond .eq 11, 3) := by decide +kernel
theorem dX8_gives_63 : decode cX8_gives 63 = .ok (.iload_n 3, 1) := by decide +kernel
theorem dX8_gives_64 : decode cX8_gives 64 = .ok (.i2l, 1) := by decide +kernel
theorem dX8_gives_65 : decode cX8_gives 65 = .ok (.lload 4, 2) := by decide +kernel
theorem dX8_gives_67 : decode cX8_gives 67 = .ok (.lmul, 1) := by decide +kernel
theorem dX8_gives_68 : decode cX8_gives 68 = .ok (.goto 5, 3) := by decide +kernel
theorem dX8_gives_71 : decode cX8_gives 71 = .ok (.lload 4, 2) := by decide +kernel
theorem dX8_gives_73 : decode cX8_gives 73 = .ok (.lload 6, 2) := by decide +kernel
theorem dX8_gives_75 : decode cX8_gives 75 = .ok (.ladd, 1) := by decide +kernel
theorem dX8_gives_76 : decode cX8_gives 76 = .ok (.ladd, 1) := by decide +kernel
theorem dX8_gives_77 : decode cX8_gives 77 = .ok (.lastore, 1) := by decide +kernel
theorem dX8_gives_78 : decode cX8_gives 78 = .ok (.lconst 0, 1) := by decide +kernel
theorem dX8_gives_79 : decode cX8_gives 79 = .ok (.lstore 6, 2) := by decide +kernel
theorem dX8_gives_81 : decode cX8_gives 81 = .ok (.iinc 8 1, 3) := by decide +kernel
theorem dX8_gives_84 : decode cX8_gives 84 = .ok (.goto (-58), 3) := by decide +kernel
theorem dX8_gives_87 : decode cX8_gives 87 = .ok (.return_, 1) := by decide +kernel
theorem dX8_lowestThatGets_0 : decode cX8_lowestThatGets 0 = .ok (.iconst (-1), 1) := by decide +kernel
theorem dX8_lowestThatGets_1 : decode cX8_lowestThatGets 1 = .ok (.istore_n 1, 1) := by decide +kernel
theorem dX8_lowestThatGets_2 : decode cX8_lowestThatGets 2 = .ok (.aload_n 0, 1) := by decide +kernel
theorem dX8_lowestThatGets_3 : decode cX8_lowestThatGets 3 = .ok (.getfield 145, 3) := by decide +kernel
theorem dX8_lowestThatGets_6 : decode cX8_lowestThatGets 6 = .ok (.iconst 1, 1) := by decide +kernel
theorem dX8_lowestThatGets_7 : decode cX8_lowestThatGets 7 = .ok (.isub, 1) := by decide +kernel
theorem dX8_lowestThatGets_8 : decode cX8_lowestThatGets 8 = .ok (.istore_n 2, 1) := by decide +kernel
theorem dX8_lowestThatGets_9 : decode cX8_lowestThatGets 9 = .ok (.iload_n 2, 1) := by decide +kernel
theorem dX8_lowestThatGets_10 : decode cX8_lowestThatGets 10 = .ok (.ifCond .lt 24, 3) := by decide +kernel
theorem dX8_lowestThatGets_13 : decode cX8_lowestThatGets 13 = .ok (.aload_n 0, 1) := by decide +kernel
theorem dX8_lowestThatGets_14 : decode cX8_lowestThatGets 14 = .ok (.getfield 127, 3) := by decide +kernel
theorem dX8_lowestThatGets_17 : decode cX8_lowestThatGets 17 = .ok (.iload_n 2, 1) := by decide +kernel
theorem dX8_lowestThatGets_18 : decode cX8_lowestThatGets 18 = .ok (.baload, 1) := by decide +kernel
theorem dX8_lowestThatGets_19 : decode cX8_lowestThatGets 19 = .ok (.ifCond .eq 7, 3) := by decide +kernel
theorem dX8_lowestThatGets_22 : decode cX8_lowestThatGets 22 = .ok (.iload_n 2, 1) := by decide +kernel
theorem dX8_lowestThatGets_23 : decode cX8_lowestThatGets 23 = .ok (.goto 4, 3) := by decide +kernel
theorem dX8_lowestThatGets_26 : decode cX8_lowestThatGets 26 = .ok (.iload_n 1, 1) := by decide +kernel
theorem dX8_lowestThatGets_27 : decode cX8_lowestThatGets 27 = .ok (.istore_n 1, 1) := by decide +kernel
theorem dX8_lowestThatGets_28 : decode cX8_lowestThatGets 28 = .ok (.iinc 2 (-1), 3) := by decide +kernel
theorem dX8_lowestThatGets_31 : decode cX8_lowestThatGets 31 = .ok (.goto (-22), 3) := by decide +kernel
theorem dX8_lowestThatGets_34 : decode cX8_lowestThatGets 34 = .ok (.iload_n 1, 1) := by decide +kernel
theorem dX8_lowestThatGets_35 : decode cX8_lowestThatGets 35 = .ok (.ireturn, 1) := by decide +kernel
theorem dX8_isBarred_0 : decode cX8_isBarred 0 = .ok (.iload_n 3, 1) := by decide +kernel
theorem dX8_isBarred_1 : decode cX8_isBarred 1 = .ok (.ifCond .eq 28, 3) := by decide +kernel
theorem dX8_isBarred_4 : decode cX8_isBarred 4 = .ok (.aload_n 0, 1) := by decide +kernel
theorem dX8_isBarred_5 : decode cX8_isBarred 5 = .ok (.iload_n 1, 1) := by decide +kernel
theorem dX8_isBarred_6 : decode cX8_isBarred 6 = .ok (.aload_n 0, 1) := by decide +kernel
theorem dX8_isBarred_7 : decode cX8_isBarred 7 = .ok (.getfield 154, 3) := by decide +kernel
theorem dX8_isBarred_10 : decode cX8_isBarred 10 = .ok (.invokevirtual 188, 3) := by decide +kernel
theorem dX8_isBarred_13 : decode cX8_isBarred 13 = .ok (.aload_n 0, 1) := by decide +kernel
theorem dX8_isBarred_14 : decode cX8_isBarred 14 = .ok (.iload_n 2, 1) := by decide +kernel
theorem dX8_isBarred_15 : decode cX8_isBarred 15 = .ok (.aload_n 0, 1) := by decide +kernel
theorem dX8_isBarred_16 : decode cX8_isBarred 16 = .ok (.getfield 154, 3) := by decide +kernel
theorem dX8_isBarred_19 : decode cX8_isBarred 19 = .ok (.invokevirtual 188, 3) := by decide +kernel
theorem dX8_isBarred_22 : decode cX8_isBarred 22 = .ok (.if_icmp .eq 7, 3) := by decide +kernel
theorem dX8_isBarred_25 : decode cX8_isBarred 25 = .ok (.iconst 1, 1) := by decide +kernel
theorem dX8_isBarred_26 : decode cX8_isBarred 26 = .ok (.goto 4, 3) := by decide +kernel
theorem dX8_isBarred_29 : decode cX8_isBarred 29 = .ok (.iconst 0, 1) := by decide +kernel
theorem dX8_isBarred_30 : decode cX8_isBarred 30 = .ok (.ireturn, 1) := by decide +kernel
theorem dX8_findsWidows_0 : decode cX8_findsWidows 0 = .ok (.iconst 0, 1) := by decide +kernel
theorem dX8_findsWidows_1 : decode cX8_findsWidows 1 = .ok (.istore_n 3, 1) := by decide +kernel
theorem dX8_findsWidows_2 : decode cX8_findsWidows 2 = .ok (.iload_n 3, 1) := by decide +kernel
theorem dX8_findsWidows_3 : decode cX8_findsWidows 3 = .ok (.aload_n 0, 1) := by decide +kernel
theorem dX8_findsWidows_4 : decode cX8_findsWidows 4 = .ok (.getfield 145, 3) := by decide +kernel
theorem dX8_findsWidows_7 : decode cX8_findsWidows 7 = .ok (.if_icmp .ge 16, 3) := by decide +kernel
theorem dX8_findsWidows_10 : decode cX8_findsWidows 10 = .ok (.aload_n 0, 1) := by decide +kernel
theorem dX8_findsWidows_11 : decode cX8_findsWidows 11 = .ok (.getfield 127, 3) := by decide +kernel
theorem dX8_findsWidows_14 : decode cX8_findsWidows 14 = .ok (.iload_n 3, 1) := by decide +kernel
theorem dX8_findsWidows_15 : decode cX8_findsWidows 15 = .ok (.iconst 0, 1) := by decide +kernel
theorem dX8_findsWidows_16 : decode cX8_findsWidows 16 = .ok (.bastore, 1) := by decide +kernel
theorem dX8_findsWidows_17 : decode cX8_findsWidows 17 = .ok (.iinc 3 1, 3) := by decide +kernel
theorem dX8_findsWidows_20 : decode cX8_findsWidows 20 = .ok (.goto (-18), 3) := by decide +kernel
theorem dX8_findsWidows_23 : decode cX8_findsWidows 23 = .ok (.iconst 0, 1) := by decide +kernel
theorem dX8_findsWidows_24 : decode cX8_findsWidows 24 = .ok (.istore_n 3, 1) := by decide +kernel
theorem dX8_findsWidows_25 : decode cX8_findsWidows 25 = .ok (.iload_n 3, 1) := by decide +kernel
theorem dX8_findsWidows_26 : decode cX8_findsWidows 26 = .ok (.aload_n 0, 1) := by decide +kernel
theorem dX8_findsWidows_27 : decode cX8_findsWidows 27 = .ok (.getfield 148, 3) := by decide +kernel
theorem dX8_findsWidows_30 : decode cX8_findsWidows 30 = .ok (.if_icmp .ge 110, 3) := by decide +kernel
theorem dX8_findsWidows_33 : decode cX8_findsWidows 33 = .ok (.aload_n 0, 1) := by decide +kernel
theorem dX8_findsWidows_34 : decode cX8_findsWidows 34 = .ok (.getfield 70, 3) := by decide +kernel
theorem dX8_findsWidows_37 : decode cX8_findsWidows 37 = .ok (.iload_n 3, 1) := by decide +kernel
theorem dX8_findsWidows_38 : decode cX8_findsWidows 38 = .ok (.iaload, 1) := by decide +kernel
theorem dX8_findsWidows_39 : decode cX8_findsWidows 39 = .ok (.iload_n 1, 1) := by decide +kernel
theorem dX8_findsWidows_40 : decode cX8_findsWidows 40 = .ok (.if_icmp .ne 12, 3) := by decide +kernel
theorem dX8_findsWidows_43 : decode cX8_findsWidows 43 = .ok (.aload_n 0, 1) := by decide +kernel
theorem dX8_findsWidows_44 : decode cX8_findsWidows 44 = .ok (.getfield 73, 3) := by decide +kernel
theorem dX8_findsWidows_47 : decode cX8_findsWidows 47 = .ok (.iload_n 3, 1) := by decide +kernel
theorem dX8_findsWidows_48 : decode cX8_findsWidows 48 = .ok (.iaload, 1) := by decide +kernel
theorem dX8_findsWidows_49 : decode cX8_findsWidows 49 = .ok (.goto 9, 3) := by decide +kernel
theorem dX8_findsWidows_52 : decode cX8_findsWidows 52 = .ok (.aload_n 0, 1) := by decide +kernel
theorem dX8_findsWidows_53 : decode cX8_findsWidows 53 = .ok (.getfield 70, 3) := by decide +kernel
theorem dX8_findsWidows_56 : decode cX8_findsWidows 56 = .ok (.iload_n 3, 1) := by decide +kernel
theorem dX8_findsWidows_57 : decode cX8_findsWidows 57 = .ok (.iaload, 1) := by decide +kernel
theorem dX8_findsWidows_58 : decode cX8_findsWidows 58 = .ok (.istore 4, 2) := by decide +kernel
theorem dX8_findsWidows_60 : decode cX8_findsWidows 60 = .ok (.aload_n 0, 1) := by decide +kernel
theorem dX8_findsWidows_61 : decode cX8_findsWidows 61 = .ok (.getfield 76, 3) := by decide +kernel
theorem dX8_findsWidows_64 : decode cX8_findsWidows 64 = .ok (.iload_n 3, 1) := by decide +kernel
theorem dX8_findsWidows_65 : decode cX8_findsWidows 65 = .ok (.iaload, 1) := by decide +kernel
theorem dX8_findsWidows_66 : decode cX8_findsWidows 66 = .ok (.ifCond .ne 38, 3) := by decide +kernel
theorem dX8_findsWidows_69 : decode cX8_findsWidows 69 = .ok (.aload_n 0, 1) := by decide +kernel
theorem dX8_findsWidows_70 : decode cX8_findsWidows 70 = .ok (.getfield 70, 3) := by decide +kernel
theorem dX8_findsWidows_73 : decode cX8_findsWidows 73 = .ok (.iload_n 3, 1) := by decide +kernel
theorem dX8_findsWidows_74 : decode cX8_findsWidows 74 = .ok (.iaload, 1) := by decide +kernel
theorem dX8_findsWidows_75 : decode cX8_findsWidows 75 = .ok (.iload_n 1, 1) := by decide +kernel
theorem dX8_findsWidows_76 : decode cX8_findsWidows 76 = .ok (.if_icmp .eq 13, 3) := by decide +kernel
theorem dX8_findsWidows_79 : decode cX8_findsWidows 79 = .ok (.aload_n 0, 1) := by decide +kernel
theorem dX8_findsWidows_80 : decode cX8_findsWidows 80 = .ok (.getfield 73, 3) := by decide +kernel
theorem dX8_findsWidows_83 : decode cX8_findsWidows 83 = .ok (.iload_n 3, 1) := by decide +kernel
theorem dX8_findsWidows_84 : decode cX8_findsWidows 84 = .ok (.iaload, 1) := by decide +kernel
theorem dX8_findsWidows_85 : decode cX8_findsWidows 85 = .ok (.iload_n 1, 1) := by decide +kernel
theorem dX8_findsWidows_86 : decode cX8_findsWidows 86 = .ok (.if_icmp .ne 18, 3) := by decide +kernel
theorem dX8_findsWidows_89 : decode cX8_findsWidows 89 = .ok (.aload_n 0, 1) := by decide +kernel
theorem dX8_findsWidows_90 : decode cX8_findsWidows 90 = .ok (.iload 4, 2) := by decide +kernel
theorem dX8_findsWidows_92 : decode cX8_findsWidows 92 = .ok (.iload_n 1, 1) := by decide +kernel
theorem dX8_findsWidows_93 : decode cX8_findsWidows 93 = .ok (.iload_n 2, 1) := by decide +kernel
theorem dX8_findsWidows_94 : decode cX8_findsWidows 94 = .ok (.invokevirtual 235, 3) := by decide +kernel
theorem dX8_findsWidows_97 : decode cX8_findsWidows 97 = .ok (.ifCond .ne 7, 3) := by decide +kernel
theorem dX8_findsWidows_100 : decode cX8_findsWidows 100 = .ok (.iconst 1, 1) := by decide +kernel
theorem dX8_findsWidows_101 : decode cX8_findsWidows 101 = .ok (.goto 4, 3) := by decide +kernel
theorem dX8_findsWidows_104 : decode cX8_findsWidows 104 = .ok (.iconst 0, 1) := by decide +kernel
theorem dX8_findsWidows_105 : decode cX8_findsWidows 105 = .ok (.istore 5, 2) := by decide +kernel
theorem dX8_findsWidows_107 : decode cX8_findsWidows 107 = .ok (.aload_n 0, 1) := by decide +kernel
theorem dX8_findsWidows_108 : decode cX8_findsWidows 108 = .ok (.getfield 127, 3) := by decide +kernel
theorem dX8_findsWidows_111 : decode cX8_findsWidows 111 = .ok (.iload 4, 2) := by decide +kernel
theorem dX8_findsWidows_113 : decode cX8_findsWidows 113 = .ok (.aload_n 0, 1) := by decide +kernel
theorem dX8_findsWidows_114 : decode cX8_findsWidows 114 = .ok (.getfield 127, 3) := by decide +kernel
theorem dX8_findsWidows_117 : decode cX8_findsWidows 117 = .ok (.iload 4, 2) := by decide +kernel
theorem dX8_findsWidows_119 : decode cX8_findsWidows 119 = .ok (.baload, 1) := by decide +kernel
theorem dX8_findsWidows_120 : decode cX8_findsWidows 120 = .ok (.ifCond .ne 8, 3) := by decide +kernel
theorem dX8_findsWidows_123 : decode cX8_findsWidows 123 = .ok (.iload 5, 2) := by decide +kernel
theorem dX8_findsWidows_125 : decode cX8_findsWidows 125 = .ok (.ifCond .eq 7, 3) := by decide +kernel
theorem dX8_findsWidows_128 : decode cX8_findsWidows 128 = .ok (.iconst 1, 1) := by decide +kernel
theorem dX8_findsWidows_129 : decode cX8_findsWidows 129 = .ok (.goto 4, 3) := by decide +kernel
theorem dX8_findsWidows_132 : decode cX8_findsWidows 132 = .ok (.iconst 0, 1) := by decide +kernel
theorem dX8_findsWidows_133 : decode cX8_findsWidows 133 = .ok (.bastore, 1) := by decide +kernel
theorem dX8_findsWidows_134 : decode cX8_findsWidows 134 = .ok (.iinc 3 1, 3) := by decide +kernel
theorem dX8_findsWidows_137 : decode cX8_findsWidows 137 = .ok (.goto (-112), 3) := by decide +kernel
theorem dX8_findsWidows_140 : decode cX8_findsWidows 140 = .ok (.return_, 1) := by decide +kernel
theorem dX8_dies_0 : decode cX8_dies 0 = .ok (.aload_n 0, 1) := by decide +kernel
theorem dX8_dies_1 : decode cX8_dies 1 = .ok (.iload_n 1, 1) := by decide +kernel
theorem dX8_dies_2 : decode cX8_dies 2 = .ok (.invokevirtual 191, 3) := by decide +kernel
theorem dX8_dies_5 : decode cX8_dies 5 = .ok (.istore_n 2, 1) := by decide +kernel
theorem dX8_dies_6 : decode cX8_dies 6 = .ok (.aload_n 0, 1) := by decide +kernel
theorem dX8_dies_7 : decode cX8_dies 7 = .ok (.iload_n 2, 1) := by decide +kernel
theorem dX8_dies_8 : decode cX8_dies 8 = .ok (.ifCond .ne 7, 3) := by decide +kernel
theorem dX8_dies_11 : decode cX8_dies 11 = .ok (.iconst 1, 1) := by decide +kernel
theorem dX8_dies_12 : decode cX8_dies 12 = .ok (.goto 17, 3) := by decide +kernel
theorem dX8_dies_15 : decode cX8_dies 15 = .ok (.aload_n 0, 1) := by decide +kernel
theorem dX8_dies_16 : decode cX8_dies 16 = .ok (.getfield 47, 3) := by decide +kernel
theorem dX8_dies_19 : decode cX8_dies 19 = .ok (.iload_n 1, 1) := by decide +kernel
theorem dX8_dies_20 : decode cX8_dies 20 = .ok (.baload, 1) := by decide +kernel
theorem dX8_dies_21 : decode cX8_dies 21 = .ok (.ifCond .eq 7, 3) := by decide +kernel
theorem dX8_dies_24 : decode cX8_dies 24 = .ok (.iconst 2, 1) := by decide +kernel
theorem dX8_dies_25 : decode cX8_dies 25 = .ok (.goto 4, 3) := by decide +kernel
theorem dX8_dies_28 : decode cX8_dies 28 = .ok (.iconst 0, 1) := by decide +kernel
theorem dX8_dies_29 : decode cX8_dies 29 = .ok (.invokevirtual 157, 3) := by decide +kernel
theorem dX8_dies_32 : decode cX8_dies 32 = .ok (.ifCond .ne 5, 3) := by decide +kernel
theorem dX8_dies_35 : decode cX8_dies 35 = .ok (.lconst 0, 1) := by decide +kernel
theorem dX8_dies_36 : decode cX8_dies 36 = .ok (.lreturn, 1) := by decide +kernel
theorem dX8_dies_37 : decode cX8_dies 37 = .ok (.aload_n 0, 1) := by decide +kernel
theorem dX8_dies_38 : decode cX8_dies 38 = .ok (.iconst 2, 1) := by decide +kernel
theorem dX8_dies_39 : decode cX8_dies 39 = .ok (.iload_n 1, 1) := by decide +kernel
theorem dX8_dies_40 : decode cX8_dies 40 = .ok (.iload_n 1, 1) := by decide +kernel
theorem dX8_dies_41 : decode cX8_dies 41 = .ok (.aload_n 0, 1) := by decide +kernel
theorem dX8_dies_42 : decode cX8_dies 42 = .ok (.getfield 154, 3) := by decide +kernel
theorem dX8_dies_45 : decode cX8_dies 45 = .ok (.invokevirtual 194, 3) := by decide +kernel
theorem dX8_dies_48 : decode cX8_dies 48 = .ok (.istore_n 3, 1) := by decide +kernel
theorem dX8_dies_49 : decode cX8_dies 49 = .ok (.aload_n 0, 1) := by decide +kernel
theorem dX8_dies_50 : decode cX8_dies 50 = .ok (.iload_n 3, 1) := by decide +kernel
theorem dX8_dies_51 : decode cX8_dies 51 = .ok (.iconst 5, 1) := by decide +kernel
theorem dX8_dies_52 : decode cX8_dies 52 = .ok (.aload_n 0, 1) := by decide +kernel
theorem dX8_dies_53 : decode cX8_dies 53 = .ok (.getfield 154, 3) := by decide +kernel
theorem dX8_dies_56 : decode cX8_dies 56 = .ok (.invokevirtual 177, 3) := by decide +kernel
theorem dX8_dies_59 : decode cX8_dies 59 = .ok (.iconst 1, 1) := by decide +kernel
theorem dX8_dies_60 : decode cX8_dies 60 = .ok (.if_icmp .ne 7, 3) := by decide +kernel
theorem dX8_dies_63 : decode cX8_dies 63 = .ok (.iconst 1, 1) := by decide +kernel
theorem dX8_dies_64 : decode cX8_dies 64 = .ok (.goto 4, 3) := by decide +kernel
theorem dX8_dies_67 : decode cX8_dies 67 = .ok (.iconst 0, 1) := by decide +kernel
theorem dX8_dies_68 : decode cX8_dies 68 = .ok (.istore 4, 2) := by decide +kernel
theorem dX8_dies_70 : decode cX8_dies 70 = .ok (.aload_n 0, 1) := by decide +kernel
theorem dX8_dies_71 : decode cX8_dies 71 = .ok (.iload_n 3, 1) := by decide +kernel
theorem dX8_dies_72 : decode cX8_dies 72 = .ok (.iconst 0, 1) := by decide +kernel
theorem dX8_dies_73 : decode cX8_dies 73 = .ok (.aload_n 0, 1) := by decide +kernel
theorem dX8_dies_74 : decode cX8_dies 74 = .ok (.getfield 154, 3) := by decide +kernel
theorem dX8_dies_77 : decode cX8_dies 77 = .ok (.invokevirtual 177, 3) := by decide +kernel
theorem dX8_dies_80 : decode cX8_dies 80 = .ok (.istore 5, 2) := by decide +kernel
theorem dX8_dies_82 : decode cX8_dies 82 = .ok (.aload_n 0, 1) := by decide +kernel
theorem dX8_dies_83 : decode cX8_dies 83 = .ok (.getfield 47, 3) := by decide +kernel
theorem dX8_dies_86 : decode cX8_dies 86 = .ok (.iload_n 1, 1) := by decide +kernel
theorem dX8_dies_87 : decode cX8_dies 87 = .ok (.iconst 1, 1) := by decide +kernel
theorem dX8_dies_88 : decode cX8_dies 88 = .ok (.bastore, 1) := by decide +kernel
theorem dX8_dies_89 : decode cX8_dies 89 = .ok (.aload_n 0, 1) := by decide +kernel
theorem dX8_dies_90 : decode cX8_dies 90 = .ok (.iload_n 1, 1) := by decide +kernel
theorem dX8_dies_91 : decode cX8_dies 91 = .ok (.invokevirtual 211, 3) := by decide +kernel
theorem dX8_dies_94 : decode cX8_dies 94 = .ok (.aload_n 0, 1) := by decide +kernel
theorem dX8_dies_95 : decode cX8_dies 95 = .ok (.iload_n 1, 1) := by decide +kernel
theorem dX8_dies_96 : decode cX8_dies 96 = .ok (.iload 4, 2) := by decide +kernel
theorem dX8_dies_98 : decode cX8_dies 98 = .ok (.invokevirtual 239, 3) := by decide +kernel
theorem dX8_dies_101 : decode cX8_dies 101 = .ok (.iconst 0, 1) := by decide +kernel
theorem dX8_dies_102 : decode cX8_dies 102 = .ok (.istore 6, 2) := by decide +kernel
theorem dX8_dies_104 : decode cX8_dies 104 = .ok (.iload 6, 2) := by decide +kernel
theorem dX8_dies_106 : decode cX8_dies 106 = .ok (.aload_n 0, 1) := by decide +kernel
theorem dX8_dies_107 : decode cX8_dies 107 = .ok (.getfield 148, 3) := by decide +kernel
theorem dX8_dies_110 : decode cX8_dies 110 = .ok (.if_icmp .ge 74, 3) := by decide +kernel
theorem dX8_dies_113 : decode cX8_dies 113 = .ok (.aload_n 0, 1) := by decide +kernel
theorem dX8_dies_114 : decode cX8_dies 114 = .ok (.getfield 76, 3) := by decide +kernel
theorem dX8_dies_117 : decode cX8_dies 117 = .ok (.iload 6, 2) := by decide +kernel
theorem dX8_dies_119 : decode cX8_dies 119 = .ok (.iaload, 1) := by decide +kernel
theorem dX8_dies_120 : decode cX8_dies 120 = .ok (.ifCond .ne 58, 3) := by decide +kernel
theorem dX8_dies_123 : decode cX8_dies 123 = .ok (.aload_n 0, 1) := by decide +kernel
theorem dX8_dies_124 : decode cX8_dies 124 = .ok (.getfield 70, 3) := by decide +kernel
theorem dX8_dies_127 : decode cX8_dies 127 = .ok (.iload 6, 2) := by decide +kernel
theorem dX8_dies_129 : decode cX8_dies 129 = .ok (.iaload, 1) := by decide +kernel
theorem dX8_dies_130 : decode cX8_dies 130 = .ok (.iload_n 1, 1) := by decide +kernel
theorem dX8_dies_131 : decode cX8_dies 131 = .ok (.if_icmp .eq 14, 3) := by decide +kernel
theorem dX8_dies_134 : decode cX8_dies 134 = .ok (.aload_n 0, 1) := by decide +kernel
theorem dX8_dies_135 : decode cX8_dies 135 = .ok (.getfield 73, 3) := by decide +kernel
theorem dX8_dies_138 : decode cX8_dies 138 = .ok (.iload 6, 2) := by decide +kernel
theorem dX8_dies_140 : decode cX8_dies 140 = .ok (.iaload, 1) := by decide +kernel
theorem dX8_dies_141 : decode cX8_dies 141 = .ok (.iload_n 1, 1) := by decide +kernel
theorem dX8_dies_142 : decode cX8_dies 142 = .ok (.if_icmp .ne 36, 3) := by decide +kernel
theorem dX8_dies_145 : decode cX8_dies 145 = .ok (.aload_n 0, 1) := by decide +kernel
theorem dX8_dies_146 : decode cX8_dies 146 = .ok (.getfield 76, 3) := by decide +kernel
theorem dX8_dies_149 : decode cX8_dies 149 = .ok (.iload 6, 2) := by decide +kernel
theorem dX8_dies_151 : decode cX8_dies 151 = .ok (.iconst 2, 1) := by decide +kernel
theorem dX8_dies_152 : decode cX8_dies 152 = .ok (.iastore, 1) := by decide +kernel
theorem dX8_dies_153 : decode cX8_dies 153 = .ok (.aload_n 0, 1) := by decide +kernel
theorem dX8_dies_154 : decode cX8_dies 154 = .ok (.getfield 70, 3) := by decide +kernel
theorem dX8_dies_157 : decode cX8_dies 157 = .ok (.iload 6, 2) := by decide +kernel
theorem dX8_dies_159 : decode cX8_dies 159 = .ok (.iaload, 1) := by decide +kernel
theorem dX8_dies_160 : decode cX8_dies 160 = .ok (.iload_n 1, 1) := by decide +kernel
theorem dX8_dies_161 : decode cX8_dies 161 = .ok (.if_icmp .ne 9, 3) := by decide +kernel
theorem dX8_dies_164 : decode cX8_dies 164 = .ok (.aload_n 0, 1) := by decide +kernel
theorem dX8_dies_165 : decode cX8_dies 165 = .ok (.iload 6, 2) := by decide +kernel
theorem dX8_dies_167 : decode cX8_dies 167 = .ok (.invokevirtual 229, 3) := by decide +kernel
theorem dX8_dies_170 : decode cX8_dies 170 = .ok (.aload_n 0, 1) := by decide +kernel
theorem dX8_dies_171 : decode cX8_dies 171 = .ok (.getfield 79, 3) := by decide +kernel
theorem dX8_dies_174 : decode cX8_dies 174 = .ok (.iload 6, 2) := by decide +kernel
theorem dX8_dies_176 : decode cX8_dies 176 = .ok (.iconst 0, 1) := by decide +kernel
theorem dX8_dies_177 : decode cX8_dies 177 = .ok (.iastore, 1) := by decide +kernel
theorem dX8_dies_178 : decode cX8_dies 178 = .ok (.iinc 6 1, 3) := by decide +kernel
theorem dX8_dies_181 : decode cX8_dies 181 = .ok (.goto (-77), 3) := by decide +kernel
theorem dX8_dies_184 : decode cX8_dies 184 = .ok (.aload_n 0, 1) := by decide +kernel
theorem dX8_dies_185 : decode cX8_dies 185 = .ok (.getfield 50, 3) := by decide +kernel
theorem dX8_dies_188 : decode cX8_dies 188 = .ok (.iload_n 1, 1) := by decide +kernel
theorem dX8_dies_189 : decode cX8_dies 189 = .ok (.laload, 1) := by decide +kernel
theorem dX8_dies_190 : decode cX8_dies 190 = .ok (.lstore 6, 2) := by decide +kernel
theorem dX8_dies_192 : decode cX8_dies 192 = .ok (.aload_n 0, 1) := by decide +kernel
theorem dX8_dies_193 : decode cX8_dies 193 = .ok (.getfield 50, 3) := by decide +kernel
theorem dX8_dies_196 : decode cX8_dies 196 = .ok (.iload_n 1, 1) := by decide +kernel
theorem dX8_dies_197 : decode cX8_dies 197 = .ok (.lconst 0, 1) := by decide +kernel
theorem dX8_dies_198 : decode cX8_dies 198 = .ok (.lastore, 1) := by decide +kernel
theorem dX8_dies_199 : decode cX8_dies 199 = .ok (.aload_n 0, 1) := by decide +kernel
theorem dX8_dies_200 : decode cX8_dies 200 = .ok (.iconst 1, 1) := by decide +kernel
theorem dX8_dies_201 : decode cX8_dies 201 = .ok (.invokevirtual 232, 3) := by decide +kernel
theorem dX8_dies_204 : decode cX8_dies 204 = .ok (.ifCond .le 37, 3) := by decide +kernel
theorem dX8_dies_207 : decode cX8_dies 207 = .ok (.lload 6, 2) := by decide +kernel
theorem dX8_dies_209 : decode cX8_dies 209 = .ok (.aload_n 0, 1) := by decide +kernel
theorem dX8_dies_210 : decode cX8_dies 210 = .ok (.iload_n 3, 1) := by decide +kernel
theorem dX8_dies_211 : decode cX8_dies 211 = .ok (.iconst 3, 1) := by decide +kernel
theorem dX8_dies_212 : decode cX8_dies 212 = .ok (.aload_n 0, 1) := by decide +kernel
theorem dX8_dies_213 : decode cX8_dies 213 = .ok (.getfield 154, 3) := by decide +kernel
theorem dX8_dies_216 : decode cX8_dies 216 = .ok (.invokevirtual 177, 3) := by decide +kernel
theorem dX8_dies_219 : decode cX8_dies 219 = .ok (.i2l, 1) := by decide +kernel
theorem dX8_dies_220 : decode cX8_dies 220 = .ok (.lmul, 1) := by decide +kernel
theorem dX8_dies_221 : decode cX8_dies 221 = .ok (.ldc2_w 242, 3) := by decide +kernel
theorem dX8_dies_224 : decode cX8_dies 224 = .ok (.ldiv, 1) := by decide +kernel
theorem dX8_dies_225 : decode cX8_dies 225 = .ok (.lstore 8, 2) := by decide +kernel
theorem dX8_dies_227 : decode cX8_dies 227 = .ok (.aload_n 0, 1) := by decide +kernel
theorem dX8_dies_228 : decode cX8_dies 228 = .ok (.lload 8, 2) := by decide +kernel
theorem dX8_dies_230 : decode cX8_dies 230 = .ok (.iconst 1, 1) := by decide +kernel
theorem dX8_dies_231 : decode cX8_dies 231 = .ok (.invokevirtual 244, 3) := by decide +kernel
theorem dX8_dies_234 : decode cX8_dies 234 = .ok (.lload 6, 2) := by decide +kernel
theorem dX8_dies_236 : decode cX8_dies 236 = .ok (.lload 8, 2) := by decide +kernel
theorem dX8_dies_238 : decode cX8_dies 238 = .ok (.lsub, 1) := by decide +kernel
theorem dX8_dies_239 : decode cX8_dies 239 = .ok (.lstore 6, 2) := by decide +kernel
theorem dX8_dies_241 : decode cX8_dies 241 = .ok (.iconst 0, 1) := by decide +kernel
theorem dX8_dies_242 : decode cX8_dies 242 = .ok (.istore 8, 2) := by decide +kernel
theorem dX8_dies_244 : decode cX8_dies 244 = .ok (.iload 8, 2) := by decide +kernel
theorem dX8_dies_246 : decode cX8_dies 246 = .ok (.aload_n 0, 1) := by decide +kernel
theorem dX8_dies_247 : decode cX8_dies 247 = .ok (.getfield 145, 3) := by decide +kernel
theorem dX8_dies_250 : decode cX8_dies 250 = .ok (.if_icmp .ge 53, 3) := by decide +kernel
theorem dX8_dies_253 : decode cX8_dies 253 = .ok (.aload_n 0, 1) := by decide +kernel
theorem dX8_dies_254 : decode cX8_dies 254 = .ok (.getfield 127, 3) := by decide +kernel
theorem dX8_dies_257 : decode cX8_dies 257 = .ok (.iload 8, 2) := by decide +kernel
theorem dX8_dies_259 : decode cX8_dies 259 = .ok (.aload_n 0, 1) := by decide +kernel
theorem dX8_dies_260 : decode cX8_dies 260 = .ok (.iload 8, 2) := by decide +kernel
theorem dX8_dies_262 : decode cX8_dies 262 = .ok (.iload_n 1, 1) := by decide +kernel
theorem dX8_dies_263 : decode cX8_dies 263 = .ok (.invokevirtual 248, 3) := by decide +kernel
theorem dX8_dies_266 : decode cX8_dies 266 = .ok (.ifCond .eq 29, 3) := by decide +kernel
theorem dX8_dies_269 : decode cX8_dies 269 = .ok (.aload_n 0, 1) := by decide +kernel
theorem dX8_dies_270 : decode cX8_dies 270 = .ok (.getfield 47, 3) := by decide +kernel
theorem dX8_dies_273 : decode cX8_dies 273 = .ok (.iload 8, 2) := by decide +kernel
theorem dX8_dies_275 : decode cX8_dies 275 = .ok (.baload, 1) := by decide +kernel
theorem dX8_dies_276 : decode cX8_dies 276 = .ok (.ifCond .ne 19, 3) := by decide +kernel
theorem dX8_dies_279 : decode cX8_dies 279 = .ok (.aload_n 0, 1) := by decide +kernel
theorem dX8_dies_280 : decode cX8_dies 280 = .ok (.iload 8, 2) := by decide +kernel
theorem dX8_dies_282 : decode cX8_dies 282 = .ok (.iload_n 1, 1) := by decide +kernel
theorem dX8_dies_283 : decode cX8_dies 283 = .ok (.iload 4, 2) := by decide +kernel
theorem dX8_dies_285 : decode cX8_dies 285 = .ok (.invokevirtual 235, 3) := by decide +kernel
theorem dX8_dies_288 : decode cX8_dies 288 = .ok (.ifCond .ne 7, 3) := by decide +kernel
theorem dX8_dies_291 : decode cX8_dies 291 = .ok (.iconst 1, 1) := by decide +kernel
theorem dX8_dies_292 : decode cX8_dies 292 = .ok (.goto 4, 3) := by decide +kernel
theorem dX8_dies_295 : decode cX8_dies 295 = .ok (.iconst 0, 1) := by decide +kernel
theorem dX8_dies_296 : decode cX8_dies 296 = .ok (.bastore, 1) := by decide +kernel
theorem dX8_dies_297 : decode cX8_dies 297 = .ok (.iinc 8 1, 3) := by decide +kernel
theorem dX8_dies_300 : decode cX8_dies 300 = .ok (.goto (-56), 3) := by decide +kernel
theorem dX8_dies_303 : decode cX8_dies 303 = .ok (.aload_n 0, 1) := by decide +kernel
theorem dX8_dies_304 : decode cX8_dies 304 = .ok (.invokevirtual 251, 3) := by decide +kernel
theorem dX8_dies_307 : decode cX8_dies 307 = .ok (.istore 8, 2) := by decide +kernel
theorem dX8_dies_309 : decode cX8_dies 309 = .ok (.iload 8, 2) := by decide +kernel
theorem dX8_dies_311 : decode cX8_dies 311 = .ok (.iconst (-1), 1) := by decide +kernel
theorem dX8_dies_312 : decode cX8_dies 312 = .ok (.if_icmp .ne 17, 3) := by decide +kernel
theorem dX8_dies_315 : decode cX8_dies 315 = .ok (.aload_n 0, 1) := by decide +kernel
theorem dX8_dies_316 : decode cX8_dies 316 = .ok (.dup, 1) := by decide +kernel
theorem dX8_dies_317 : decode cX8_dies 317 = .ok (.getfield 255, 3) := by decide +kernel
theorem dX8_dies_320 : decode cX8_dies 320 = .ok (.lload 6, 2) := by decide +kernel
theorem dX8_dies_322 : decode cX8_dies 322 = .ok (.ladd, 1) := by decide +kernel
theorem dX8_dies_323 : decode cX8_dies 323 = .ok (.putfield 255, 3) := by decide +kernel
theorem dX8_dies_326 : decode cX8_dies 326 = .ok (.lload 6, 2) := by decide +kernel
theorem dX8_dies_328 : decode cX8_dies 328 = .ok (.lreturn, 1) := by decide +kernel
theorem dX8_dies_329 : decode cX8_dies 329 = .ok (.iconst 0, 1) := by decide +kernel
theorem dX8_dies_330 : decode cX8_dies 330 = .ok (.istore 9, 2) := by decide +kernel
theorem dX8_dies_332 : decode cX8_dies 332 = .ok (.iload 9, 2) := by decide +kernel
theorem dX8_dies_334 : decode cX8_dies 334 = .ok (.aload_n 0, 1) := by decide +kernel
theorem dX8_dies_335 : decode cX8_dies 335 = .ok (.getfield 145, 3) := by decide +kernel
theorem dX8_dies_338 : decode cX8_dies 338 = .ok (.if_icmp .ge 34, 3) := by decide +kernel
theorem dX8_dies_341 : decode cX8_dies 341 = .ok (.iload 5, 2) := by decide +kernel
theorem dX8_dies_343 : decode cX8_dies 343 = .ok (.iconst 2, 1) := by decide +kernel
theorem dX8_dies_344 : decode cX8_dies 344 = .ok (.if_icmp .ne 28, 3) := by decide +kernel
theorem dX8_dies_347 : decode cX8_dies 347 = .ok (.aload_n 0, 1) := by decide +kernel
theorem dX8_dies_348 : decode cX8_dies 348 = .ok (.getfield 127, 3) := by decide +kernel
theorem dX8_dies_351 : decode cX8_dies 351 = .ok (.iload 9, 2) := by decide +kernel
theorem dX8_dies_353 : decode cX8_dies 353 = .ok (.iload 9, 2) := by decide +kernel
theorem dX8_dies_355 : decode cX8_dies 355 = .ok (.iload 8, 2) := by decide +kernel
theorem dX8_dies_357 : decode cX8_dies 357 = .ok (.if_icmp .ne 7, 3) := by decide +kernel
theorem dX8_dies_360 : decode cX8_dies 360 = .ok (.iconst 1, 1) := by decide +kernel
theorem dX8_dies_361 : decode cX8_dies 361 = .ok (.goto 4, 3) := by decide +kernel
theorem dX8_dies_364 : decode cX8_dies 364 = .ok (.iconst 0, 1) := by decide +kernel
theorem dX8_dies_365 : decode cX8_dies 365 = .ok (.bastore, 1) := by decide +kernel
theorem dX8_dies_366 : decode cX8_dies 366 = .ok (.iinc 9 1, 3) := by decide +kernel
theorem dX8_dies_369 : decode cX8_dies 369 = .ok (.goto (-37), 3) := by decide +kernel
theorem dX8_dies_372 : decode cX8_dies 372 = .ok (.aload_n 0, 1) := by decide +kernel
theorem dX8_dies_373 : decode cX8_dies 373 = .ok (.lload 6, 2) := by decide +kernel
theorem dX8_dies_375 : decode cX8_dies 375 = .ok (.iload 5, 2) := by decide +kernel
theorem dX8_dies_377 : decode cX8_dies 377 = .ok (.iconst 1, 1) := by decide +kernel
theorem dX8_dies_378 : decode cX8_dies 378 = .ok (.if_icmp .ne 7, 3) := by decide +kernel
theorem dX8_dies_381 : decode cX8_dies 381 = .ok (.iconst 2, 1) := by decide +kernel
theorem dX8_dies_382 : decode cX8_dies 382 = .ok (.goto 4, 3) := by decide +kernel
theorem dX8_dies_385 : decode cX8_dies 385 = .ok (.iconst 1, 1) := by decide +kernel
theorem dX8_dies_386 : decode cX8_dies 386 = .ok (.invokevirtual 244, 3) := by decide +kernel
theorem dX8_dies_389 : decode cX8_dies 389 = .ok (.lconst 0, 1) := by decide +kernel
theorem dX8_dies_390 : decode cX8_dies 390 = .ok (.lreturn, 1) := by decide +kernel
theorem dX8_sue_0 : decode cX8_sue 0 = .ok (.aload_n 0, 1) := by decide +kernel
theorem dX8_sue_1 : decode cX8_sue 1 = .ok (.iload_n 1, 1) := by decide +kernel
theorem dX8_sue_2 : decode cX8_sue 2 = .ok (.invokevirtual 191, 3) := by decide +kernel
theorem dX8_sue_5 : decode cX8_sue 5 = .ok (.ifCond .eq 23, 3) := by decide +kernel
theorem dX8_sue_8 : decode cX8_sue 8 = .ok (.aload_n 0, 1) := by decide +kernel
theorem dX8_sue_9 : decode cX8_sue 9 = .ok (.iload_n 2, 1) := by decide +kernel
theorem dX8_sue_10 : decode cX8_sue 10 = .ok (.invokevirtual 191, 3) := by decide +kernel
theorem dX8_sue_13 : decode cX8_sue 13 = .ok (.ifCond .eq 15, 3) := by decide +kernel
theorem dX8_sue_16 : decode cX8_sue 16 = .ok (.aload_n 0, 1) := by decide +kernel
theorem dX8_sue_17 : decode cX8_sue 17 = .ok (.iload_n 3, 1) := by decide +kernel
theorem dX8_sue_18 : decode cX8_sue 18 = .ok (.invokevirtual 174, 3) := by decide +kernel
theorem dX8_sue_21 : decode cX8_sue 21 = .ok (.ifCond .eq 7, 3) := by decide +kernel
theorem dX8_sue_24 : decode cX8_sue 24 = .ok (.iconst 1, 1) := by decide +kernel
theorem dX8_sue_25 : decode cX8_sue 25 = .ok (.goto 4, 3) := by decide +kernel
theorem dX8_sue_28 : decode cX8_sue 28 = .ok (.iconst 0, 1) := by decide +kernel
theorem dX8_sue_29 : decode cX8_sue 29 = .ok (.istore 5, 2) := by decide +kernel
theorem dX8_sue_31 : decode cX8_sue 31 = .ok (.iload_n 1, 1) := by decide +kernel
theorem dX8_sue_32 : decode cX8_sue 32 = .ok (.iload_n 2, 1) := by decide +kernel
theorem dX8_sue_33 : decode cX8_sue 33 = .ok (.if_icmp .eq 18, 3) := by decide +kernel
theorem dX8_sue_36 : decode cX8_sue 36 = .ok (.iload 4, 2) := by decide +kernel
theorem dX8_sue_38 : decode cX8_sue 38 = .ok (.iconst 1, 1) := by decide +kernel
theorem dX8_sue_39 : decode cX8_sue 39 = .ok (.ldc 222, 2) := by decide +kernel
theorem dX8_sue_41 : decode cX8_sue 41 = .ok (.invokestatic 137, 3) := by decide +kernel
theorem dX8_sue_44 : decode cX8_sue 44 = .ok (.ifCond .eq 7, 3) := by decide +kernel
theorem dX8_sue_47 : decode cX8_sue 47 = .ok (.iconst 1, 1) := by decide +kernel
theorem dX8_sue_48 : decode cX8_sue 48 = .ok (.goto 4, 3) := by decide +kernel
theorem dX8_sue_51 : decode cX8_sue 51 = .ok (.iconst 0, 1) := by decide +kernel
theorem dX8_sue_52 : decode cX8_sue 52 = .ok (.istore 6, 2) := by decide +kernel
theorem dX8_sue_54 : decode cX8_sue 54 = .ok (.aload_n 0, 1) := by decide +kernel
theorem dX8_sue_55 : decode cX8_sue 55 = .ok (.iload 5, 2) := by decide +kernel
theorem dX8_sue_57 : decode cX8_sue 57 = .ok (.ifCond .ne 7, 3) := by decide +kernel
theorem dX8_sue_60 : decode cX8_sue 60 = .ok (.iconst 1, 1) := by decide +kernel
theorem dX8_sue_61 : decode cX8_sue 61 = .ok (.goto 44, 3) := by decide +kernel
theorem dX8_sue_64 : decode cX8_sue 64 = .ok (.iload 6, 2) := by decide +kernel
theorem dX8_sue_66 : decode cX8_sue 66 = .ok (.ifCond .ne 7, 3) := by decide +kernel
theorem dX8_sue_69 : decode cX8_sue 69 = .ok (.iconst 2, 1) := by decide +kernel
theorem dX8_sue_70 : decode cX8_sue 70 = .ok (.goto 35, 3) := by decide +kernel
theorem dX8_sue_73 : decode cX8_sue 73 = .ok (.aload_n 0, 1) := by decide +kernel
theorem dX8_sue_74 : decode cX8_sue 74 = .ok (.getfield 47, 3) := by decide +kernel
theorem dX8_sue_77 : decode cX8_sue 77 = .ok (.iload_n 1, 1) := by decide +kernel
theorem dX8_sue_78 : decode cX8_sue 78 = .ok (.baload, 1) := by decide +kernel
theorem dX8_sue_79 : decode cX8_sue 79 = .ok (.ifCond .ne 21, 3) := by decide +kernel
theorem dX8_sue_82 : decode cX8_sue 82 = .ok (.aload_n 0, 1) := by decide +kernel
theorem dX8_sue_83 : decode cX8_sue 83 = .ok (.getfield 47, 3) := by decide +kernel
theorem dX8_sue_86 : decode cX8_sue 86 = .ok (.iload_n 2, 1) := by decide +kernel
theorem dX8_sue_87 : decode cX8_sue 87 = .ok (.baload, 1) := by decide +kernel
theorem dX8_sue_88 : decode cX8_sue 88 = .ok (.ifCond .ne 12, 3) := by decide +kernel
theorem dX8_sue_91 : decode cX8_sue 91 = .ok (.aload_n 0, 1) := by decide +kernel
theorem dX8_sue_92 : decode cX8_sue 92 = .ok (.getfield 151, 3) := by decide +kernel
theorem dX8_sue_95 : decode cX8_sue 95 = .ok (.bipush 20, 2) := by decide +kernel
theorem dX8_sue_97 : decode cX8_sue 97 = .ok (.if_icmp .ne 7, 3) := by decide +kernel
theorem dX8_sue_100 : decode cX8_sue 100 = .ok (.iconst 3, 1) := by decide +kernel
theorem dX8_sue_101 : decode cX8_sue 101 = .ok (.goto 4, 3) := by decide +kernel
theorem dX8_sue_104 : decode cX8_sue 104 = .ok (.iconst 0, 1) := by decide +kernel
theorem dX8_sue_105 : decode cX8_sue 105 = .ok (.invokevirtual 157, 3) := by decide +kernel
theorem dX8_sue_108 : decode cX8_sue 108 = .ok (.ifCond .ne 5, 3) := by decide +kernel
theorem dX8_sue_111 : decode cX8_sue 111 = .ok (.iconst 0, 1) := by decide +kernel
theorem dX8_sue_112 : decode cX8_sue 112 = .ok (.ireturn, 1) := by decide +kernel
theorem dX8_sue_113 : decode cX8_sue 113 = .ok (.iconst 0, 1) := by decide +kernel
theorem dX8_sue_114 : decode cX8_sue 114 = .ok (.istore 7, 2) := by decide +kernel
theorem dX8_sue_116 : decode cX8_sue 116 = .ok (.iconst 0, 1) := by decide +kernel
theorem dX8_sue_117 : decode cX8_sue 117 = .ok (.istore 8, 2) := by decide +kernel
theorem dX8_sue_119 : decode cX8_sue 119 = .ok (.iload 8, 2) := by decide +kernel
theorem dX8_sue_121 : decode cX8_sue 121 = .ok (.aload_n 0, 1) := by decide +kernel
theorem dX8_sue_122 : decode cX8_sue 122 = .ok (.getfield 151, 3) := by decide +kernel
theorem dX8_sue_125 : decode cX8_sue 125 = .ok (.if_icmp .ge 87, 3) := by decide +kernel
theorem dX8_sue_128 : decode cX8_sue 128 = .ok (.aload_n 0, 1) := by decide +kernel
theorem dX8_sue_129 : decode cX8_sue 129 = .ok (.getfield 91, 3) := by decide +kernel
theorem dX8_sue_132 : decode cX8_sue 132 = .ok (.iload 8, 2) := by decide +kernel
theorem dX8_sue_134 : decode cX8_sue 134 = .ok (.iaload, 1) := by decide +kernel
theorem dX8_sue_135 : decode cX8_sue 135 = .ok (.iload_n 1, 1) := by decide +kernel
theorem dX8_sue_136 : decode cX8_sue 136 = .ok (.if_icmp .ne 14, 3) := by decide +kernel
theorem dX8_sue_139 : decode cX8_sue 139 = .ok (.aload_n 0, 1) := by decide +kernel
theorem dX8_sue_140 : decode cX8_sue 140 = .ok (.getfield 94, 3) := by decide +kernel
theorem dX8_sue_143 : decode cX8_sue 143 = .ok (.iload 8, 2) := by decide +kernel
theorem dX8_sue_145 : decode cX8_sue 145 = .ok (.iaload, 1) := by decide +kernel
theorem dX8_sue_146 : decode cX8_sue 146 = .ok (.iload_n 2, 1) := by decide +kernel
theorem dX8_sue_147 : decode cX8_sue 147 = .ok (.if_icmp .eq 25, 3) := by decide +kernel
theorem dX8_sue_150 : decode cX8_sue 150 = .ok (.aload_n 0, 1) := by decide +kernel
theorem dX8_sue_151 : decode cX8_sue 151 = .ok (.getfield 91, 3) := by decide +kernel
theorem dX8_sue_154 : decode cX8_sue 154 = .ok (.iload 8, 2) := by decide +kernel
theorem dX8_sue_156 : decode cX8_sue 156 = .ok (.iaload, 1) := by decide +kernel
theorem dX8_sue_157 : decode cX8_sue 157 = .ok (.iload_n 2, 1) := by decide +kernel
theorem dX8_sue_158 : decode cX8_sue 158 = .ok (.if_icmp .ne 18, 3) := by decide +kernel
theorem dX8_sue_161 : decode cX8_sue 161 = .ok (.aload_n 0, 1) := by decide +kernel
theorem dX8_sue_162 : decode cX8_sue 162 = .ok (.getfield 94, 3) := by decide +kernel
theorem dX8_sue_165 : decode cX8_sue 165 = .ok (.iload 8, 2) := by decide +kernel
theorem dX8_sue_167 : decode cX8_sue 167 = .ok (.iaload, 1) := by decide +kernel
theorem dX8_sue_168 : decode cX8_sue 168 = .ok (.iload_n 1, 1) := by decide +kernel
theorem dX8_sue_169 : decode cX8_sue 169 = .ok (.if_icmp .ne 7, 3) := by decide +kernel
theorem dX8_sue_172 : decode cX8_sue 172 = .ok (.iconst 1, 1) := by decide +kernel
theorem dX8_sue_173 : decode cX8_sue 173 = .ok (.goto 4, 3) := by decide +kernel
theorem dX8_sue_176 : decode cX8_sue 176 = .ok (.iconst 0, 1) := by decide +kernel
theorem dX8_sue_177 : decode cX8_sue 177 = .ok (.istore 9, 2) := by decide +kernel
theorem dX8_sue_179 : decode cX8_sue 179 = .ok (.iload 7, 2) := by decide +kernel
theorem dX8_sue_181 : decode cX8_sue 181 = .ok (.ifCond .ne 18, 3) := by decide +kernel
theorem dX8_sue_184 : decode cX8_sue 184 = .ok (.iload 9, 2) := by decide +kernel
theorem dX8_sue_186 : decode cX8_sue 186 = .ok (.ifCond .eq 17, 3) := by decide +kernel
theorem dX8_sue_189 : decode cX8_sue 189 = .ok (.aload_n 0, 1) := by decide +kernel
theorem dX8_sue_190 : decode cX8_sue 190 = .ok (.getfield 106, 3) := by decide +kernel
theorem dX8_sue_193 : decode cX8_sue 193 = .ok (.iload 8, 2) := by decide +kernel
theorem dX8_sue_195 : decode cX8_sue 195 = .ok (.iaload, 1) := by decide +kernel
theorem dX8_sue_196 : decode cX8_sue 196 = .ok (.ifCond .ne 7, 3) := by decide +kernel
theorem dX8_sue_199 : decode cX8_sue 199 = .ok (.iconst 1, 1) := by decide +kernel
theorem dX8_sue_200 : decode cX8_sue 200 = .ok (.goto 4, 3) := by decide +kernel
theorem dX8_sue_203 : decode cX8_sue 203 = .ok (.iconst 0, 1) := by decide +kernel
theorem dX8_sue_204 : decode cX8_sue 204 = .ok (.istore 7, 2) := by decide +kernel
theorem dX8_sue_206 : decode cX8_sue 206 = .ok (.iinc 8 1, 3) := by decide +kernel
theorem dX8_sue_209 : decode cX8_sue 209 = .ok (.goto (-90), 3) := by decide +kernel
theorem dX8_sue_212 : decode cX8_sue 212 = .ok (.aload_n 0, 1) := by decide +kernel
theorem dX8_sue_213 : decode cX8_sue 213 = .ok (.getfield 91, 3) := by decide +kernel
theorem dX8_sue_216 : decode cX8_sue 216 = .ok (.aload_n 0, 1) := by decide +kernel
theorem dX8_sue_217 : decode cX8_sue 217 = .ok (.getfield 151, 3) := by decide +kernel
theorem dX8_sue_220 : decode cX8_sue 220 = .ok (.iload_n 1, 1) := by decide +kernel
theorem dX8_sue_221 : decode cX8_sue 221 = .ok (.iastore, 1) := by decide +kernel
theorem dX8_sue_222 : decode cX8_sue 222 = .ok (.aload_n 0, 1) := by decide +kernel
theorem dX8_sue_223 : decode cX8_sue 223 = .ok (.getfield 94, 3) := by decide +kernel
theorem dX8_sue_226 : decode cX8_sue 226 = .ok (.aload_n 0, 1) := by decide +kernel
theorem dX8_sue_227 : decode cX8_sue 227 = .ok (.getfield 151, 3) := by decide +kernel
theorem dX8_sue_230 : decode cX8_sue 230 = .ok (.iload_n 2, 1) := by decide +kernel
theorem dX8_sue_231 : decode cX8_sue 231 = .ok (.iastore, 1) := by decide +kernel
theorem dX8_sue_232 : decode cX8_sue 232 = .ok (.aload_n 0, 1) := by decide +kernel
theorem dX8_sue_233 : decode cX8_sue 233 = .ok (.getfield 97, 3) := by decide +kernel
theorem dX8_sue_236 : decode cX8_sue 236 = .ok (.aload_n 0, 1) := by decide +kernel
theorem dX8_sue_237 : decode cX8_sue 237 = .ok (.getfield 151, 3) := by decide +kernel
theorem dX8_sue_240 : decode cX8_sue 240 = .ok (.iload_n 3, 1) := by decide +kernel
theorem dX8_sue_241 : decode cX8_sue 241 = .ok (.iastore, 1) := by decide +kernel
theorem dX8_sue_242 : decode cX8_sue 242 = .ok (.aload_n 0, 1) := by decide +kernel
theorem dX8_sue_243 : decode cX8_sue 243 = .ok (.getfield 100, 3) := by decide +kernel
theorem dX8_sue_246 : decode cX8_sue 246 = .ok (.aload_n 0, 1) := by decide +kernel
theorem dX8_sue_247 : decode cX8_sue 247 = .ok (.getfield 151, 3) := by decide +kernel
theorem dX8_sue_250 : decode cX8_sue 250 = .ok (.iload 4, 2) := by decide +kernel
theorem dX8_sue_252 : decode cX8_sue 252 = .ok (.iastore, 1) := by decide +kernel
theorem dX8_sue_253 : decode cX8_sue 253 = .ok (.aload_n 0, 1) := by decide +kernel
theorem dX8_sue_254 : decode cX8_sue 254 = .ok (.getfield 103, 3) := by decide +kernel
theorem dX8_sue_257 : decode cX8_sue 257 = .ok (.aload_n 0, 1) := by decide +kernel
theorem dX8_sue_258 : decode cX8_sue 258 = .ok (.getfield 151, 3) := by decide +kernel
theorem dX8_sue_261 : decode cX8_sue 261 = .ok (.aload_n 0, 1) := by decide +kernel
theorem dX8_sue_262 : decode cX8_sue 262 = .ok (.iconst 3, 1) := by decide +kernel
theorem dX8_sue_263 : decode cX8_sue 263 = .ok (.iload_n 1, 1) := by decide +kernel
theorem dX8_sue_264 : decode cX8_sue 264 = .ok (.iload_n 2, 1) := by decide +kernel
theorem dX8_sue_265 : decode cX8_sue 265 = .ok (.aload_n 0, 1) := by decide +kernel
theorem dX8_sue_266 : decode cX8_sue 266 = .ok (.getfield 154, 3) := by decide +kernel
theorem dX8_sue_269 : decode cX8_sue 269 = .ok (.invokevirtual 194, 3) := by decide +kernel
theorem dX8_sue_272 : decode cX8_sue 272 = .ok (.iload_n 3, 1) := by decide +kernel
theorem dX8_sue_273 : decode cX8_sue 273 = .ok (.if_icmp .ne 7, 3) := by decide +kernel
theorem dX8_sue_276 : decode cX8_sue 276 = .ok (.iconst 1, 1) := by decide +kernel
theorem dX8_sue_277 : decode cX8_sue 277 = .ok (.goto 4, 3) := by decide +kernel
theorem dX8_sue_280 : decode cX8_sue 280 = .ok (.iconst 0, 1) := by decide +kernel
theorem dX8_sue_281 : decode cX8_sue 281 = .ok (.bastore, 1) := by decide +kernel
theorem dX8_sue_282 : decode cX8_sue 282 = .ok (.aload_n 0, 1) := by decide +kernel
theorem dX8_sue_283 : decode cX8_sue 283 = .ok (.getfield 106, 3) := by decide +kernel
theorem dX8_sue_286 : decode cX8_sue 286 = .ok (.aload_n 0, 1) := by decide +kernel
theorem dX8_sue_287 : decode cX8_sue 287 = .ok (.getfield 151, 3) := by decide +kernel
theorem dX8_sue_290 : decode cX8_sue 290 = .ok (.iload 7, 2) := by decide +kernel
theorem dX8_sue_292 : decode cX8_sue 292 = .ok (.ifCond .eq 7, 3) := by decide +kernel
theorem dX8_sue_295 : decode cX8_sue 295 = .ok (.iconst 1, 1) := by decide +kernel
theorem dX8_sue_296 : decode cX8_sue 296 = .ok (.goto 4, 3) := by decide +kernel
theorem dX8_sue_299 : decode cX8_sue 299 = .ok (.iconst 0, 1) := by decide +kernel
theorem dX8_sue_300 : decode cX8_sue 300 = .ok (.iastore, 1) := by decide +kernel
theorem dX8_sue_301 : decode cX8_sue 301 = .ok (.aload_n 0, 1) := by decide +kernel
theorem dX8_sue_302 : decode cX8_sue 302 = .ok (.getfield 121, 3) := by decide +kernel
theorem dX8_sue_305 : decode cX8_sue 305 = .ok (.aload_n 0, 1) := by decide +kernel
theorem dX8_sue_306 : decode cX8_sue 306 = .ok (.getfield 151, 3) := by decide +kernel
theorem dX8_sue_309 : decode cX8_sue 309 = .ok (.iconst (-1), 1) := by decide +kernel
theorem dX8_sue_310 : decode cX8_sue 310 = .ok (.iastore, 1) := by decide +kernel
theorem dX8_sue_311 : decode cX8_sue 311 = .ok (.aload_n 0, 1) := by decide +kernel
theorem dX8_sue_312 : decode cX8_sue 312 = .ok (.dup, 1) := by decide +kernel
theorem dX8_sue_313 : decode cX8_sue 313 = .ok (.getfield 151, 3) := by decide +kernel
theorem dX8_sue_316 : decode cX8_sue 316 = .ok (.iconst 1, 1) := by decide +kernel
theorem dX8_sue_317 : decode cX8_sue 317 = .ok (.iadd, 1) := by decide +kernel
theorem dX8_sue_318 : decode cX8_sue 318 = .ok (.putfield 151, 3) := by decide +kernel
theorem dX8_sue_321 : decode cX8_sue 321 = .ok (.aload_n 0, 1) := by decide +kernel
theorem dX8_sue_322 : decode cX8_sue 322 = .ok (.getfield 151, 3) := by decide +kernel
theorem dX8_sue_325 : decode cX8_sue 325 = .ok (.iconst 1, 1) := by decide +kernel
theorem dX8_sue_326 : decode cX8_sue 326 = .ok (.isub, 1) := by decide +kernel
theorem dX8_sue_327 : decode cX8_sue 327 = .ok (.ireturn, 1) := by decide +kernel
theorem dX8_canJudge_0 : decode cX8_canJudge 0 = .ok (.aload_n 0, 1) := by decide +kernel
theorem dX8_canJudge_1 : decode cX8_canJudge 1 = .ok (.getfield 109, 3) := by decide +kernel
theorem dX8_canJudge_4 : decode cX8_canJudge 4 = .ok (.iload_n 1, 1) := by decide +kernel
theorem dX8_canJudge_5 : decode cX8_canJudge 5 = .ok (.baload, 1) := by decide +kernel
theorem dX8_canJudge_6 : decode cX8_canJudge 6 = .ok (.ifCond .ne 12, 3) := by decide +kernel
theorem dX8_canJudge_9 : decode cX8_canJudge 9 = .ok (.aload_n 0, 1) := by decide +kernel
theorem dX8_canJudge_10 : decode cX8_canJudge 10 = .ok (.getfield 103, 3) := by decide +kernel
theorem dX8_canJudge_13 : decode cX8_canJudge 13 = .ok (.iload_n 1, 1) := by decide +kernel
theorem dX8_canJudge_14 : decode cX8_canJudge 14 = .ok (.baload, 1) := by decide +kernel
theorem dX8_canJudge_15 : decode cX8_canJudge 15 = .ok (.ifCond .eq 7, 3) := by decide +kernel
theorem dX8_canJudge_18 : decode cX8_canJudge 18 = .ok (.iconst 1, 1) := by decide +kernel
theorem dX8_canJudge_19 : decode cX8_canJudge 19 = .ok (.goto 4, 3) := by decide +kernel
theorem dX8_canJudge_22 : decode cX8_canJudge 22 = .ok (.iconst 0, 1) := by decide +kernel
theorem dX8_canJudge_23 : decode cX8_canJudge 23 = .ok (.ireturn, 1) := by decide +kernel
theorem dX8_appear_0 : decode cX8_appear 0 = .ok (.aload_n 0, 1) := by decide +kernel
theorem dX8_appear_1 : decode cX8_appear 1 = .ok (.iload_n 1, 1) := by decide +kernel
theorem dX8_appear_2 : decode cX8_appear 2 = .ok (.invokevirtual 259, 3) := by decide +kernel
theorem dX8_appear_5 : decode cX8_appear 5 = .ok (.istore_n 2, 1) := by decide +kernel
theorem dX8_appear_6 : decode cX8_appear 6 = .ok (.aload_n 0, 1) := by decide +kernel
theorem dX8_appear_7 : decode cX8_appear 7 = .ok (.iload_n 2, 1) := by decide +kernel
theorem dX8_appear_8 : decode cX8_appear 8 = .ok (.ifCond .ne 7, 3) := by decide +kernel
theorem dX8_appear_11 : decode cX8_appear 11 = .ok (.iconst 1, 1) := by decide +kernel
theorem dX8_appear_12 : decode cX8_appear 12 = .ok (.goto 31, 3) := by decide +kernel
theorem dX8_appear_15 : decode cX8_appear 15 = .ok (.aload_n 0, 1) := by decide +kernel
theorem dX8_appear_16 : decode cX8_appear 16 = .ok (.getfield 106, 3) := by decide +kernel
theorem dX8_appear_19 : decode cX8_appear 19 = .ok (.iload_n 1, 1) := by decide +kernel
theorem dX8_appear_20 : decode cX8_appear 20 = .ok (.iaload, 1) := by decide +kernel
theorem dX8_appear_21 : decode cX8_appear 21 = .ok (.ifCond .ne 17, 3) := by decide +kernel
theorem dX8_appear_24 : decode cX8_appear 24 = .ok (.aload_n 0, 1) := by decide +kernel
theorem dX8_appear_25 : decode cX8_appear 25 = .ok (.getfield 47, 3) := by decide +kernel
theorem dX8_appear_28 : decode cX8_appear 28 = .ok (.aload_n 0, 1) := by decide +kernel
theorem dX8_appear_29 : decode cX8_appear 29 = .ok (.getfield 94, 3) := by decide +kernel
theorem dX8_appear_32 : decode cX8_appear 32 = .ok (.iload_n 1, 1) := by decide +kernel
theorem dX8_appear_33 : decode cX8_appear 33 = .ok (.iaload, 1) := by decide +kernel
theorem dX8_appear_34 : decode cX8_appear 34 = .ok (.baload, 1) := by decide +kernel
theorem dX8_appear_35 : decode cX8_appear 35 = .ok (.ifCond .eq 7, 3) := by decide +kernel
theorem dX8_appear_38 : decode cX8_appear 38 = .ok (.iconst 2, 1) := by decide +kernel
theorem dX8_appear_39 : decode cX8_appear 39 = .ok (.goto 4, 3) := by decide +kernel
theorem dX8_appear_42 : decode cX8_appear 42 = .ok (.iconst 0, 1) := by decide +kernel
theorem dX8_appear_43 : decode cX8_appear 43 = .ok (.invokevirtual 157, 3) := by decide +kernel
theorem dX8_appear_46 : decode cX8_appear 46 = .ok (.ifCond .ne 5, 3) := by decide +kernel
theorem dX8_appear_49 : decode cX8_appear 49 = .ok (.iconst 0, 1) := by decide +kernel
theorem dX8_appear_50 : decode cX8_appear 50 = .ok (.ireturn, 1) := by decide +kernel
theorem dX8_appear_51 : decode cX8_appear 51 = .ok (.aload_n 0, 1) := by decide +kernel
theorem dX8_appear_52 : decode cX8_appear 52 = .ok (.iload_n 1, 1) := by decide +kernel
theorem dX8_appear_53 : decode cX8_appear 53 = .ok (.invokevirtual 262, 3) := by decide +kernel
theorem dX8_appear_56 : decode cX8_appear 56 = .ok (.istore_n 3, 1) := by decide +kernel
theorem dX8_appear_57 : decode cX8_appear 57 = .ok (.aload_n 0, 1) := by decide +kernel
theorem dX8_appear_58 : decode cX8_appear 58 = .ok (.getfield 109, 3) := by decide +kernel
theorem dX8_appear_61 : decode cX8_appear 61 = .ok (.iload_n 1, 1) := by decide +kernel
theorem dX8_appear_62 : decode cX8_appear 62 = .ok (.iconst 1, 1) := by decide +kernel
theorem dX8_appear_63 : decode cX8_appear 63 = .ok (.bastore, 1) := by decide +kernel
theorem dX8_appear_64 : decode cX8_appear 64 = .ok (.iload_n 3, 1) := by decide +kernel
theorem dX8_appear_65 : decode cX8_appear 65 = .ok (.ifCond .ne 7, 3) := by decide +kernel
theorem dX8_appear_68 : decode cX8_appear 68 = .ok (.iconst 1, 1) := by decide +kernel
theorem dX8_appear_69 : decode cX8_appear 69 = .ok (.goto 4, 3) := by decide +kernel
theorem dX8_appear_72 : decode cX8_appear 72 = .ok (.iconst 0, 1) := by decide +kernel
theorem dX8_appear_73 : decode cX8_appear 73 = .ok (.ireturn, 1) := by decide +kernel
theorem dX8_heard_0 : decode cX8_heard 0 = .ok (.iconst 0, 1) := by decide +kernel
theorem dX8_heard_1 : decode cX8_heard 1 = .ok (.istore_n 2, 1) := by decide +kernel
theorem dX8_heard_2 : decode cX8_heard 2 = .ok (.bipush 40, 2) := by decide +kernel
theorem dX8_heard_4 : decode cX8_heard 4 = .ok (.iload_n 1, 1) := by decide +kernel
theorem dX8_heard_5 : decode cX8_heard 5 = .ok (.imul, 1) := by decide +kernel
theorem dX8_heard_6 : decode cX8_heard 6 = .ok (.istore_n 3, 1) := by decide +kernel
theorem dX8_heard_7 : decode cX8_heard 7 = .ok (.iload_n 3, 1) := by decide +kernel
theorem dX8_heard_8 : decode cX8_heard 8 = .ok (.bipush 40, 2) := by decide +kernel
theorem dX8_heard_10 : decode cX8_heard 10 = .ok (.iload_n 1, 1) := by decide +kernel
theorem dX8_heard_11 : decode cX8_heard 11 = .ok (.iconst 1, 1) := by decide +kernel
theorem dX8_heard_12 : decode cX8_heard 12 = .ok (.iadd, 1) := by decide +kernel
theorem dX8_heard_13 : decode cX8_heard 13 = .ok (.imul, 1) := by decide +kernel
theorem dX8_heard_14 : decode cX8_heard 14 = .ok (.if_icmp .ge 26, 3) := by decide +kernel
theorem dX8_heard_17 : decode cX8_heard 17 = .ok (.iload_n 2, 1) := by decide +kernel
theorem dX8_heard_18 : decode cX8_heard 18 = .ok (.aload_n 0, 1) := by decide +kernel
theorem dX8_heard_19 : decode cX8_heard 19 = .ok (.getfield 112, 3) := by decide +kernel
theorem dX8_heard_22 : decode cX8_heard 22 = .ok (.iload_n 3, 1) := by decide +kernel
theorem dX8_heard_23 : decode cX8_heard 23 = .ok (.iaload, 1) := by decide +kernel
theorem dX8_heard_24 : decode cX8_heard 24 = .ok (.ifCond .eq 7, 3) := by decide +kernel
theorem dX8_heard_27 : decode cX8_heard 27 = .ok (.iconst 1, 1) := by decide +kernel
theorem dX8_heard_28 : decode cX8_heard 28 = .ok (.goto 4, 3) := by decide +kernel
theorem dX8_heard_31 : decode cX8_heard 31 = .ok (.iconst 0, 1) := by decide +kernel
theorem dX8_heard_32 : decode cX8_heard 32 = .ok (.iadd, 1) := by decide +kernel
theorem dX8_heard_33 : decode cX8_heard 33 = .ok (.istore_n 2, 1) := by decide +kernel
theorem dX8_heard_34 : decode cX8_heard 34 = .ok (.iinc 3 1, 3) := by decide +kernel
theorem dX8_heard_37 : decode cX8_heard 37 = .ok (.goto (-30), 3) := by decide +kernel
theorem dX8_heard_40 : decode cX8_heard 40 = .ok (.iload_n 2, 1) := by decide +kernel
theorem dX8_heard_41 : decode cX8_heard 41 = .ok (.ireturn, 1) := by decide +kernel
theorem dX8_canTestify_0 : decode cX8_canTestify 0 = .ok (.aload_n 0, 1) := by decide +kernel
theorem dX8_canTestify_1 : decode cX8_canTestify 1 = .ok (.getfield 106, 3) := by decide +kernel
theorem dX8_canTestify_4 : decode cX8_canTestify 4 = .ok (.iload_n 1, 1) := by decide +kernel
theorem dX8_canTestify_5 : decode cX8_canTestify 5 = .ok (.iaload, 1) := by decide +kernel
theorem dX8_canTestify_6 : decode cX8_canTestify 6 = .ok (.ifCond .ne 49, 3) := by decide +kernel
theorem dX8_canTestify_9 : decode cX8_canTestify 9 = .ok (.aload_n 0, 1) := by decide +kernel
theorem dX8_canTestify_10 : decode cX8_canTestify 10 = .ok (.iload_n 2, 1) := by decide +kernel
theorem dX8_canTestify_11 : decode cX8_canTestify 11 = .ok (.invokevirtual 205, 3) := by decide +kernel
theorem dX8_canTestify_14 : decode cX8_canTestify 14 = .ok (.ifCond .eq 41, 3) := by decide +kernel
theorem dX8_canTestify_17 : decode cX8_canTestify 17 = .ok (.aload_n 0, 1) := by decide +kernel
theorem dX8_canTestify_18 : decode cX8_canTestify 18 = .ok (.getfield 91, 3) := by decide +kernel
theorem dX8_canTestify_21 : decode cX8_canTestify 21 = .ok (.iload_n 1, 1) := by decide +kernel
theorem dX8_canTestify_22 : decode cX8_canTestify 22 = .ok (.iaload, 1) := by decide +kernel
theorem dX8_canTestify_23 : decode cX8_canTestify 23 = .ok (.iload_n 2, 1) := by decide +kernel
theorem dX8_canTestify_24 : decode cX8_canTestify 24 = .ok (.if_icmp .eq 31, 3) := by decide +kernel
theorem dX8_canTestify_27 : decode cX8_canTestify 27 = .ok (.aload_n 0, 1) := by decide +kernel
theorem dX8_canTestify_28 : decode cX8_canTestify 28 = .ok (.getfield 94, 3) := by decide +kernel
theorem dX8_canTestify_31 : decode cX8_canTestify 31 = .ok (.iload_n 1, 1) := by decide +kernel
theorem dX8_canTestify_32 : decode cX8_canTestify 32 = .ok (.iaload, 1) := by decide +kernel
theorem dX8_canTestify_33 : decode cX8_canTestify 33 = .ok (.iload_n 2, 1) := by decide +kernel
theorem dX8_canTestify_34 : decode cX8_canTestify 34 = .ok (.if_icmp .eq 21, 3) := by decide +kernel
theorem dX8_canTestify_37 : decode cX8_canTestify 37 = .ok (.aload_n 0, 1) := by decide +kernel
theorem dX8_canTestify_38 : decode cX8_canTestify 38 = .ok (.getfield 112, 3) := by decide +kernel
theorem dX8_canTestify_41 : decode cX8_canTestify 41 = .ok (.bipush 40, 2) := by decide +kernel
theorem dX8_canTestify_43 : decode cX8_canTestify 43 = .ok (.iload_n 1, 1) := by decide +kernel
theorem dX8_canTestify_44 : decode cX8_canTestify 44 = .ok (.imul, 1) := by decide +kernel
theorem dX8_canTestify_45 : decode cX8_canTestify 45 = .ok (.iload_n 2, 1) := by decide +kernel
theorem dX8_canTestify_46 : decode cX8_canTestify 46 = .ok (.iadd, 1) := by decide +kernel
theorem dX8_canTestify_47 : decode cX8_canTestify 47 = .ok (.iaload, 1) := by decide +kernel
theorem dX8_canTestify_48 : decode cX8_canTestify 48 = .ok (.ifCond .ne 7, 3) := by decide +kernel
theorem dX8_canTestify_51 : decode cX8_canTestify 51 = .ok (.iconst 1, 1) := by decide +kernel
theorem dX8_canTestify_52 : decode cX8_canTestify 52 = .ok (.goto 4, 3) := by decide +kernel
theorem dX8_canTestify_55 : decode cX8_canTestify 55 = .ok (.iconst 0, 1) := by decide +kernel
theorem dX8_canTestify_56 : decode cX8_canTestify 56 = .ok (.ireturn, 1) := by decide +kernel
theorem dX8_testify_0 : decode cX8_testify 0 = .ok (.aload_n 0, 1) := by decide +kernel
theorem dX8_testify_1 : decode cX8_testify 1 = .ok (.iload_n 1, 1) := by decide +kernel
theorem dX8_testify_2 : decode cX8_testify 2 = .ok (.invokevirtual 259, 3) := by decide +kernel
theorem dX8_testify_5 : decode cX8_testify 5 = .ok (.ifCond .eq 15, 3) := by decide +kernel
theorem dX8_testify_8 : decode cX8_testify 8 = .ok (.aload_n 0, 1) := by decide +kernel
theorem dX8_testify_9 : decode cX8_testify 9 = .ok (.iload_n 2, 1) := by decide +kernel
theorem dX8_testify_10 : decode cX8_testify 10 = .ok (.invokevirtual 191, 3) := by decide +kernel
theorem dX8_testify_13 : decode cX8_testify 13 = .ok (.ifCond .eq 7, 3) := by decide +kernel
theorem dX8_testify_16 : decode cX8_testify 16 = .ok (.iconst 1, 1) := by decide +kernel
theorem dX8_testify_17 : decode cX8_testify 17 = .ok (.goto 4, 3) := by decide +kernel
theorem dX8_testify_20 : decode cX8_testify 20 = .ok (.iconst 0, 1) := by decide +kernel
theorem dX8_testify_21 : decode cX8_testify 21 = .ok (.istore 4, 2) := by decide +kernel
theorem dX8_testify_23 : decode cX8_testify 23 = .ok (.aload_n 0, 1) := by decide +kernel
theorem dX8_testify_24 : decode cX8_testify 24 = .ok (.iload 4, 2) := by decide +kernel
theorem dX8_testify_26 : decode cX8_testify 26 = .ok (.ifCond .ne 7, 3) := by decide +kernel
theorem dX8_testify_29 : decode cX8_testify 29 = .ok (.iconst 1, 1) := by decide +kernel
theorem dX8_testify_30 : decode cX8_testify 30 = .ok (.goto 17, 3) := by decide +kernel
theorem dX8_testify_33 : decode cX8_testify 33 = .ok (.aload_n 0, 1) := by decide +kernel
theorem dX8_testify_34 : decode cX8_testify 34 = .ok (.iload_n 1, 1) := by decide +kernel
theorem dX8_testify_35 : decode cX8_testify 35 = .ok (.iload_n 2, 1) := by decide +kernel
theorem dX8_testify_36 : decode cX8_testify 36 = .ok (.invokevirtual 265, 3) := by decide +kernel
theorem dX8_testify_39 : decode cX8_testify 39 = .ok (.ifCond .eq 7, 3) := by decide +kernel
theorem dX8_testify_42 : decode cX8_testify 42 = .ok (.iconst 0, 1) := by decide +kernel
theorem dX8_testify_43 : decode cX8_testify 43 = .ok (.goto 4, 3) := by decide +kernel
theorem dX8_testify_46 : decode cX8_testify 46 = .ok (.iconst 2, 1) := by decide +kernel
theorem dX8_testify_47 : decode cX8_testify 47 = .ok (.invokevirtual 157, 3) := by decide +kernel
theorem dX8_testify_50 : decode cX8_testify 50 = .ok (.ifCond .ne 5, 3) := by decide +kernel
theorem dX8_testify_53 : decode cX8_testify 53 = .ok (.iconst 0, 1) := by decide +kernel
theorem dX8_testify_54 : decode cX8_testify 54 = .ok (.ireturn, 1) := by decide +kernel
theorem dX8_testify_55 : decode cX8_testify 55 = .ok (.aload_n 0, 1) := by decide +kernel
theorem dX8_testify_56 : decode cX8_testify 56 = .ok (.getfield 112, 3) := by decide +kernel
theorem dX8_testify_59 : decode cX8_testify 59 = .ok (.bipush 40, 2) := by decide +kernel
theorem dX8_testify_61 : decode cX8_testify 61 = .ok (.iload_n 1, 1) := by decide +kernel
theorem dX8_testify_62 : decode cX8_testify 62 = .ok (.imul, 1) := by decide +kernel
theorem dX8_testify_63 : decode cX8_testify 63 = .ok (.iload_n 2, 1) := by decide +kernel
theorem dX8_testify_64 : decode cX8_testify 64 = .ok (.iadd, 1) := by decide +kernel
theorem dX8_testify_65 : decode cX8_testify 65 = .ok (.iload_n 3, 1) := by decide +kernel
theorem dX8_testify_66 : decode cX8_testify 66 = .ok (.ifCond .eq 7, 3) := by decide +kernel
theorem dX8_testify_69 : decode cX8_testify 69 = .ok (.iconst 1, 1) := by decide +kernel
theorem dX8_testify_70 : decode cX8_testify 70 = .ok (.goto 4, 3) := by decide +kernel
theorem dX8_testify_73 : decode cX8_testify 73 = .ok (.iconst 2, 1) := by decide +kernel
theorem dX8_testify_74 : decode cX8_testify 74 = .ok (.iastore, 1) := by decide +kernel
theorem dX8_testify_75 : decode cX8_testify 75 = .ok (.aload_n 0, 1) := by decide +kernel
theorem dX8_testify_76 : decode cX8_testify 76 = .ok (.iload_n 1, 1) := by decide +kernel
theorem dX8_testify_77 : decode cX8_testify 77 = .ok (.invokevirtual 268, 3) := by decide +kernel
theorem dX8_testify_80 : decode cX8_testify 80 = .ok (.ireturn, 1) := by decide +kernel
theorem dX8_isWonAt_0 : decode cX8_isWonAt 0 = .ok (.aload_n 0, 1) := by decide +kernel
theorem dX8_isWonAt_1 : decode cX8_isWonAt 1 = .ok (.iload_n 2, 1) := by decide +kernel
theorem dX8_isWonAt_2 : decode cX8_isWonAt 2 = .ok (.bipush 6, 2) := by decide +kernel
theorem dX8_isWonAt_4 : decode cX8_isWonAt 4 = .ok (.aload_n 0, 1) := by decide +kernel
theorem dX8_isWonAt_5 : decode cX8_isWonAt 5 = .ok (.getfield 154, 3) := by decide +kernel
theorem dX8_isWonAt_8 : decode cX8_isWonAt 8 = .ok (.invokevirtual 177, 3) := by decide +kernel
theorem dX8_isWonAt_11 : decode cX8_isWonAt 11 = .ok (.istore_n 3, 1) := by decide +kernel
theorem dX8_isWonAt_12 : decode cX8_isWonAt 12 = .ok (.iconst 0, 1) := by decide +kernel
theorem dX8_isWonAt_13 : decode cX8_isWonAt 13 = .ok (.istore 4, 2) := by decide +kernel
theorem dX8_isWonAt_15 : decode cX8_isWonAt 15 = .ok (.iconst 0, 1) := by decide +kernel
theorem dX8_isWonAt_16 : decode cX8_isWonAt 16 = .ok (.istore 5, 2) := by decide +kernel
theorem dX8_isWonAt_18 : decode cX8_isWonAt 18 = .ok (.iconst 0, 1) := by decide +kernel
theorem dX8_isWonAt_19 : decode cX8_isWonAt 19 = .ok (.istore 6, 2) := by decide +kernel
theorem dX8_isWonAt_21 : decode cX8_isWonAt 21 = .ok (.iload 6, 2) := by decide +kernel
theorem dX8_isWonAt_23 : decode cX8_isWonAt 23 = .ok (.aload_n 0, 1) := by decide +kernel
theorem dX8_isWonAt_24 : decode cX8_isWonAt 24 = .ok (.getfield 145, 3) := by decide +kernel
theorem dX8_isWonAt_27 : decode cX8_isWonAt 27 = .ok (.if_icmp .ge 91, 3) := by decide +kernel
theorem dX8_isWonAt_30 : decode cX8_isWonAt 30 = .ok (.aload_n 0, 1) := by decide +kernel
theorem dX8_isWonAt_31 : decode cX8_isWonAt 31 = .ok (.getfield 112, 3) := by decide +kernel
theorem dX8_isWonAt_34 : decode cX8_isWonAt 34 = .ok (.bipush 40, 2) := by decide +kernel
theorem dX8_isWonAt_36 : decode cX8_isWonAt 36 = .ok (.iload_n 1, 1) := by decide +kernel
theorem dX8_isWonAt_37 : decode cX8_isWonAt 37 = .ok (.imul, 1) := by decide +kernel
theorem dX8_isWonAt_38 : decode cX8_isWonAt 38 = .ok (.iload 6, 2) := by decide +kernel
theorem dX8_isWonAt_40 : decode cX8_isWonAt 40 = .ok (.iadd, 1) := by decide +kernel
theorem dX8_isWonAt_41 : decode cX8_isWonAt 41 = .ok (.iaload, 1) := by decide +kernel
theorem dX8_isWonAt_42 : decode cX8_isWonAt 42 = .ok (.istore 7, 2) := by decide +kernel
theorem dX8_isWonAt_44 : decode cX8_isWonAt 44 = .ok (.iload 7, 2) := by decide +kernel
theorem dX8_isWonAt_46 : decode cX8_isWonAt 46 = .ok (.ifCond .ne 7, 3) := by decide +kernel
theorem dX8_isWonAt_49 : decode cX8_isWonAt 49 = .ok (.iconst 0, 1) := by decide +kernel
theorem dX8_isWonAt_50 : decode cX8_isWonAt 50 = .ok (.goto 26, 3) := by decide +kernel
theorem dX8_isWonAt_53 : decode cX8_isWonAt 53 = .ok (.iload_n 3, 1) := by decide +kernel
theorem dX8_isWonAt_54 : decode cX8_isWonAt 54 = .ok (.aload_n 0, 1) := by decide +kernel
theorem dX8_isWonAt_55 : decode cX8_isWonAt 55 = .ok (.iload 6, 2) := by decide +kernel
theorem dX8_isWonAt_57 : decode cX8_isWonAt 57 = .ok (.aload_n 0, 1) := by decide +kernel
theorem dX8_isWonAt_58 : decode cX8_isWonAt 58 = .ok (.getfield 154, 3) := by decide +kernel
theorem dX8_isWonAt_61 : decode cX8_isWonAt 61 = .ok (.invokevirtual 188, 3) := by decide +kernel
theorem dX8_isWonAt_64 : decode cX8_isWonAt 64 = .ok (.ishr, 1) := by decide +kernel
theorem dX8_isWonAt_65 : decode cX8_isWonAt 65 = .ok (.iconst 1, 1) := by decide +kernel
theorem dX8_isWonAt_66 : decode cX8_isWonAt 66 = .ok (.iand, 1) := by decide +kernel
theorem dX8_isWonAt_67 : decode cX8_isWonAt 67 = .ok (.iconst 1, 1) := by decide +kernel
theorem dX8_isWonAt_68 : decode cX8_isWonAt 68 = .ok (.if_icmp .ne 7, 3) := by decide +kernel
theorem dX8_isWonAt_71 : decode cX8_isWonAt 71 = .ok (.iconst 2, 1) := by decide +kernel
theorem dX8_isWonAt_72 : decode cX8_isWonAt 72 = .ok (.goto 4, 3) := by decide +kernel
theorem dX8_isWonAt_75 : decode cX8_isWonAt 75 = .ok (.iconst 1, 1) := by decide +kernel
theorem dX8_isWonAt_76 : decode cX8_isWonAt 76 = .ok (.istore 8, 2) := by decide +kernel
theorem dX8_isWonAt_78 : decode cX8_isWonAt 78 = .ok (.iload 4, 2) := by decide +kernel
theorem dX8_isWonAt_80 : decode cX8_isWonAt 80 = .ok (.iload 7, 2) := by decide +kernel
theorem dX8_isWonAt_82 : decode cX8_isWonAt 82 = .ok (.iconst 1, 1) := by decide +kernel
theorem dX8_isWonAt_83 : decode cX8_isWonAt 83 = .ok (.if_icmp .ne 8, 3) := by decide +kernel
theorem dX8_isWonAt_86 : decode cX8_isWonAt 86 = .ok (.iload 8, 2) := by decide +kernel
theorem dX8_isWonAt_88 : decode cX8_isWonAt 88 = .ok (.goto 4, 3) := by decide +kernel
theorem dX8_isWonAt_91 : decode cX8_isWonAt 91 = .ok (.iconst 0, 1) := by decide +kernel
theorem dX8_isWonAt_92 : decode cX8_isWonAt 92 = .ok (.iadd, 1) := by decide +kernel
theorem dX8_isWonAt_93 : decode cX8_isWonAt 93 = .ok (.istore 4, 2) := by decide +kernel
theorem dX8_isWonAt_95 : decode cX8_isWonAt 95 = .ok (.iload 5, 2) := by decide +kernel
theorem dX8_isWonAt_97 : decode cX8_isWonAt 97 = .ok (.iload 7, 2) := by decide +kernel
theorem dX8_isWonAt_99 : decode cX8_isWonAt 99 = .ok (.iconst 2, 1) := by decide +kernel
theorem dX8_isWonAt_100 : decode cX8_isWonAt 100 = .ok (.if_icmp .ne 8, 3) := by decide +kernel
theorem dX8_isWonAt_103 : decode cX8_isWonAt 103 = .ok (.iload 8, 2) := by decide +kernel
theorem dX8_isWonAt_105 : decode cX8_isWonAt 105 = .ok (.goto 4, 3) := by decide +kernel
theorem dX8_isWonAt_108 : decode cX8_isWonAt 108 = .ok (.iconst 0, 1) := by decide +kernel
theorem dX8_isWonAt_109 : decode cX8_isWonAt 109 = .ok (.iadd, 1) := by decide +kernel
theorem dX8_isWonAt_110 : decode cX8_isWonAt 110 = .ok (.istore 5, 2) := by decide +kernel
theorem dX8_isWonAt_112 : decode cX8_isWonAt 112 = .ok (.iinc 6 1, 3) := by decide +kernel
theorem dX8_isWonAt_115 : decode cX8_isWonAt 115 = .ok (.goto (-94), 3) := by decide +kernel
theorem dX8_isWonAt_118 : decode cX8_isWonAt 118 = .ok (.iload 4, 2) := by decide +kernel
theorem dX8_isWonAt_120 : decode cX8_isWonAt 120 = .ok (.iload 5, 2) := by decide +kernel
theorem dX8_isWonAt_122 : decode cX8_isWonAt 122 = .ok (.if_icmp .le 13, 3) := by decide +kernel
theorem dX8_isWonAt_125 : decode cX8_isWonAt 125 = .ok (.iload 4, 2) := by decide +kernel
theorem dX8_isWonAt_127 : decode cX8_isWonAt 127 = .ok (.iconst 4, 1) := by decide +kernel
theorem dX8_isWonAt_128 : decode cX8_isWonAt 128 = .ok (.if_icmp .lt 7, 3) := by decide +kernel
theorem dX8_isWonAt_131 : decode cX8_isWonAt 131 = .ok (.iconst 1, 1) := by decide +kernel
theorem dX8_isWonAt_132 : decode cX8_isWonAt 132 = .ok (.goto 4, 3) := by decide +kernel
theorem dX8_isWonAt_135 : decode cX8_isWonAt 135 = .ok (.iconst 0, 1) := by decide +kernel
theorem dX8_isWonAt_136 : decode cX8_isWonAt 136 = .ok (.ireturn, 1) := by decide +kernel
theorem dX8_judge_0 : decode cX8_judge 0 = .ok (.aload_n 0, 1) := by decide +kernel
theorem dX8_judge_1 : decode cX8_judge 1 = .ok (.iload_n 1, 1) := by decide +kernel
theorem dX8_judge_2 : decode cX8_judge 2 = .ok (.invokevirtual 259, 3) := by decide +kernel
theorem dX8_judge_5 : decode cX8_judge 5 = .ok (.istore_n 2, 1) := by decide +kernel
theorem dX8_judge_6 : decode cX8_judge 6 = .ok (.aload_n 0, 1) := by decide +kernel
theorem dX8_judge_7 : decode cX8_judge 7 = .ok (.iload_n 2, 1) := by decide +kernel
theorem dX8_judge_8 : decode cX8_judge 8 = .ok (.ifCond .ne 7, 3) := by decide +kernel
theorem dX8_judge_11 : decode cX8_judge 11 = .ok (.iconst 1, 1) := by decide +kernel
theorem dX8_judge_12 : decode cX8_judge 12 = .ok (.goto 25, 3) := by decide +kernel
theorem dX8_judge_15 : decode cX8_judge 15 = .ok (.aload_n 0, 1) := by decide +kernel
theorem dX8_judge_16 : decode cX8_judge 16 = .ok (.getfield 106, 3) := by decide +kernel
theorem dX8_judge_19 : decode cX8_judge 19 = .ok (.iload_n 1, 1) := by decide +kernel
theorem dX8_judge_20 : decode cX8_judge 20 = .ok (.iaload, 1) := by decide +kernel
theorem dX8_judge_21 : decode cX8_judge 21 = .ok (.ifCond .ne 11, 3) := by decide +kernel
theorem dX8_judge_24 : decode cX8_judge 24 = .ok (.aload_n 0, 1) := by decide +kernel
theorem dX8_judge_25 : decode cX8_judge 25 = .ok (.iload_n 1, 1) := by decide +kernel
theorem dX8_judge_26 : decode cX8_judge 26 = .ok (.invokevirtual 262, 3) := by decide +kernel
theorem dX8_judge_29 : decode cX8_judge 29 = .ok (.ifCond .ne 7, 3) := by decide +kernel
theorem dX8_judge_32 : decode cX8_judge 32 = .ok (.iconst 2, 1) := by decide +kernel
theorem dX8_judge_33 : decode cX8_judge 33 = .ok (.goto 4, 3) := by decide +kernel
theorem dX8_judge_36 : decode cX8_judge 36 = .ok (.iconst 0, 1) := by decide +kernel
theorem dX8_judge_37 : decode cX8_judge 37 = .ok (.invokevirtual 157, 3) := by decide +kernel
theorem dX8_judge_40 : decode cX8_judge 40 = .ok (.ifCond .ne 5, 3) := by decide +kernel
theorem dX8_judge_43 : decode cX8_judge 43 = .ok (.iconst 0, 1) := by decide +kernel
theorem dX8_judge_44 : decode cX8_judge 44 = .ok (.ireturn, 1) := by decide +kernel
theorem dX8_judge_45 : decode cX8_judge 45 = .ok (.aload_n 0, 1) := by decide +kernel
theorem dX8_judge_46 : decode cX8_judge 46 = .ok (.iload_n 1, 1) := by decide +kernel
theorem dX8_judge_47 : decode cX8_judge 47 = .ok (.aload_n 0, 1) := by decide +kernel
theorem dX8_judge_48 : decode cX8_judge 48 = .ok (.getfield 97, 3) := by decide +kernel
theorem dX8_judge_51 : decode cX8_judge 51 = .ok (.iload_n 1, 1) := by decide +kernel
theorem dX8_judge_52 : decode cX8_judge 52 = .ok (.iaload, 1) := by decide +kernel
theorem dX8_judge_53 : decode cX8_judge 53 = .ok (.invokevirtual 271, 3) := by decide +kernel
theorem dX8_judge_56 : decode cX8_judge 56 = .ok (.istore_n 3, 1) := by decide +kernel
theorem dX8_judge_57 : decode cX8_judge 57 = .ok (.aload_n 0, 1) := by decide +kernel
theorem dX8_judge_58 : decode cX8_judge 58 = .ok (.getfield 106, 3) := by decide +kernel
theorem dX8_judge_61 : decode cX8_judge 61 = .ok (.iload_n 1, 1) := by decide +kernel
theorem dX8_judge_62 : decode cX8_judge 62 = .ok (.iload_n 3, 1) := by decide +kernel
theorem dX8_judge_63 : decode cX8_judge 63 = .ok (.ifCond .eq 7, 3) := by decide +kernel
theorem dX8_judge_66 : decode cX8_judge 66 = .ok (.iconst 2, 1) := by decide +kernel
theorem dX8_judge_67 : decode cX8_judge 67 = .ok (.goto 4, 3) := by decide +kernel
theorem dX8_judge_70 : decode cX8_judge 70 = .ok (.iconst 3, 1) := by decide +kernel
theorem dX8_judge_71 : decode cX8_judge 71 = .ok (.iastore, 1) := by decide +kernel
theorem dX8_judge_72 : decode cX8_judge 72 = .ok (.aload_n 0, 1) := by decide +kernel
theorem dX8_judge_73 : decode cX8_judge 73 = .ok (.getfield 115, 3) := by decide +kernel
theorem dX8_judge_76 : decode cX8_judge 76 = .ok (.iload_n 1, 1) := by decide +kernel
theorem dX8_judge_77 : decode cX8_judge 77 = .ok (.iload_n 3, 1) := by decide +kernel
theorem dX8_judge_78 : decode cX8_judge 78 = .ok (.ifCond .eq 13, 3) := by decide +kernel
theorem dX8_judge_81 : decode cX8_judge 81 = .ok (.aload_n 0, 1) := by decide +kernel
theorem dX8_judge_82 : decode cX8_judge 82 = .ok (.getfield 100, 3) := by decide +kernel
theorem dX8_judge_85 : decode cX8_judge 85 = .ok (.iload_n 1, 1) := by decide +kernel
theorem dX8_judge_86 : decode cX8_judge 86 = .ok (.iaload, 1) := by decide +kernel
theorem dX8_judge_87 : decode cX8_judge 87 = .ok (.i2l, 1) := by decide +kernel
theorem dX8_judge_88 : decode cX8_judge 88 = .ok (.goto 4, 3) := by decide +kernel
theorem dX8_judge_91 : decode cX8_judge 91 = .ok (.lconst 0, 1) := by decide +kernel
theorem dX8_judge_92 : decode cX8_judge 92 = .ok (.lastore, 1) := by decide +kernel
theorem dX8_judge_93 : decode cX8_judge 93 = .ok (.aload_n 0, 1) := by decide +kernel
theorem dX8_judge_94 : decode cX8_judge 94 = .ok (.getfield 121, 3) := by decide +kernel
theorem dX8_judge_97 : decode cX8_judge 97 = .ok (.iload_n 1, 1) := by decide +kernel
theorem dX8_judge_98 : decode cX8_judge 98 = .ok (.aload_n 0, 1) := by decide +kernel
theorem dX8_judge_99 : decode cX8_judge 99 = .ok (.getfield 154, 3) := by decide +kernel
theorem dX8_judge_102 : decode cX8_judge 102 = .ok (.iastore, 1) := by decide +kernel
theorem dX8_judge_103 : decode cX8_judge 103 = .ok (.iload_n 3, 1) := by decide +kernel
theorem dX8_judge_104 : decode cX8_judge 104 = .ok (.ireturn, 1) := by decide +kernel
theorem dX8_bothLive_0 : decode cX8_bothLive 0 = .ok (.aload_n 0, 1) := by decide +kernel
theorem dX8_bothLive_1 : decode cX8_bothLive 1 = .ok (.getfield 47, 3) := by decide +kernel
theorem dX8_bothLive_4 : decode cX8_bothLive 4 = .ok (.aload_n 0, 1) := by decide +kernel
theorem dX8_bothLive_5 : decode cX8_bothLive 5 = .ok (.getfield 91, 3) := by decide +kernel
theorem dX8_bothLive_8 : decode cX8_bothLive 8 = .ok (.iload_n 1, 1) := by decide +kernel
theorem dX8_bothLive_9 : decode cX8_bothLive 9 = .ok (.iaload, 1) := by decide +kernel
theorem dX8_bothLive_10 : decode cX8_bothLive 10 = .ok (.baload, 1) := by decide +kernel
theorem dX8_bothLive_11 : decode cX8_bothLive 11 = .ok (.ifCond .ne 21, 3) := by decide +kernel
theorem dX8_bothLive_14 : decode cX8_bothLive 14 = .ok (.aload_n 0, 1) := by decide +kernel
theorem dX8_bothLive_15 : decode cX8_bothLive 15 = .ok (.getfield 47, 3) := by decide +kernel
theorem dX8_bothLive_18 : decode cX8_bothLive 18 = .ok (.aload_n 0, 1) := by decide +kernel
theorem dX8_bothLive_19 : decode cX8_bothLive 19 = .ok (.getfield 94, 3) := by decide +kernel
theorem dX8_bothLive_22 : decode cX8_bothLive 22 = .ok (.iload_n 1, 1) := by decide +kernel
theorem dX8_bothLive_23 : decode cX8_bothLive 23 = .ok (.iaload, 1) := by decide +kernel
theorem dX8_bothLive_24 : decode cX8_bothLive 24 = .ok (.baload, 1) := by decide +kernel
theorem dX8_bothLive_25 : decode cX8_bothLive 25 = .ok (.ifCond .ne 7, 3) := by decide +kernel
theorem dX8_bothLive_28 : decode cX8_bothLive 28 = .ok (.iconst 1, 1) := by decide +kernel
theorem dX8_bothLive_29 : decode cX8_bothLive 29 = .ok (.goto 4, 3) := by decide +kernel
theorem dX8_bothLive_32 : decode cX8_bothLive 32 = .ok (.iconst 0, 1) := by decide +kernel
theorem dX8_bothLive_33 : decode cX8_bothLive 33 = .ok (.ireturn, 1) := by decide +kernel
theorem dX8_canAppeal_0 : decode cX8_canAppeal 0 = .ok (.aload_n 0, 1) := by decide +kernel
theorem dX8_canAppeal_1 : decode cX8_canAppeal 1 = .ok (.getfield 106, 3) := by decide +kernel
theorem dX8_canAppeal_4 : decode cX8_canAppeal 4 = .ok (.iload_n 1, 1) := by decide +kernel
theorem dX8_canAppeal_5 : decode cX8_canAppeal 5 = .ok (.iaload, 1) := by decide +kernel
theorem dX8_canAppeal_6 : decode cX8_canAppeal 6 = .ok (.iconst 2, 1) := by decide +kernel
theorem dX8_canAppeal_7 : decode cX8_canAppeal 7 = .ok (.if_icmp .lt 42, 3) := by decide +kernel
theorem dX8_canAppeal_10 : decode cX8_canAppeal 10 = .ok (.aload_n 0, 1) := by decide +kernel
theorem dX8_canAppeal_11 : decode cX8_canAppeal 11 = .ok (.getfield 97, 3) := by decide +kernel
theorem dX8_canAppeal_14 : decode cX8_canAppeal 14 = .ok (.iload_n 1, 1) := by decide +kernel
theorem dX8_canAppeal_15 : decode cX8_canAppeal 15 = .ok (.iaload, 1) := by decide +kernel
theorem dX8_canAppeal_16 : decode cX8_canAppeal 16 = .ok (.iconst (-1), 1) := by decide +kernel
theorem dX8_canAppeal_17 : decode cX8_canAppeal 17 = .ok (.if_icmp .eq 32, 3) := by decide +kernel
theorem dX8_canAppeal_20 : decode cX8_canAppeal 20 = .ok (.aload_n 0, 1) := by decide +kernel
theorem dX8_canAppeal_21 : decode cX8_canAppeal 21 = .ok (.getfield 124, 3) := by decide +kernel
theorem dX8_canAppeal_24 : decode cX8_canAppeal 24 = .ok (.iload_n 1, 1) := by decide +kernel
theorem dX8_canAppeal_25 : decode cX8_canAppeal 25 = .ok (.baload, 1) := by decide +kernel
theorem dX8_canAppeal_26 : decode cX8_canAppeal 26 = .ok (.ifCond .ne 23, 3) := by decide +kernel
theorem dX8_canAppeal_29 : decode cX8_canAppeal 29 = .ok (.aload_n 0, 1) := by decide +kernel
theorem dX8_canAppeal_30 : decode cX8_canAppeal 30 = .ok (.getfield 154, 3) := by decide +kernel
theorem dX8_canAppeal_33 : decode cX8_canAppeal 33 = .ok (.aload_n 0, 1) := by decide +kernel
theorem dX8_canAppeal_34 : decode cX8_canAppeal 34 = .ok (.getfield 121, 3) := by decide +kernel
theorem dX8_canAppeal_37 : decode cX8_canAppeal 37 = .ok (.iload_n 1, 1) := by decide +kernel
theorem dX8_canAppeal_38 : decode cX8_canAppeal 38 = .ok (.iaload, 1) := by decide +kernel
theorem dX8_canAppeal_39 : decode cX8_canAppeal 39 = .ok (.isub, 1) := by decide +kernel
theorem dX8_canAppeal_40 : decode cX8_canAppeal 40 = .ok (.bipush 60, 2) := by decide +kernel
theorem dX8_canAppeal_42 : decode cX8_canAppeal 42 = .ok (.if_icmp .gt 7, 3) := by decide +kernel
theorem dX8_canAppeal_45 : decode cX8_canAppeal 45 = .ok (.iconst 1, 1) := by decide +kernel
theorem dX8_canAppeal_46 : decode cX8_canAppeal 46 = .ok (.goto 4, 3) := by decide +kernel
theorem dX8_canAppeal_49 : decode cX8_canAppeal 49 = .ok (.iconst 0, 1) := by decide +kernel
theorem dX8_canAppeal_50 : decode cX8_canAppeal 50 = .ok (.ireturn, 1) := by decide +kernel
theorem dX8_goesBack_0 : decode cX8_goesBack 0 = .ok (.aload_n 0, 1) := by decide +kernel
theorem dX8_goesBack_1 : decode cX8_goesBack 1 = .ok (.getfield 50, 3) := by decide +kernel
theorem dX8_goesBack_4 : decode cX8_goesBack 4 = .ok (.aload_n 0, 1) := by decide +kernel
theorem dX8_goesBack_5 : decode cX8_goesBack 5 = .ok (.getfield 91, 3) := by decide +kernel
theorem dX8_goesBack_8 : decode cX8_goesBack 8 = .ok (.iload_n 1, 1) := by decide +kernel
theorem dX8_goesBack_9 : decode cX8_goesBack 9 = .ok (.iaload, 1) := by decide +kernel
theorem dX8_goesBack_10 : decode cX8_goesBack 10 = .ok (.laload, 1) := by decide +kernel
theorem dX8_goesBack_11 : decode cX8_goesBack 11 = .ok (.lstore_n 2, 1) := by decide +kernel
theorem dX8_goesBack_12 : decode cX8_goesBack 12 = .ok (.aload_n 0, 1) := by decide +kernel
theorem dX8_goesBack_13 : decode cX8_goesBack 13 = .ok (.iload_n 1, 1) := by decide +kernel
theorem dX8_goesBack_14 : decode cX8_goesBack 14 = .ok (.invokevirtual 274, 3) := by decide +kernel
theorem dX8_goesBack_17 : decode cX8_goesBack 17 = .ok (.ifCond .ne 7, 3) := by decide +kernel
theorem dX8_goesBack_20 : decode cX8_goesBack 20 = .ok (.lconst 0, 1) := by decide +kernel
theorem dX8_goesBack_21 : decode cX8_goesBack 21 = .ok (.goto 24, 3) := by decide +kernel
theorem dX8_goesBack_24 : decode cX8_goesBack 24 = .ok (.lload_n 2, 1) := by decide +kernel
theorem dX8_goesBack_25 : decode cX8_goesBack 25 = .ok (.aload_n 0, 1) := by decide +kernel
theorem dX8_goesBack_26 : decode cX8_goesBack 26 = .ok (.getfield 118, 3) := by decide +kernel
theorem dX8_goesBack_29 : decode cX8_goesBack 29 = .ok (.iload_n 1, 1) := by decide +kernel
theorem dX8_goesBack_30 : decode cX8_goesBack 30 = .ok (.laload, 1) := by decide +kernel
theorem dX8_goesBack_31 : decode cX8_goesBack 31 = .ok (.lcmp, 1) := by decide +kernel
theorem dX8_goesBack_32 : decode cX8_goesBack 32 = .ok (.ifCond .ge 7, 3) := by decide +kernel
theorem dX8_goesBack_35 : decode cX8_goesBack 35 = .ok (.lload_n 2, 1) := by decide +kernel
theorem dX8_goesBack_36 : decode cX8_goesBack 36 = .ok (.goto 9, 3) := by decide +kernel
theorem dX8_goesBack_39 : decode cX8_goesBack 39 = .ok (.aload_n 0, 1) := by decide +kernel
theorem dX8_goesBack_40 : decode cX8_goesBack 40 = .ok (.getfield 118, 3) := by decide +kernel
theorem dX8_goesBack_43 : decode cX8_goesBack 43 = .ok (.iload_n 1, 1) := by decide +kernel
theorem dX8_goesBack_44 : decode cX8_goesBack 44 = .ok (.laload, 1) := by decide +kernel
theorem dX8_goesBack_45 : decode cX8_goesBack 45 = .ok (.lstore 4, 2) := by decide +kernel
theorem dX8_goesBack_47 : decode cX8_goesBack 47 = .ok (.aload_n 0, 1) := by decide +kernel
theorem dX8_goesBack_48 : decode cX8_goesBack 48 = .ok (.getfield 50, 3) := by decide +kernel
theorem dX8_goesBack_51 : decode cX8_goesBack 51 = .ok (.aload_n 0, 1) := by decide +kernel
theorem dX8_goesBack_52 : decode cX8_goesBack 52 = .ok (.getfield 91, 3) := by decide +kernel
theorem dX8_goesBack_55 : decode cX8_goesBack 55 = .ok (.iload_n 1, 1) := by decide +kernel
theorem dX8_goesBack_56 : decode cX8_goesBack 56 = .ok (.iaload, 1) := by decide +kernel
theorem dX8_goesBack_57 : decode cX8_goesBack 57 = .ok (.dup2, 1) := by decide +kernel
theorem dX8_goesBack_58 : decode cX8_goesBack 58 = .ok (.laload, 1) := by decide +kernel
theorem dX8_goesBack_59 : decode cX8_goesBack 59 = .ok (.lload 4, 2) := by decide +kernel
theorem dX8_goesBack_61 : decode cX8_goesBack 61 = .ok (.lsub, 1) := by decide +kernel
theorem dX8_goesBack_62 : decode cX8_goesBack 62 = .ok (.lastore, 1) := by decide +kernel
theorem dX8_goesBack_63 : decode cX8_goesBack 63 = .ok (.aload_n 0, 1) := by decide +kernel
theorem dX8_goesBack_64 : decode cX8_goesBack 64 = .ok (.getfield 50, 3) := by decide +kernel
theorem dX8_goesBack_67 : decode cX8_goesBack 67 = .ok (.aload_n 0, 1) := by decide +kernel
theorem dX8_goesBack_68 : decode cX8_goesBack 68 = .ok (.getfield 94, 3) := by decide +kernel
theorem dX8_goesBack_71 : decode cX8_goesBack 71 = .ok (.iload_n 1, 1) := by decide +kernel
theorem dX8_goesBack_72 : decode cX8_goesBack 72 = .ok (.iaload, 1) := by decide +kernel
theorem dX8_goesBack_73 : decode cX8_goesBack 73 = .ok (.dup2, 1) := by decide +kernel
theorem dX8_goesBack_74 : decode cX8_goesBack 74 = .ok (.laload, 1) := by decide +kernel
theorem dX8_goesBack_75 : decode cX8_goesBack 75 = .ok (.lload 4, 2) := by decide +kernel
theorem dX8_goesBack_77 : decode cX8_goesBack 77 = .ok (.ladd, 1) := by decide +kernel
theorem dX8_goesBack_78 : decode cX8_goesBack 78 = .ok (.lastore, 1) := by decide +kernel
theorem dX8_goesBack_79 : decode cX8_goesBack 79 = .ok (.aload_n 0, 1) := by decide +kernel
theorem dX8_goesBack_80 : decode cX8_goesBack 80 = .ok (.getfield 118, 3) := by decide +kernel
theorem dX8_goesBack_83 : decode cX8_goesBack 83 = .ok (.iload_n 1, 1) := by decide +kernel
theorem dX8_goesBack_84 : decode cX8_goesBack 84 = .ok (.lconst 0, 1) := by decide +kernel
theorem dX8_goesBack_85 : decode cX8_goesBack 85 = .ok (.lastore, 1) := by decide +kernel
theorem dX8_goesBack_86 : decode cX8_goesBack 86 = .ok (.aload_n 0, 1) := by decide +kernel
theorem dX8_goesBack_87 : decode cX8_goesBack 87 = .ok (.getfield 115, 3) := by decide +kernel
theorem dX8_goesBack_90 : decode cX8_goesBack 90 = .ok (.iload_n 1, 1) := by decide +kernel
theorem dX8_goesBack_91 : decode cX8_goesBack 91 = .ok (.lconst 0, 1) := by decide +kernel
theorem dX8_goesBack_92 : decode cX8_goesBack 92 = .ok (.lastore, 1) := by decide +kernel
theorem dX8_goesBack_93 : decode cX8_goesBack 93 = .ok (.return_, 1) := by decide +kernel
theorem dX8_appeal_0 : decode cX8_appeal 0 = .ok (.aload_n 0, 1) := by decide +kernel
theorem dX8_appeal_1 : decode cX8_appeal 1 = .ok (.iload_n 1, 1) := by decide +kernel
theorem dX8_appeal_2 : decode cX8_appeal 2 = .ok (.invokevirtual 259, 3) := by decide +kernel
theorem dX8_appeal_5 : decode cX8_appeal 5 = .ok (.istore_n 2, 1) := by decide +kernel
theorem dX8_appeal_6 : decode cX8_appeal 6 = .ok (.aload_n 0, 1) := by decide +kernel
theorem dX8_appeal_7 : decode cX8_appeal 7 = .ok (.iload_n 2, 1) := by decide +kernel
theorem dX8_appeal_8 : decode cX8_appeal 8 = .ok (.ifCond .ne 7, 3) := by decide +kernel
theorem dX8_appeal_11 : decode cX8_appeal 11 = .ok (.iconst 1, 1) := by decide +kernel
theorem dX8_appeal_12 : decode cX8_appeal 12 = .ok (.goto 16, 3) := by decide +kernel
theorem dX8_appeal_15 : decode cX8_appeal 15 = .ok (.aload_n 0, 1) := by decide +kernel
theorem dX8_appeal_16 : decode cX8_appeal 16 = .ok (.iload_n 1, 1) := by decide +kernel
theorem dX8_appeal_17 : decode cX8_appeal 17 = .ok (.invokevirtual 277, 3) := by decide +kernel
theorem dX8_appeal_20 : decode cX8_appeal 20 = .ok (.ifCond .eq 7, 3) := by decide +kernel
theorem dX8_appeal_23 : decode cX8_appeal 23 = .ok (.iconst 0, 1) := by decide +kernel
theorem dX8_appeal_24 : decode cX8_appeal 24 = .ok (.goto 4, 3) := by decide +kernel
theorem dX8_appeal_27 : decode cX8_appeal 27 = .ok (.iconst 2, 1) := by decide +kernel
theorem dX8_appeal_28 : decode cX8_appeal 28 = .ok (.invokevirtual 157, 3) := by decide +kernel
theorem dX8_appeal_31 : decode cX8_appeal 31 = .ok (.ifCond .ne 5, 3) := by decide +kernel
theorem dX8_appeal_34 : decode cX8_appeal 34 = .ok (.iconst 0, 1) := by decide +kernel
theorem dX8_appeal_35 : decode cX8_appeal 35 = .ok (.ireturn, 1) := by decide +kernel
theorem dX8_appeal_36 : decode cX8_appeal 36 = .ok (.aload_n 0, 1) := by decide +kernel
theorem dX8_appeal_37 : decode cX8_appeal 37 = .ok (.iload_n 1, 1) := by decide +kernel
theorem dX8_appeal_38 : decode cX8_appeal 38 = .ok (.iconst (-1), 1) := by decide +kernel
theorem dX8_appeal_39 : decode cX8_appeal 39 = .ok (.invokevirtual 271, 3) := by decide +kernel
theorem dX8_appeal_42 : decode cX8_appeal 42 = .ok (.istore_n 3, 1) := by decide +kernel
theorem dX8_appeal_43 : decode cX8_appeal 43 = .ok (.aload_n 0, 1) := by decide +kernel
theorem dX8_appeal_44 : decode cX8_appeal 44 = .ok (.getfield 106, 3) := by decide +kernel
theorem dX8_appeal_47 : decode cX8_appeal 47 = .ok (.iload_n 1, 1) := by decide +kernel
theorem dX8_appeal_48 : decode cX8_appeal 48 = .ok (.iaload, 1) := by decide +kernel
theorem dX8_appeal_49 : decode cX8_appeal 49 = .ok (.iconst 2, 1) := by decide +kernel
theorem dX8_appeal_50 : decode cX8_appeal 50 = .ok (.if_icmp .ne 12, 3) := by decide +kernel
theorem dX8_appeal_53 : decode cX8_appeal 53 = .ok (.iload_n 3, 1) := by decide +kernel
theorem dX8_appeal_54 : decode cX8_appeal 54 = .ok (.ifCond .ne 8, 3) := by decide +kernel
theorem dX8_appeal_57 : decode cX8_appeal 57 = .ok (.aload_n 0, 1) := by decide +kernel
theorem dX8_appeal_58 : decode cX8_appeal 58 = .ok (.iload_n 1, 1) := by decide +kernel
theorem dX8_appeal_59 : decode cX8_appeal 59 = .ok (.invokevirtual 280, 3) := by decide +kernel
theorem dX8_appeal_62 : decode cX8_appeal 62 = .ok (.aload_n 0, 1) := by decide +kernel
theorem dX8_appeal_63 : decode cX8_appeal 63 = .ok (.getfield 115, 3) := by decide +kernel
theorem dX8_appeal_66 : decode cX8_appeal 66 = .ok (.iload_n 1, 1) := by decide +kernel
theorem dX8_appeal_67 : decode cX8_appeal 67 = .ok (.aload_n 0, 1) := by decide +kernel
theorem dX8_appeal_68 : decode cX8_appeal 68 = .ok (.getfield 106, 3) := by decide +kernel
theorem dX8_appeal_71 : decode cX8_appeal 71 = .ok (.iload_n 1, 1) := by decide +kernel
theorem dX8_appeal_72 : decode cX8_appeal 72 = .ok (.iaload, 1) := by decide +kernel
theorem dX8_appeal_73 : decode cX8_appeal 73 = .ok (.iconst 3, 1) := by decide +kernel
theorem dX8_appeal_74 : decode cX8_appeal 74 = .ok (.if_icmp .ne 17, 3) := by decide +kernel
theorem dX8_appeal_77 : decode cX8_appeal 77 = .ok (.iload_n 3, 1) := by decide +kernel
theorem dX8_appeal_78 : decode cX8_appeal 78 = .ok (.ifCond .eq 13, 3) := by decide +kernel
theorem dX8_appeal_81 : decode cX8_appeal 81 = .ok (.aload_n 0, 1) := by decide +kernel
theorem dX8_appeal_82 : decode cX8_appeal 82 = .ok (.getfield 100, 3) := by decide +kernel
theorem dX8_appeal_85 : decode cX8_appeal 85 = .ok (.iload_n 1, 1) := by decide +kernel
theorem dX8_appeal_86 : decode cX8_appeal 86 = .ok (.iaload, 1) := by decide +kernel
theorem dX8_appeal_87 : decode cX8_appeal 87 = .ok (.i2l, 1) := by decide +kernel
theorem dX8_appeal_88 : decode cX8_appeal 88 = .ok (.goto 9, 3) := by decide +kernel
theorem dX8_appeal_91 : decode cX8_appeal 91 = .ok (.aload_n 0, 1) := by decide +kernel
theorem dX8_appeal_92 : decode cX8_appeal 92 = .ok (.getfield 115, 3) := by decide +kernel
theorem dX8_appeal_95 : decode cX8_appeal 95 = .ok (.iload_n 1, 1) := by decide +kernel
theorem dX8_appeal_96 : decode cX8_appeal 96 = .ok (.laload, 1) := by decide +kernel
theorem dX8_appeal_97 : decode cX8_appeal 97 = .ok (.lastore, 1) := by decide +kernel
theorem dX8_appeal_98 : decode cX8_appeal 98 = .ok (.aload_n 0, 1) := by decide +kernel
theorem dX8_appeal_99 : decode cX8_appeal 99 = .ok (.getfield 106, 3) := by decide +kernel
theorem dX8_appeal_102 : decode cX8_appeal 102 = .ok (.iload_n 1, 1) := by decide +kernel
theorem dX8_appeal_103 : decode cX8_appeal 103 = .ok (.iload_n 3, 1) := by decide +kernel
theorem dX8_appeal_104 : decode cX8_appeal 104 = .ok (.ifCond .eq 7, 3) := by decide +kernel
theorem dX8_appeal_107 : decode cX8_appeal 107 = .ok (.iconst 2, 1) := by decide +kernel
theorem dX8_appeal_108 : decode cX8_appeal 108 = .ok (.goto 4, 3) := by decide +kernel
theorem dX8_appeal_111 : decode cX8_appeal 111 = .ok (.iconst 3, 1) := by decide +kernel
theorem dX8_appeal_112 : decode cX8_appeal 112 = .ok (.iastore, 1) := by decide +kernel
theorem dX8_appeal_113 : decode cX8_appeal 113 = .ok (.aload_n 0, 1) := by decide +kernel
theorem dX8_appeal_114 : decode cX8_appeal 114 = .ok (.getfield 124, 3) := by decide +kernel
theorem dX8_appeal_117 : decode cX8_appeal 117 = .ok (.iload_n 1, 1) := by decide +kernel
theorem dX8_appeal_118 : decode cX8_appeal 118 = .ok (.iconst 1, 1) := by decide +kernel
theorem dX8_appeal_119 : decode cX8_appeal 119 = .ok (.bastore, 1) := by decide +kernel
theorem dX8_appeal_120 : decode cX8_appeal 120 = .ok (.aload_n 0, 1) := by decide +kernel
theorem dX8_appeal_121 : decode cX8_appeal 121 = .ok (.getfield 121, 3) := by decide +kernel
theorem dX8_appeal_124 : decode cX8_appeal 124 = .ok (.iload_n 1, 1) := by decide +kernel
theorem dX8_appeal_125 : decode cX8_appeal 125 = .ok (.aload_n 0, 1) := by decide +kernel
theorem dX8_appeal_126 : decode cX8_appeal 126 = .ok (.getfield 154, 3) := by decide +kernel
theorem dX8_appeal_129 : decode cX8_appeal 129 = .ok (.iastore, 1) := by decide +kernel
theorem dX8_appeal_130 : decode cX8_appeal 130 = .ok (.iload_n 3, 1) := by decide +kernel
theorem dX8_appeal_131 : decode cX8_appeal 131 = .ok (.ireturn, 1) := by decide +kernel
theorem dX8_execute_0 : decode cX8_execute 0 = .ok (.aload_n 0, 1) := by decide +kernel
theorem dX8_execute_1 : decode cX8_execute 1 = .ok (.iload_n 1, 1) := by decide +kernel
theorem dX8_execute_2 : decode cX8_execute 2 = .ok (.invokevirtual 259, 3) := by decide +kernel
theorem dX8_execute_5 : decode cX8_execute 5 = .ok (.istore_n 2, 1) := by decide +kernel
theorem dX8_execute_6 : decode cX8_execute 6 = .ok (.aload_n 0, 1) := by decide +kernel
theorem dX8_execute_7 : decode cX8_execute 7 = .ok (.iload_n 2, 1) := by decide +kernel
theorem dX8_execute_8 : decode cX8_execute 8 = .ok (.ifCond .ne 7, 3) := by decide +kernel
theorem dX8_execute_11 : decode cX8_execute 11 = .ok (.iconst 1, 1) := by decide +kernel
theorem dX8_execute_12 : decode cX8_execute 12 = .ok (.goto 37, 3) := by decide +kernel
theorem dX8_execute_15 : decode cX8_execute 15 = .ok (.aload_n 0, 1) := by decide +kernel
theorem dX8_execute_16 : decode cX8_execute 16 = .ok (.getfield 106, 3) := by decide +kernel
theorem dX8_execute_19 : decode cX8_execute 19 = .ok (.iload_n 1, 1) := by decide +kernel
theorem dX8_execute_20 : decode cX8_execute 20 = .ok (.iaload, 1) := by decide +kernel
theorem dX8_execute_21 : decode cX8_execute 21 = .ok (.iconst 2, 1) := by decide +kernel
theorem dX8_execute_22 : decode cX8_execute 22 = .ok (.if_icmp .ne 22, 3) := by decide +kernel
theorem dX8_execute_25 : decode cX8_execute 25 = .ok (.aload_n 0, 1) := by decide +kernel
theorem dX8_execute_26 : decode cX8_execute 26 = .ok (.getfield 115, 3) := by decide +kernel
theorem dX8_execute_29 : decode cX8_execute 29 = .ok (.iload_n 1, 1) := by decide +kernel
theorem dX8_execute_30 : decode cX8_execute 30 = .ok (.laload, 1) := by decide +kernel
theorem dX8_execute_31 : decode cX8_execute 31 = .ok (.lconst 0, 1) := by decide +kernel
theorem dX8_execute_32 : decode cX8_execute 32 = .ok (.lcmp, 1) := by decide +kernel
theorem dX8_execute_33 : decode cX8_execute 33 = .ok (.ifCond .eq 11, 3) := by decide +kernel
theorem dX8_execute_36 : decode cX8_execute 36 = .ok (.aload_n 0, 1) := by decide +kernel
theorem dX8_execute_37 : decode cX8_execute 37 = .ok (.iload_n 1, 1) := by decide +kernel
theorem dX8_execute_38 : decode cX8_execute 38 = .ok (.invokevirtual 274, 3) := by decide +kernel
theorem dX8_execute_41 : decode cX8_execute 41 = .ok (.ifCond .ne 7, 3) := by decide +kernel
theorem dX8_execute_44 : decode cX8_execute 44 = .ok (.iconst 2, 1) := by decide +kernel
theorem dX8_execute_45 : decode cX8_execute 45 = .ok (.goto 4, 3) := by decide +kernel
theorem dX8_execute_48 : decode cX8_execute 48 = .ok (.iconst 0, 1) := by decide +kernel
theorem dX8_execute_49 : decode cX8_execute 49 = .ok (.invokevirtual 157, 3) := by decide +kernel
theorem dX8_execute_52 : decode cX8_execute 52 = .ok (.ifCond .ne 5, 3) := by decide +kernel
theorem dX8_execute_55 : decode cX8_execute 55 = .ok (.lconst 0, 1) := by decide +kernel
theorem dX8_execute_56 : decode cX8_execute 56 = .ok (.lreturn, 1) := by decide +kernel
theorem dX8_execute_57 : decode cX8_execute 57 = .ok (.aload_n 0, 1) := by decide +kernel
theorem dX8_execute_58 : decode cX8_execute 58 = .ok (.getfield 50, 3) := by decide +kernel
theorem dX8_execute_61 : decode cX8_execute 61 = .ok (.aload_n 0, 1) := by decide +kernel
theorem dX8_execute_62 : decode cX8_execute 62 = .ok (.getfield 94, 3) := by decide +kernel
theorem dX8_execute_65 : decode cX8_execute 65 = .ok (.iload_n 1, 1) := by decide +kernel
theorem dX8_execute_66 : decode cX8_execute 66 = .ok (.iaload, 1) := by decide +kernel
theorem dX8_execute_67 : decode cX8_execute 67 = .ok (.laload, 1) := by decide +kernel
theorem dX8_execute_68 : decode cX8_execute 68 = .ok (.lstore_n 3, 1) := by decide +kernel
theorem dX8_execute_69 : decode cX8_execute 69 = .ok (.lload_n 3, 1) := by decide +kernel
theorem dX8_execute_70 : decode cX8_execute 70 = .ok (.aload_n 0, 1) := by decide +kernel
theorem dX8_execute_71 : decode cX8_execute 71 = .ok (.getfield 115, 3) := by decide +kernel
theorem dX8_execute_74 : decode cX8_execute 74 = .ok (.iload_n 1, 1) := by decide +kernel
theorem dX8_execute_75 : decode cX8_execute 75 = .ok (.laload, 1) := by decide +kernel
theorem dX8_execute_76 : decode cX8_execute 76 = .ok (.lcmp, 1) := by decide +kernel
theorem dX8_execute_77 : decode cX8_execute 77 = .ok (.ifCond .ge 7, 3) := by decide +kernel
theorem dX8_execute_80 : decode cX8_execute 80 = .ok (.lload_n 3, 1) := by decide +kernel
theorem dX8_execute_81 : decode cX8_execute 81 = .ok (.goto 9, 3) := by decide +kernel
theorem dX8_execute_84 : decode cX8_execute 84 = .ok (.aload_n 0, 1) := by decide +kernel
theorem dX8_execute_85 : decode cX8_execute 85 = .ok (.getfield 115, 3) := by decide +kernel
theorem dX8_execute_88 : decode cX8_execute 88 = .ok (.iload_n 1, 1) := by decide +kernel
theorem dX8_execute_89 : decode cX8_execute 89 = .ok (.laload, 1) := by decide +kernel
theorem dX8_execute_90 : decode cX8_execute 90 = .ok (.lstore 5, 2) := by decide +kernel
theorem dX8_execute_92 : decode cX8_execute 92 = .ok (.aload_n 0, 1) := by decide +kernel
theorem dX8_execute_93 : decode cX8_execute 93 = .ok (.getfield 50, 3) := by decide +kernel
theorem dX8_execute_96 : decode cX8_execute 96 = .ok (.aload_n 0, 1) := by decide +kernel
theorem dX8_execute_97 : decode cX8_execute 97 = .ok (.getfield 94, 3) := by decide +kernel
theorem dX8_execute_100 : decode cX8_execute 100 = .ok (.iload_n 1, 1) := by decide +kernel
theorem dX8_execute_101 : decode cX8_execute 101 = .ok (.iaload, 1) := by decide +kernel
theorem dX8_execute_102 : decode cX8_execute 102 = .ok (.dup2, 1) := by decide +kernel
theorem dX8_execute_103 : decode cX8_execute 103 = .ok (.laload, 1) := by decide +kernel
theorem dX8_execute_104 : decode cX8_execute 104 = .ok (.lload 5, 2) := by decide +kernel
theorem dX8_execute_106 : decode cX8_execute 106 = .ok (.lsub, 1) := by decide +kernel
theorem dX8_execute_107 : decode cX8_execute 107 = .ok (.lastore, 1) := by decide +kernel
theorem dX8_execute_108 : decode cX8_execute 108 = .ok (.aload_n 0, 1) := by decide +kernel
theorem dX8_execute_109 : decode cX8_execute 109 = .ok (.getfield 50, 3) := by decide +kernel
theorem dX8_execute_112 : decode cX8_execute 112 = .ok (.aload_n 0, 1) := by decide +kernel
theorem dX8_execute_113 : decode cX8_execute 113 = .ok (.getfield 91, 3) := by decide +kernel
theorem dX8_execute_116 : decode cX8_execute 116 = .ok (.iload_n 1, 1) := by decide +kernel
theorem dX8_execute_117 : decode cX8_execute 117 = .ok (.iaload, 1) := by decide +kernel
theorem dX8_execute_118 : decode cX8_execute 118 = .ok (.dup2, 1) := by decide +kernel
theorem dX8_execute_119 : decode cX8_execute 119 = .ok (.laload, 1) := by decide +kernel
theorem dX8_execute_120 : decode cX8_execute 120 = .ok (.lload 5, 2) := by decide +kernel
theorem dX8_execute_122 : decode cX8_execute 122 = .ok (.ladd, 1) := by decide +kernel
theorem dX8_execute_123 : decode cX8_execute 123 = .ok (.lastore, 1) := by decide +kernel
theorem dX8_execute_124 : decode cX8_execute 124 = .ok (.aload_n 0, 1) := by decide +kernel
theorem dX8_execute_125 : decode cX8_execute 125 = .ok (.getfield 115, 3) := by decide +kernel
theorem dX8_execute_128 : decode cX8_execute 128 = .ok (.iload_n 1, 1) := by decide +kernel
theorem dX8_execute_129 : decode cX8_execute 129 = .ok (.dup2, 1) := by decide +kernel
theorem dX8_execute_130 : decode cX8_execute 130 = .ok (.laload, 1) := by decide +kernel
theorem dX8_execute_131 : decode cX8_execute 131 = .ok (.lload 5, 2) := by decide +kernel
theorem dX8_execute_133 : decode cX8_execute 133 = .ok (.lsub, 1) := by decide +kernel
theorem dX8_execute_134 : decode cX8_execute 134 = .ok (.lastore, 1) := by decide +kernel
theorem dX8_execute_135 : decode cX8_execute 135 = .ok (.aload_n 0, 1) := by decide +kernel
theorem dX8_execute_136 : decode cX8_execute 136 = .ok (.getfield 118, 3) := by decide +kernel
theorem dX8_execute_139 : decode cX8_execute 139 = .ok (.iload_n 1, 1) := by decide +kernel
theorem dX8_execute_140 : decode cX8_execute 140 = .ok (.dup2, 1) := by decide +kernel
theorem dX8_execute_141 : decode cX8_execute 141 = .ok (.laload, 1) := by decide +kernel
theorem dX8_execute_142 : decode cX8_execute 142 = .ok (.lload 5, 2) := by decide +kernel
theorem dX8_execute_144 : decode cX8_execute 144 = .ok (.ladd, 1) := by decide +kernel
theorem dX8_execute_145 : decode cX8_execute 145 = .ok (.lastore, 1) := by decide +kernel
theorem dX8_execute_146 : decode cX8_execute 146 = .ok (.lload 5, 2) := by decide +kernel
theorem dX8_execute_148 : decode cX8_execute 148 = .ok (.lreturn, 1) := by decide +kernel
theorem dX8_wins_0 : decode cX8_wins 0 = .ok (.aload_n 0, 1) := by decide +kernel
theorem dX8_wins_1 : decode cX8_wins 1 = .ok (.aload_n 0, 1) := by decide +kernel
theorem dX8_wins_2 : decode cX8_wins 2 = .ok (.iload_n 1, 1) := by decide +kernel
theorem dX8_wins_3 : decode cX8_wins 3 = .ok (.invokevirtual 259, 3) := by decide +kernel
theorem dX8_wins_6 : decode cX8_wins 6 = .ok (.ifCond .eq 15, 3) := by decide +kernel
theorem dX8_wins_9 : decode cX8_wins 9 = .ok (.aload_n 0, 1) := by decide +kernel
theorem dX8_wins_10 : decode cX8_wins 10 = .ok (.iload_n 2, 1) := by decide +kernel
theorem dX8_wins_11 : decode cX8_wins 11 = .ok (.invokevirtual 174, 3) := by decide +kernel
theorem dX8_wins_14 : decode cX8_wins 14 = .ok (.ifCond .eq 7, 3) := by decide +kernel
theorem dX8_wins_17 : decode cX8_wins 17 = .ok (.iconst 0, 1) := by decide +kernel
theorem dX8_wins_18 : decode cX8_wins 18 = .ok (.goto 4, 3) := by decide +kernel
theorem dX8_wins_21 : decode cX8_wins 21 = .ok (.iconst 1, 1) := by decide +kernel
theorem dX8_wins_22 : decode cX8_wins 22 = .ok (.invokevirtual 157, 3) := by decide +kernel
theorem dX8_wins_25 : decode cX8_wins 25 = .ok (.ifCond .eq 16, 3) := by decide +kernel
theorem dX8_wins_28 : decode cX8_wins 28 = .ok (.aload_n 0, 1) := by decide +kernel
theorem dX8_wins_29 : decode cX8_wins 29 = .ok (.iload_n 1, 1) := by decide +kernel
theorem dX8_wins_30 : decode cX8_wins 30 = .ok (.iload_n 2, 1) := by decide +kernel
theorem dX8_wins_31 : decode cX8_wins 31 = .ok (.invokevirtual 271, 3) := by decide +kernel
theorem dX8_wins_34 : decode cX8_wins 34 = .ok (.ifCond .eq 7, 3) := by decide +kernel
theorem dX8_wins_37 : decode cX8_wins 37 = .ok (.iconst 1, 1) := by decide +kernel
theorem dX8_wins_38 : decode cX8_wins 38 = .ok (.goto 4, 3) := by decide +kernel
theorem dX8_wins_41 : decode cX8_wins 41 = .ok (.iconst 0, 1) := by decide +kernel
theorem dX8_wins_42 : decode cX8_wins 42 = .ok (.ireturn, 1) := by decide +kernel
theorem dX8_lowestMarriage_0 : decode cX8_lowestMarriage 0 = .ok (.iconst (-1), 1) := by decide +kernel
theorem dX8_lowestMarriage_1 : decode cX8_lowestMarriage 1 = .ok (.istore_n 2, 1) := by decide +kernel
theorem dX8_lowestMarriage_2 : decode cX8_lowestMarriage 2 = .ok (.aload_n 0, 1) := by decide +kernel
theorem dX8_lowestMarriage_3 : decode cX8_lowestMarriage 3 = .ok (.getfield 148, 3) := by decide +kernel
theorem dX8_lowestMarriage_6 : decode cX8_lowestMarriage 6 = .ok (.iconst 1, 1) := by decide +kernel
theorem dX8_lowestMarriage_7 : decode cX8_lowestMarriage 7 = .ok (.isub, 1) := by decide +kernel
theorem dX8_lowestMarriage_8 : decode cX8_lowestMarriage 8 = .ok (.istore_n 3, 1) := by decide +kernel
theorem dX8_lowestMarriage_9 : decode cX8_lowestMarriage 9 = .ok (.iload_n 3, 1) := by decide +kernel
theorem dX8_lowestMarriage_10 : decode cX8_lowestMarriage 10 = .ok (.ifCond .lt 44, 3) := by decide +kernel
theorem dX8_lowestMarriage_13 : decode cX8_lowestMarriage 13 = .ok (.aload_n 0, 1) := by decide +kernel
theorem dX8_lowestMarriage_14 : decode cX8_lowestMarriage 14 = .ok (.getfield 76, 3) := by decide +kernel
theorem dX8_lowestMarriage_17 : decode cX8_lowestMarriage 17 = .ok (.iload_n 3, 1) := by decide +kernel
theorem dX8_lowestMarriage_18 : decode cX8_lowestMarriage 18 = .ok (.iaload, 1) := by decide +kernel
theorem dX8_lowestMarriage_19 : decode cX8_lowestMarriage 19 = .ok (.ifCond .ne 27, 3) := by decide +kernel
theorem dX8_lowestMarriage_22 : decode cX8_lowestMarriage 22 = .ok (.aload_n 0, 1) := by decide +kernel
theorem dX8_lowestMarriage_23 : decode cX8_lowestMarriage 23 = .ok (.getfield 70, 3) := by decide +kernel
theorem dX8_lowestMarriage_26 : decode cX8_lowestMarriage 26 = .ok (.iload_n 3, 1) := by decide +kernel
theorem dX8_lowestMarriage_27 : decode cX8_lowestMarriage 27 = .ok (.iaload, 1) := by decide +kernel
theorem dX8_lowestMarriage_28 : decode cX8_lowestMarriage 28 = .ok (.iload_n 1, 1) := by decide +kernel
theorem dX8_lowestMarriage_29 : decode cX8_lowestMarriage 29 = .ok (.if_icmp .eq 13, 3) := by decide +kernel
theorem dX8_lowestMarriage_32 : decode cX8_lowestMarriage 32 = .ok (.aload_n 0, 1) := by decide +kernel
theorem dX8_lowestMarriage_33 : decode cX8_lowestMarriage 33 = .ok (.getfield 73, 3) := by decide +kernel
theorem dX8_lowestMarriage_36 : decode cX8_lowestMarriage 36 = .ok (.iload_n 3, 1) := by decide +kernel
theorem dX8_lowestMarriage_37 : decode cX8_lowestMarriage 37 = .ok (.iaload, 1) := by decide +kernel
theorem dX8_lowestMarriage_38 : decode cX8_lowestMarriage 38 = .ok (.iload_n 1, 1) := by decide +kernel
theorem dX8_lowestMarriage_39 : decode cX8_lowestMarriage 39 = .ok (.if_icmp .ne 7, 3) := by decide +kernel
theorem dX8_lowestMarriage_42 : decode cX8_lowestMarriage 42 = .ok (.iload_n 3, 1) := by decide +kernel
theorem dX8_lowestMarriage_43 : decode cX8_lowestMarriage 43 = .ok (.goto 4, 3) := by decide +kernel
theorem dX8_lowestMarriage_46 : decode cX8_lowestMarriage 46 = .ok (.iload_n 2, 1) := by decide +kernel
theorem dX8_lowestMarriage_47 : decode cX8_lowestMarriage 47 = .ok (.istore_n 2, 1) := by decide +kernel
theorem dX8_lowestMarriage_48 : decode cX8_lowestMarriage 48 = .ok (.iinc 3 (-1), 3) := by decide +kernel
theorem dX8_lowestMarriage_51 : decode cX8_lowestMarriage 51 = .ok (.goto (-42), 3) := by decide +kernel
theorem dX8_lowestMarriage_54 : decode cX8_lowestMarriage 54 = .ok (.iload_n 2, 1) := by decide +kernel
theorem dX8_lowestMarriage_55 : decode cX8_lowestMarriage 55 = .ok (.ireturn, 1) := by decide +kernel
theorem dX8_children_0 : decode cX8_children 0 = .ok (.iconst 0, 1) := by decide +kernel
theorem dX8_children_1 : decode cX8_children 1 = .ok (.istore_n 2, 1) := by decide +kernel
theorem dX8_children_2 : decode cX8_children 2 = .ok (.iconst 0, 1) := by decide +kernel
theorem dX8_children_3 : decode cX8_children 3 = .ok (.istore_n 3, 1) := by decide +kernel
theorem dX8_children_4 : decode cX8_children 4 = .ok (.iload_n 3, 1) := by decide +kernel
theorem dX8_children_5 : decode cX8_children 5 = .ok (.aload_n 0, 1) := by decide +kernel
theorem dX8_children_6 : decode cX8_children 6 = .ok (.getfield 145, 3) := by decide +kernel
theorem dX8_children_9 : decode cX8_children 9 = .ok (.if_icmp .ge 35, 3) := by decide +kernel
theorem dX8_children_12 : decode cX8_children 12 = .ok (.iload_n 2, 1) := by decide +kernel
theorem dX8_children_13 : decode cX8_children 13 = .ok (.aload_n 0, 1) := by decide +kernel
theorem dX8_children_14 : decode cX8_children 14 = .ok (.iload_n 3, 1) := by decide +kernel
theorem dX8_children_15 : decode cX8_children 15 = .ok (.iload_n 1, 1) := by decide +kernel
theorem dX8_children_16 : decode cX8_children 16 = .ok (.invokevirtual 248, 3) := by decide +kernel
theorem dX8_children_19 : decode cX8_children 19 = .ok (.ifCond .eq 16, 3) := by decide +kernel
theorem dX8_children_22 : decode cX8_children 22 = .ok (.aload_n 0, 1) := by decide +kernel
theorem dX8_children_23 : decode cX8_children 23 = .ok (.getfield 47, 3) := by decide +kernel
theorem dX8_children_26 : decode cX8_children 26 = .ok (.iload_n 3, 1) := by decide +kernel
theorem dX8_children_27 : decode cX8_children 27 = .ok (.baload, 1) := by decide +kernel
theorem dX8_children_28 : decode cX8_children 28 = .ok (.ifCond .ne 7, 3) := by decide +kernel
theorem dX8_children_31 : decode cX8_children 31 = .ok (.iconst 1, 1) := by decide +kernel
theorem dX8_children_32 : decode cX8_children 32 = .ok (.goto 4, 3) := by decide +kernel
theorem dX8_children_35 : decode cX8_children 35 = .ok (.iconst 0, 1) := by decide +kernel
theorem dX8_children_36 : decode cX8_children 36 = .ok (.iadd, 1) := by decide +kernel
theorem dX8_children_37 : decode cX8_children 37 = .ok (.istore_n 2, 1) := by decide +kernel
theorem dX8_children_38 : decode cX8_children 38 = .ok (.iinc 3 1, 3) := by decide +kernel
theorem dX8_children_41 : decode cX8_children 41 = .ok (.goto (-37), 3) := by decide +kernel
theorem dX8_children_44 : decode cX8_children 44 = .ok (.iload_n 2, 1) := by decide +kernel
theorem dX8_children_45 : decode cX8_children 45 = .ok (.ireturn, 1) := by decide +kernel
theorem dX8_ofPerson_0 : decode cX8_ofPerson 0 = .ok (.aload_n 0, 1) := by decide +kernel
theorem dX8_ofPerson_1 : decode cX8_ofPerson 1 = .ok (.aload_n 0, 1) := by decide +kernel
theorem dX8_ofPerson_2 : decode cX8_ofPerson 2 = .ok (.iload_n 1, 1) := by decide +kernel
theorem dX8_ofPerson_3 : decode cX8_ofPerson 3 = .ok (.invokevirtual 191, 3) := by decide +kernel
theorem dX8_ofPerson_6 : decode cX8_ofPerson 6 = .ok (.ifCond .ne 7, 3) := by decide +kernel
theorem dX8_ofPerson_9 : decode cX8_ofPerson 9 = .ok (.iconst 1, 1) := by decide +kernel
theorem dX8_ofPerson_10 : decode cX8_ofPerson 10 = .ok (.goto 17, 3) := by decide +kernel
theorem dX8_ofPerson_13 : decode cX8_ofPerson 13 = .ok (.iload_n 2, 1) := by decide +kernel
theorem dX8_ofPerson_14 : decode cX8_ofPerson 14 = .ok (.iconst 0, 1) := by decide +kernel
theorem dX8_ofPerson_15 : decode cX8_ofPerson 15 = .ok (.iconst 5, 1) := by decide +kernel
theorem dX8_ofPerson_16 : decode cX8_ofPerson 16 = .ok (.invokestatic 137, 3) := by decide +kernel
theorem dX8_ofPerson_19 : decode cX8_ofPerson 19 = .ok (.ifCond .eq 7, 3) := by decide +kernel
theorem dX8_ofPerson_22 : decode cX8_ofPerson 22 = .ok (.iconst 0, 1) := by decide +kernel
theorem dX8_ofPerson_23 : decode cX8_ofPerson 23 = .ok (.goto 4, 3) := by decide +kernel
theorem dX8_ofPerson_26 : decode cX8_ofPerson 26 = .ok (.iconst 2, 1) := by decide +kernel
theorem dX8_ofPerson_27 : decode cX8_ofPerson 27 = .ok (.invokevirtual 157, 3) := by decide +kernel
theorem dX8_ofPerson_30 : decode cX8_ofPerson 30 = .ok (.ifCond .ne 5, 3) := by decide +kernel
theorem dX8_ofPerson_33 : decode cX8_ofPerson 33 = .ok (.lconst 0, 1) := by decide +kernel
theorem dX8_ofPerson_34 : decode cX8_ofPerson 34 = .ok (.lreturn, 1) := by decide +kernel
theorem dX8_ofPerson_35 : decode cX8_ofPerson 35 = .ok (.iload_n 2, 1) := by decide +kernel
theorem dX8_ofPerson_36 : decode cX8_ofPerson 36 = .ok (.ifCond .ne 10, 3) := by decide +kernel
theorem dX8_ofPerson_39 : decode cX8_ofPerson 39 = .ok (.aload_n 0, 1) := by decide +kernel
theorem dX8_ofPerson_40 : decode cX8_ofPerson 40 = .ok (.getfield 50, 3) := by decide +kernel
theorem dX8_ofPerson_43 : decode cX8_ofPerson 43 = .ok (.iload_n 1, 1) := by decide +kernel
theorem dX8_ofPerson_44 : decode cX8_ofPerson 44 = .ok (.laload, 1) := by decide +kernel
theorem dX8_ofPerson_45 : decode cX8_ofPerson 45 = .ok (.lreturn, 1) := by decide +kernel
theorem dX8_ofPerson_46 : decode cX8_ofPerson 46 = .ok (.iload_n 2, 1) := by decide +kernel
theorem dX8_ofPerson_47 : decode cX8_ofPerson 47 = .ok (.iconst 1, 1) := by decide +kernel
theorem dX8_ofPerson_48 : decode cX8_ofPerson 48 = .ok (.if_icmp .ne 20, 3) := by decide +kernel
theorem dX8_ofPerson_51 : decode cX8_ofPerson 51 = .ok (.aload_n 0, 1) := by decide +kernel
theorem dX8_ofPerson_52 : decode cX8_ofPerson 52 = .ok (.getfield 47, 3) := by decide +kernel
theorem dX8_ofPerson_55 : decode cX8_ofPerson 55 = .ok (.iload_n 1, 1) := by decide +kernel
theorem dX8_ofPerson_56 : decode cX8_ofPerson 56 = .ok (.baload, 1) := by decide +kernel
theorem dX8_ofPerson_57 : decode cX8_ofPerson 57 = .ok (.ifCond .eq 7, 3) := by decide +kernel
theorem dX8_ofPerson_60 : decode cX8_ofPerson 60 = .ok (.lconst 0, 1) := by decide +kernel
theorem dX8_ofPerson_61 : decode cX8_ofPerson 61 = .ok (.goto 56, 3) := by decide +kernel
theorem dX8_ofPerson_64 : decode cX8_ofPerson 64 = .ok (.lconst 1, 1) := by decide +kernel
theorem dX8_ofPerson_65 : decode cX8_ofPerson 65 = .ok (.goto 52, 3) := by decide +kernel
theorem dX8_ofPerson_68 : decode cX8_ofPerson 68 = .ok (.iload_n 2, 1) := by decide +kernel
theorem dX8_ofPerson_69 : decode cX8_ofPerson 69 = .ok (.iconst 2, 1) := by decide +kernel
theorem dX8_ofPerson_70 : decode cX8_ofPerson 70 = .ok (.if_icmp .ne 12, 3) := by decide +kernel
theorem dX8_ofPerson_73 : decode cX8_ofPerson 73 = .ok (.aload_n 0, 1) := by decide +kernel
theorem dX8_ofPerson_74 : decode cX8_ofPerson 74 = .ok (.iload_n 1, 1) := by decide +kernel
theorem dX8_ofPerson_75 : decode cX8_ofPerson 75 = .ok (.invokevirtual 218, 3) := by decide +kernel
theorem dX8_ofPerson_78 : decode cX8_ofPerson 78 = .ok (.i2l, 1) := by decide +kernel
theorem dX8_ofPerson_79 : decode cX8_ofPerson 79 = .ok (.goto 38, 3) := by decide +kernel
theorem dX8_ofPerson_82 : decode cX8_ofPerson 82 = .ok (.iload_n 2, 1) := by decide +kernel
theorem dX8_ofPerson_83 : decode cX8_ofPerson 83 = .ok (.iconst 3, 1) := by decide +kernel
theorem dX8_ofPerson_84 : decode cX8_ofPerson 84 = .ok (.if_icmp .ne 13, 3) := by decide +kernel
theorem dX8_ofPerson_87 : decode cX8_ofPerson 87 = .ok (.aload_n 0, 1) := by decide +kernel
theorem dX8_ofPerson_88 : decode cX8_ofPerson 88 = .ok (.getfield 64, 3) := by decide +kernel
theorem dX8_ofPerson_91 : decode cX8_ofPerson 91 = .ok (.iload_n 1, 1) := by decide +kernel
theorem dX8_ofPerson_92 : decode cX8_ofPerson 92 = .ok (.iaload, 1) := by decide +kernel
theorem dX8_ofPerson_93 : decode cX8_ofPerson 93 = .ok (.i2l, 1) := by decide +kernel
theorem dX8_ofPerson_94 : decode cX8_ofPerson 94 = .ok (.goto 23, 3) := by decide +kernel
theorem dX8_ofPerson_97 : decode cX8_ofPerson 97 = .ok (.iload_n 2, 1) := by decide +kernel
theorem dX8_ofPerson_98 : decode cX8_ofPerson 98 = .ok (.iconst 4, 1) := by decide +kernel
theorem dX8_ofPerson_99 : decode cX8_ofPerson 99 = .ok (.if_icmp .ne 12, 3) := by decide +kernel
theorem dX8_ofPerson_102 : decode cX8_ofPerson 102 = .ok (.aload_n 0, 1) := by decide +kernel
theorem dX8_ofPerson_103 : decode cX8_ofPerson 103 = .ok (.iload_n 1, 1) := by decide +kernel
theorem dX8_ofPerson_104 : decode cX8_ofPerson 104 = .ok (.invokevirtual 283, 3) := by decide +kernel
theorem dX8_ofPerson_107 : decode cX8_ofPerson 107 = .ok (.i2l, 1) := by decide +kernel
theorem dX8_ofPerson_108 : decode cX8_ofPerson 108 = .ok (.goto 9, 3) := by decide +kernel
theorem dX8_ofPerson_111 : decode cX8_ofPerson 111 = .ok (.aload_n 0, 1) := by decide +kernel
theorem dX8_ofPerson_112 : decode cX8_ofPerson 112 = .ok (.iload_n 1, 1) := by decide +kernel
theorem dX8_ofPerson_113 : decode cX8_ofPerson 113 = .ok (.invokevirtual 286, 3) := by decide +kernel
theorem dX8_ofPerson_116 : decode cX8_ofPerson 116 = .ok (.i2l, 1) := by decide +kernel
theorem dX8_ofPerson_117 : decode cX8_ofPerson 117 = .ok (.lreturn, 1) := by decide +kernel
theorem dX8_ofMarriage_0 : decode cX8_ofMarriage 0 = .ok (.aload_n 0, 1) := by decide +kernel
theorem dX8_ofMarriage_1 : decode cX8_ofMarriage 1 = .ok (.aload_n 0, 1) := by decide +kernel
theorem dX8_ofMarriage_2 : decode cX8_ofMarriage 2 = .ok (.iload_n 1, 1) := by decide +kernel
theorem dX8_ofMarriage_3 : decode cX8_ofMarriage 3 = .ok (.invokevirtual 226, 3) := by decide +kernel
theorem dX8_ofMarriage_6 : decode cX8_ofMarriage 6 = .ok (.ifCond .ne 7, 3) := by decide +kernel
theorem dX8_ofMarriage_9 : decode cX8_ofMarriage 9 = .ok (.iconst 1, 1) := by decide +kernel
theorem dX8_ofMarriage_10 : decode cX8_ofMarriage 10 = .ok (.goto 17, 3) := by decide +kernel
theorem dX8_ofMarriage_13 : decode cX8_ofMarriage 13 = .ok (.iload_n 2, 1) := by decide +kernel
theorem dX8_ofMarriage_14 : decode cX8_ofMarriage 14 = .ok (.iconst 0, 1) := by decide +kernel
theorem dX8_ofMarriage_15 : decode cX8_ofMarriage 15 = .ok (.iconst 4, 1) := by decide +kernel
theorem dX8_ofMarriage_16 : decode cX8_ofMarriage 16 = .ok (.invokestatic 137, 3) := by decide +kernel
theorem dX8_ofMarriage_19 : decode cX8_ofMarriage 19 = .ok (.ifCond .eq 7, 3) := by decide +kernel
theorem dX8_ofMarriage_22 : decode cX8_ofMarriage 22 = .ok (.iconst 0, 1) := by decide +kernel
theorem dX8_ofMarriage_23 : decode cX8_ofMarriage 23 = .ok (.goto 4, 3) := by decide +kernel
theorem dX8_ofMarriage_26 : decode cX8_ofMarriage 26 = .ok (.iconst 2, 1) := by decide +kernel
theorem dX8_ofMarriage_27 : decode cX8_ofMarriage 27 = .ok (.invokevirtual 157, 3) := by decide +kernel
theorem dX8_ofMarriage_30 : decode cX8_ofMarriage 30 = .ok (.ifCond .ne 5, 3) := by decide +kernel
theorem dX8_ofMarriage_33 : decode cX8_ofMarriage 33 = .ok (.iconst 0, 1) := by decide +kernel
theorem dX8_ofMarriage_34 : decode cX8_ofMarriage 34 = .ok (.ireturn, 1) := by decide +kernel
theorem dX8_ofMarriage_35 : decode cX8_ofMarriage 35 = .ok (.iload_n 2, 1) := by decide +kernel
theorem dX8_ofMarriage_36 : decode cX8_ofMarriage 36 = .ok (.iconst 2, 1) := by decide +kernel
theorem dX8_ofMarriage_37 : decode cX8_ofMarriage 37 = .ok (.if_icmp .ge 23, 3) := by decide +kernel
theorem dX8_ofMarriage_40 : decode cX8_ofMarriage 40 = .ok (.iload_n 2, 1) := by decide +kernel
theorem dX8_ofMarriage_41 : decode cX8_ofMarriage 41 = .ok (.ifCond .ne 12, 3) := by decide +kernel
theorem dX8_ofMarriage_44 : decode cX8_ofMarriage 44 = .ok (.aload_n 0, 1) := by decide +kernel
theorem dX8_ofMarriage_45 : decode cX8_ofMarriage 45 = .ok (.getfield 76, 3) := by decide +kernel
theorem dX8_ofMarriage_48 : decode cX8_ofMarriage 48 = .ok (.iload_n 1, 1) := by decide +kernel
theorem dX8_ofMarriage_49 : decode cX8_ofMarriage 49 = .ok (.iaload, 1) := by decide +kernel
theorem dX8_ofMarriage_50 : decode cX8_ofMarriage 50 = .ok (.goto 9, 3) := by decide +kernel
theorem dX8_ofMarriage_53 : decode cX8_ofMarriage 53 = .ok (.aload_n 0, 1) := by decide +kernel
theorem dX8_ofMarriage_54 : decode cX8_ofMarriage 54 = .ok (.getfield 70, 3) := by decide +kernel
theorem dX8_ofMarriage_57 : decode cX8_ofMarriage 57 = .ok (.iload_n 1, 1) := by decide +kernel
theorem dX8_ofMarriage_58 : decode cX8_ofMarriage 58 = .ok (.iaload, 1) := by decide +kernel
theorem dX8_ofMarriage_59 : decode cX8_ofMarriage 59 = .ok (.ireturn, 1) := by decide +kernel
theorem dX8_ofMarriage_60 : decode cX8_ofMarriage 60 = .ok (.iload_n 2, 1) := by decide +kernel
theorem dX8_ofMarriage_61 : decode cX8_ofMarriage 61 = .ok (.iconst 2, 1) := by decide +kernel
theorem dX8_ofMarriage_62 : decode cX8_ofMarriage 62 = .ok (.if_icmp .ne 12, 3) := by decide +kernel
theorem dX8_ofMarriage_65 : decode cX8_ofMarriage 65 = .ok (.aload_n 0, 1) := by decide +kernel
theorem dX8_ofMarriage_66 : decode cX8_ofMarriage 66 = .ok (.getfield 73, 3) := by decide +kernel
theorem dX8_ofMarriage_69 : decode cX8_ofMarriage 69 = .ok (.iload_n 1, 1) := by decide +kernel
theorem dX8_ofMarriage_70 : decode cX8_ofMarriage 70 = .ok (.iaload, 1) := by decide +kernel
theorem dX8_ofMarriage_71 : decode cX8_ofMarriage 71 = .ok (.goto 23, 3) := by decide +kernel
theorem dX8_ofMarriage_74 : decode cX8_ofMarriage 74 = .ok (.iload_n 2, 1) := by decide +kernel
theorem dX8_ofMarriage_75 : decode cX8_ofMarriage 75 = .ok (.iconst 3, 1) := by decide +kernel
theorem dX8_ofMarriage_76 : decode cX8_ofMarriage 76 = .ok (.if_icmp .ne 12, 3) := by decide +kernel
theorem dX8_ofMarriage_79 : decode cX8_ofMarriage 79 = .ok (.aload_n 0, 1) := by decide +kernel
theorem dX8_ofMarriage_80 : decode cX8_ofMarriage 80 = .ok (.getfield 79, 3) := by decide +kernel
theorem dX8_ofMarriage_83 : decode cX8_ofMarriage 83 = .ok (.iload_n 1, 1) := by decide +kernel
theorem dX8_ofMarriage_84 : decode cX8_ofMarriage 84 = .ok (.iaload, 1) := by decide +kernel
theorem dX8_ofMarriage_85 : decode cX8_ofMarriage 85 = .ok (.goto 9, 3) := by decide +kernel
theorem dX8_ofMarriage_88 : decode cX8_ofMarriage 88 = .ok (.aload_n 0, 1) := by decide +kernel
theorem dX8_ofMarriage_89 : decode cX8_ofMarriage 89 = .ok (.getfield 82, 3) := by decide +kernel
theorem dX8_ofMarriage_92 : decode cX8_ofMarriage 92 = .ok (.iload_n 1, 1) := by decide +kernel
theorem dX8_ofMarriage_93 : decode cX8_ofMarriage 93 = .ok (.iaload, 1) := by decide +kernel
theorem dX8_ofMarriage_94 : decode cX8_ofMarriage 94 = .ok (.ireturn, 1) := by decide +kernel
theorem dX8_ofSuit_0 : decode cX8_ofSuit 0 = .ok (.aload_n 0, 1) := by decide +kernel
theorem dX8_ofSuit_1 : decode cX8_ofSuit 1 = .ok (.aload_n 0, 1) := by decide +kernel
theorem dX8_ofSuit_2 : decode cX8_ofSuit 2 = .ok (.iload_n 1, 1) := by decide +kernel
theorem dX8_ofSuit_3 : decode cX8_ofSuit 3 = .ok (.invokevirtual 259, 3) := by decide +kernel
theorem dX8_ofSuit_6 : decode cX8_ofSuit 6 = .ok (.ifCond .ne 7, 3) := by decide +kernel
theorem dX8_ofSuit_9 : decode cX8_ofSuit 9 = .ok (.iconst 1, 1) := by decide +kernel
theorem dX8_ofSuit_10 : decode cX8_ofSuit 10 = .ok (.goto 17, 3) := by decide +kernel
theorem dX8_ofSuit_13 : decode cX8_ofSuit 13 = .ok (.iload_n 2, 1) := by decide +kernel
theorem dX8_ofSuit_14 : decode cX8_ofSuit 14 = .ok (.iconst 0, 1) := by decide +kernel
theorem dX8_ofSuit_15 : decode cX8_ofSuit 15 = .ok (.iconst 4, 1) := by decide +kernel
theorem dX8_ofSuit_16 : decode cX8_ofSuit 16 = .ok (.invokestatic 137, 3) := by decide +kernel
theorem dX8_ofSuit_19 : decode cX8_ofSuit 19 = .ok (.ifCond .eq 7, 3) := by decide +kernel
theorem dX8_ofSuit_22 : decode cX8_ofSuit 22 = .ok (.iconst 0, 1) := by decide +kernel
theorem dX8_ofSuit_23 : decode cX8_ofSuit 23 = .ok (.goto 4, 3) := by decide +kernel
theorem dX8_ofSuit_26 : decode cX8_ofSuit 26 = .ok (.iconst 2, 1) := by decide +kernel
theorem dX8_ofSuit_27 : decode cX8_ofSuit 27 = .ok (.invokevirtual 157, 3) := by decide +kernel
theorem dX8_ofSuit_30 : decode cX8_ofSuit 30 = .ok (.ifCond .ne 5, 3) := by decide +kernel
theorem dX8_ofSuit_33 : decode cX8_ofSuit 33 = .ok (.iconst 0, 1) := by decide +kernel
theorem dX8_ofSuit_34 : decode cX8_ofSuit 34 = .ok (.ireturn, 1) := by decide +kernel
theorem dX8_ofSuit_35 : decode cX8_ofSuit 35 = .ok (.iload_n 2, 1) := by decide +kernel
theorem dX8_ofSuit_36 : decode cX8_ofSuit 36 = .ok (.iconst 2, 1) := by decide +kernel
theorem dX8_ofSuit_37 : decode cX8_ofSuit 37 = .ok (.if_icmp .ge 23, 3) := by decide +kernel
theorem dX8_ofSuit_40 : decode cX8_ofSuit 40 = .ok (.iload_n 2, 1) := by decide +kernel
theorem dX8_ofSuit_41 : decode cX8_ofSuit 41 = .ok (.ifCond .ne 12, 3) := by decide +kernel
theorem dX8_ofSuit_44 : decode cX8_ofSuit 44 = .ok (.aload_n 0, 1) := by decide +kernel
theorem dX8_ofSuit_45 : decode cX8_ofSuit 45 = .ok (.getfield 106, 3) := by decide +kernel
theorem dX8_ofSuit_48 : decode cX8_ofSuit 48 = .ok (.iload_n 1, 1) := by decide +kernel
theorem dX8_ofSuit_49 : decode cX8_ofSuit 49 = .ok (.iaload, 1) := by decide +kernel
theorem dX8_ofSuit_50 : decode cX8_ofSuit 50 = .ok (.goto 9, 3) := by decide +kernel
theorem dX8_ofSuit_53 : decode cX8_ofSuit 53 = .ok (.aload_n 0, 1) := by decide +kernel
theorem dX8_ofSuit_54 : decode cX8_ofSuit 54 = .ok (.getfield 97, 3) := by decide +kernel
theorem dX8_ofSuit_57 : decode cX8_ofSuit 57 = .ok (.iload_n 1, 1) := by decide +kernel
theorem dX8_ofSuit_58 : decode cX8_ofSuit 58 = .ok (.iaload, 1) := by decide +kernel
theorem dX8_ofSuit_59 : decode cX8_ofSuit 59 = .ok (.ireturn, 1) := by decide +kernel
theorem dX8_ofSuit_60 : decode cX8_ofSuit 60 = .ok (.iload_n 2, 1) := by decide +kernel
theorem dX8_ofSuit_61 : decode cX8_ofSuit 61 = .ok (.iconst 2, 1) := by decide +kernel
theorem dX8_ofSuit_62 : decode cX8_ofSuit 62 = .ok (.if_icmp .ne 11, 3) := by decide +kernel
theorem dX8_ofSuit_65 : decode cX8_ofSuit 65 = .ok (.aload_n 0, 1) := by decide +kernel
theorem dX8_ofSuit_66 : decode cX8_ofSuit 66 = .ok (.iload_n 1, 1) := by decide +kernel
theorem dX8_ofSuit_67 : decode cX8_ofSuit 67 = .ok (.invokevirtual 268, 3) := by decide +kernel
theorem dX8_ofSuit_70 : decode cX8_ofSuit 70 = .ok (.goto 24, 3) := by decide +kernel
theorem dX8_ofSuit_73 : decode cX8_ofSuit 73 = .ok (.iload_n 2, 1) := by decide +kernel
theorem dX8_ofSuit_74 : decode cX8_ofSuit 74 = .ok (.iconst 3, 1) := by decide +kernel
theorem dX8_ofSuit_75 : decode cX8_ofSuit 75 = .ok (.if_icmp .ne 13, 3) := by decide +kernel
theorem dX8_ofSuit_78 : decode cX8_ofSuit 78 = .ok (.aload_n 0, 1) := by decide +kernel
theorem dX8_ofSuit_79 : decode cX8_ofSuit 79 = .ok (.getfield 115, 3) := by decide +kernel
theorem dX8_ofSuit_82 : decode cX8_ofSuit 82 = .ok (.iload_n 1, 1) := by decide +kernel
theorem dX8_ofSuit_83 : decode cX8_ofSuit 83 = .ok (.laload, 1) := by decide +kernel
theorem dX8_ofSuit_84 : decode cX8_ofSuit 84 = .ok (.l2i, 1) := by decide +kernel
theorem dX8_ofSuit_85 : decode cX8_ofSuit 85 = .ok (.goto 9, 3) := by decide +kernel
theorem dX8_ofSuit_88 : decode cX8_ofSuit 88 = .ok (.aload_n 0, 1) := by decide +kernel
theorem dX8_ofSuit_89 : decode cX8_ofSuit 89 = .ok (.getfield 121, 3) := by decide +kernel
theorem dX8_ofSuit_92 : decode cX8_ofSuit 92 = .ok (.iload_n 1, 1) := by decide +kernel
theorem dX8_ofSuit_93 : decode cX8_ofSuit 93 = .ok (.iaload, 1) := by decide +kernel
theorem dX8_ofSuit_94 : decode cX8_ofSuit 94 = .ok (.ireturn, 1) := by decide +kernel
theorem dX8_treasury_0 : decode cX8_treasury 0 = .ok (.aload_n 0, 1) := by decide +kernel
theorem dX8_treasury_1 : decode cX8_treasury 1 = .ok (.iconst 0, 1) := by decide +kernel
theorem dX8_treasury_2 : decode cX8_treasury 2 = .ok (.putfield 130, 3) := by decide +kernel
theorem dX8_treasury_5 : decode cX8_treasury 5 = .ok (.aload_n 0, 1) := by decide +kernel
theorem dX8_treasury_6 : decode cX8_treasury 6 = .ok (.getfield 255, 3) := by decide +kernel
theorem dX8_treasury_9 : decode cX8_treasury 9 = .ok (.lreturn, 1) := by decide +kernel
theorem dX8_all_0 : decode cX8_all 0 = .ok (.aload_n 0, 1) := by decide +kernel
theorem dX8_all_1 : decode cX8_all 1 = .ok (.iconst 0, 1) := by decide +kernel
theorem dX8_all_2 : decode cX8_all 2 = .ok (.putfield 130, 3) := by decide +kernel
theorem dX8_all_5 : decode cX8_all 5 = .ok (.aload_n 0, 1) := by decide +kernel
theorem dX8_all_6 : decode cX8_all 6 = .ok (.getfield 255, 3) := by decide +kernel
theorem dX8_all_9 : decode cX8_all 9 = .ok (.lstore_n 1, 1) := by decide +kernel
theorem dX8_all_10 : decode cX8_all 10 = .ok (.iconst 0, 1) := by decide +kernel
theorem dX8_all_11 : decode cX8_all 11 = .ok (.istore_n 3, 1) := by decide +kernel
theorem dX8_all_12 : decode cX8_all 12 = .ok (.iload_n 3, 1) := by decide +kernel
theorem dX8_all_13 : decode cX8_all 13 = .ok (.aload_n 0, 1) := by decide +kernel
theorem dX8_all_14 : decode cX8_all 14 = .ok (.getfield 145, 3) := by decide +kernel
theorem dX8_all_17 : decode cX8_all 17 = .ok (.if_icmp .ge 18, 3) := by decide +kernel
theorem dX8_all_20 : decode cX8_all 20 = .ok (.lload_n 1, 1) := by decide +kernel
theorem dX8_all_21 : decode cX8_all 21 = .ok (.aload_n 0, 1) := by decide +kernel
theorem dX8_all_22 : decode cX8_all 22 = .ok (.getfield 50, 3) := by decide +kernel
theorem dX8_all_25 : decode cX8_all 25 = .ok (.iload_n 3, 1) := by decide +kernel
theorem dX8_all_26 : decode cX8_all 26 = .ok (.laload, 1) := by decide +kernel
theorem dX8_all_27 : decode cX8_all 27 = .ok (.ladd, 1) := by decide +kernel
theorem dX8_all_28 : decode cX8_all 28 = .ok (.lstore_n 1, 1) := by decide +kernel
theorem dX8_all_29 : decode cX8_all 29 = .ok (.iinc 3 1, 3) := by decide +kernel
theorem dX8_all_32 : decode cX8_all 32 = .ok (.goto (-20), 3) := by decide +kernel
theorem dX8_all_35 : decode cX8_all 35 = .ok (.lload_n 1, 1) := by decide +kernel
theorem dX8_all_36 : decode cX8_all 36 = .ok (.lreturn, 1) := by decide +kernel
theorem dX8_pass_0 : decode cX8_pass 0 = .ok (.aload_n 0, 1) := by decide +kernel
theorem dX8_pass_1 : decode cX8_pass 1 = .ok (.iload_n 1, 1) := by decide +kernel
theorem dX8_pass_2 : decode cX8_pass 2 = .ok (.iconst 1, 1) := by decide +kernel
theorem dX8_pass_3 : decode cX8_pass 3 = .ok (.sipush 2000, 3) := by decide +kernel
theorem dX8_pass_6 : decode cX8_pass 6 = .ok (.invokestatic 137, 3) := by decide +kernel
theorem dX8_pass_9 : decode cX8_pass 9 = .ok (.ifCond .ne 7, 3) := by decide +kernel
theorem dX8_pass_12 : decode cX8_pass 12 = .ok (.iconst 1, 1) := by decide +kernel
theorem dX8_pass_13 : decode cX8_pass 13 = .ok (.goto 20, 3) := by decide +kernel
theorem dX8_pass_16 : decode cX8_pass 16 = .ok (.aload_n 0, 1) := by decide +kernel
theorem dX8_pass_17 : decode cX8_pass 17 = .ok (.getfield 154, 3) := by decide +kernel
theorem dX8_pass_20 : decode cX8_pass 20 = .ok (.iload_n 1, 1) := by decide +kernel
theorem dX8_pass_21 : decode cX8_pass 21 = .ok (.iadd, 1) := by decide +kernel
theorem dX8_pass_22 : decode cX8_pass 22 = .ok (.sipush 30000, 3) := by decide +kernel
theorem dX8_pass_25 : decode cX8_pass 25 = .ok (.if_icmp .le 7, 3) := by decide +kernel
theorem dX8_pass_28 : decode cX8_pass 28 = .ok (.iconst 2, 1) := by decide +kernel
theorem dX8_pass_29 : decode cX8_pass 29 = .ok (.goto 4, 3) := by decide +kernel
theorem dX8_pass_32 : decode cX8_pass 32 = .ok (.iconst 0, 1) := by decide +kernel
theorem dX8_pass_33 : decode cX8_pass 33 = .ok (.invokevirtual 157, 3) := by decide +kernel
theorem dX8_pass_36 : decode cX8_pass 36 = .ok (.ifCond .ne 5, 3) := by decide +kernel
theorem dX8_pass_39 : decode cX8_pass 39 = .ok (.iconst 0, 1) := by decide +kernel
theorem dX8_pass_40 : decode cX8_pass 40 = .ok (.ireturn, 1) := by decide +kernel
theorem dX8_pass_41 : decode cX8_pass 41 = .ok (.iconst 0, 1) := by decide +kernel
theorem dX8_pass_42 : decode cX8_pass 42 = .ok (.istore_n 2, 1) := by decide +kernel
theorem dX8_pass_43 : decode cX8_pass 43 = .ok (.iload_n 2, 1) := by decide +kernel
theorem dX8_pass_44 : decode cX8_pass 44 = .ok (.iload_n 1, 1) := by decide +kernel
theorem dX8_pass_45 : decode cX8_pass 45 = .ok (.if_icmp .ge 53, 3) := by decide +kernel
theorem dX8_pass_48 : decode cX8_pass 48 = .ok (.aload_n 0, 1) := by decide +kernel
theorem dX8_pass_49 : decode cX8_pass 49 = .ok (.dup, 1) := by decide +kernel
theorem dX8_pass_50 : decode cX8_pass 50 = .ok (.getfield 154, 3) := by decide +kernel
theorem dX8_pass_53 : decode cX8_pass 53 = .ok (.iconst 1, 1) := by decide +kernel
theorem dX8_pass_54 : decode cX8_pass 54 = .ok (.iadd, 1) := by decide +kernel
theorem dX8_pass_55 : decode cX8_pass 55 = .ok (.putfield 154, 3) := by decide +kernel
theorem dX8_pass_58 : decode cX8_pass 58 = .ok (.iconst 0, 1) := by decide +kernel
theorem dX8_pass_59 : decode cX8_pass 59 = .ok (.istore_n 3, 1) := by decide +kernel
theorem dX8_pass_60 : decode cX8_pass 60 = .ok (.iload_n 3, 1) := by decide +kernel
theorem dX8_pass_61 : decode cX8_pass 61 = .ok (.aload_n 0, 1) := by decide +kernel
theorem dX8_pass_62 : decode cX8_pass 62 = .ok (.getfield 145, 3) := by decide +kernel
theorem dX8_pass_65 : decode cX8_pass 65 = .ok (.if_icmp .ge 27, 3) := by decide +kernel
theorem dX8_pass_68 : decode cX8_pass 68 = .ok (.aload_n 0, 1) := by decide +kernel
theorem dX8_pass_69 : decode cX8_pass 69 = .ok (.getfield 64, 3) := by decide +kernel
theorem dX8_pass_72 : decode cX8_pass 72 = .ok (.iload_n 3, 1) := by decide +kernel
theorem dX8_pass_73 : decode cX8_pass 73 = .ok (.iaload, 1) := by decide +kernel
theorem dX8_pass_74 : decode cX8_pass 74 = .ok (.aload_n 0, 1) := by decide +kernel
theorem dX8_pass_75 : decode cX8_pass 75 = .ok (.getfield 154, 3) := by decide +kernel
theorem dX8_pass_78 : decode cX8_pass 78 = .ok (.if_icmp .ne 8, 3) := by decide +kernel
theorem dX8_pass_81 : decode cX8_pass 81 = .ok (.aload_n 0, 1) := by decide +kernel
theorem dX8_pass_82 : decode cX8_pass 82 = .ok (.iload_n 3, 1) := by decide +kernel
theorem dX8_pass_83 : decode cX8_pass 83 = .ok (.invokevirtual 289, 3) := by decide +kernel
theorem dX8_pass_86 : decode cX8_pass 86 = .ok (.iinc 3 1, 3) := by decide +kernel
theorem dX8_pass_89 : decode cX8_pass 89 = .ok (.goto (-29), 3) := by decide +kernel
theorem dX8_pass_92 : decode cX8_pass 92 = .ok (.iinc 2 1, 3) := by decide +kernel
theorem dX8_pass_95 : decode cX8_pass 95 = .ok (.goto (-52), 3) := by decide +kernel
theorem dX8_pass_98 : decode cX8_pass 98 = .ok (.aload_n 0, 1) := by decide +kernel
theorem dX8_pass_99 : decode cX8_pass 99 = .ok (.getfield 154, 3) := by decide +kernel
theorem dX8_pass_102 : decode cX8_pass 102 = .ok (.ireturn, 1) := by decide +kernel
end
section
theorem dL_community_0 : decode cL_community 0 = .ok (.aload_n 1, 1) := by decide +kernel
theorem dL_community_1 : decode cL_community 1 = .ok (.iconst 0, 1) := by decide +kernel
theorem dL_community_2 : decode cL_community 2 = .ok (.aload_n 0, 1) := by decide +kernel
theorem dL_community_3 : decode cL_community 3 = .ok (.invokevirtual 7, 3) := by decide +kernel
theorem dL_community_6 : decode cL_community 6 = .ok (.i2l, 1) := by decide +kernel
theorem dL_community_7 : decode cL_community 7 = .ok (.lastore, 1) := by decide +kernel
theorem dL_community_8 : decode cL_community 8 = .ok (.goto 6, 3) := by decide +kernel
theorem dL_community_11 : decode cL_community 11 = .ok (.astore_n 2, 1) := by decide +kernel
theorem dL_community_12 : decode cL_community 12 = .ok (.iconst 1, 1) := by decide +kernel
theorem dL_community_13 : decode cL_community 13 = .ok (.ireturn, 1) := by decide +kernel
theorem dL_community_14 : decode cL_community 14 = .ok (.iconst 0, 1) := by decide +kernel
theorem dL_community_15 : decode cL_community 15 = .ok (.ireturn, 1) := by decide +kernel
theorem dL_recognise_0 : decode cL_recognise 0 = .ok (.aload_n 3, 1) := by decide +kernel
theorem dL_recognise_1 : decode cL_recognise 1 = .ok (.iconst 0, 1) := by decide +kernel
theorem dL_recognise_2 : decode cL_recognise 2 = .ok (.aload_n 0, 1) := by decide +kernel
theorem dL_recognise_3 : decode cL_recognise 3 = .ok (.iload_n 1, 1) := by decide +kernel
theorem dL_recognise_4 : decode cL_recognise 4 = .ok (.iload_n 2, 1) := by decide +kernel
theorem dL_recognise_5 : decode cL_recognise 5 = .ok (.invokevirtual 15, 3) := by decide +kernel
theorem dL_recognise_8 : decode cL_recognise 8 = .ok (.ifCond .eq 7, 3) := by decide +kernel
theorem dL_recognise_11 : decode cL_recognise 11 = .ok (.lconst 1, 1) := by decide +kernel
theorem dL_recognise_12 : decode cL_recognise 12 = .ok (.goto 4, 3) := by decide +kernel
theorem dL_recognise_15 : decode cL_recognise 15 = .ok (.lconst 0, 1) := by decide +kernel
theorem dL_recognise_16 : decode cL_recognise 16 = .ok (.lastore, 1) := by decide +kernel
theorem dL_recognise_17 : decode cL_recognise 17 = .ok (.goto 7, 3) := by decide +kernel
theorem dL_recognise_20 : decode cL_recognise 20 = .ok (.astore 4, 2) := by decide +kernel
theorem dL_recognise_22 : decode cL_recognise 22 = .ok (.iconst 1, 1) := by decide +kernel
theorem dL_recognise_23 : decode cL_recognise 23 = .ok (.ireturn, 1) := by decide +kernel
theorem dL_recognise_24 : decode cL_recognise 24 = .ok (.iconst 0, 1) := by decide +kernel
theorem dL_recognise_25 : decode cL_recognise 25 = .ok (.ireturn, 1) := by decide +kernel
theorem dL_decree_0 : decode cL_decree 0 = .ok (.aload 4, 2) := by decide +kernel
theorem dL_decree_2 : decode cL_decree 2 = .ok (.iconst 0, 1) := by decide +kernel
theorem dL_decree_3 : decode cL_decree 3 = .ok (.aload_n 0, 1) := by decide +kernel
theorem dL_decree_4 : decode cL_decree 4 = .ok (.iload_n 1, 1) := by decide +kernel
theorem dL_decree_5 : decode cL_decree 5 = .ok (.iload_n 2, 1) := by decide +kernel
theorem dL_decree_6 : decode cL_decree 6 = .ok (.iload_n 3, 1) := by decide +kernel
theorem dL_decree_7 : decode cL_decree 7 = .ok (.invokevirtual 21, 3) := by decide +kernel
theorem dL_decree_10 : decode cL_decree 10 = .ok (.i2l, 1) := by decide +kernel
theorem dL_decree_11 : decode cL_decree 11 = .ok (.lastore, 1) := by decide +kernel
theorem dL_decree_12 : decode cL_decree 12 = .ok (.goto 15, 3) := by decide +kernel
theorem dL_decree_15 : decode cL_decree 15 = .ok (.astore 5, 2) := by decide +kernel
theorem dL_decree_17 : decode cL_decree 17 = .ok (.iconst 1, 1) := by decide +kernel
theorem dL_decree_18 : decode cL_decree 18 = .ok (.ireturn, 1) := by decide +kernel
theorem dL_decree_19 : decode cL_decree 19 = .ok (.astore 5, 2) := by decide +kernel
theorem dL_decree_21 : decode cL_decree 21 = .ok (.iconst 2, 1) := by decide +kernel
theorem dL_decree_22 : decode cL_decree 22 = .ok (.ireturn, 1) := by decide +kernel
theorem dL_decree_23 : decode cL_decree 23 = .ok (.astore 5, 2) := by decide +kernel
theorem dL_decree_25 : decode cL_decree 25 = .ok (.iconst 3, 1) := by decide +kernel
theorem dL_decree_26 : decode cL_decree 26 = .ok (.ireturn, 1) := by decide +kernel
theorem dL_decree_27 : decode cL_decree 27 = .ok (.iconst 0, 1) := by decide +kernel
theorem dL_decree_28 : decode cL_decree 28 = .ok (.ireturn, 1) := by decide +kernel
theorem dL_rule_0 : decode cL_rule 0 = .ok (.aload_n 3, 1) := by decide +kernel
theorem dL_rule_1 : decode cL_rule 1 = .ok (.iconst 0, 1) := by decide +kernel
theorem dL_rule_2 : decode cL_rule 2 = .ok (.aload_n 0, 1) := by decide +kernel
theorem dL_rule_3 : decode cL_rule 3 = .ok (.iload_n 1, 1) := by decide +kernel
theorem dL_rule_4 : decode cL_rule 4 = .ok (.iload_n 2, 1) := by decide +kernel
theorem dL_rule_5 : decode cL_rule 5 = .ok (.invokevirtual 27, 3) := by decide +kernel
theorem dL_rule_8 : decode cL_rule 8 = .ok (.i2l, 1) := by decide +kernel
theorem dL_rule_9 : decode cL_rule 9 = .ok (.lastore, 1) := by decide +kernel
theorem dL_rule_10 : decode cL_rule 10 = .ok (.goto 11, 3) := by decide +kernel
theorem dL_rule_13 : decode cL_rule 13 = .ok (.astore 4, 2) := by decide +kernel
theorem dL_rule_15 : decode cL_rule 15 = .ok (.iconst 1, 1) := by decide +kernel
theorem dL_rule_16 : decode cL_rule 16 = .ok (.ireturn, 1) := by decide +kernel
theorem dL_rule_17 : decode cL_rule 17 = .ok (.astore 4, 2) := by decide +kernel
theorem dL_rule_19 : decode cL_rule 19 = .ok (.iconst 2, 1) := by decide +kernel
theorem dL_rule_20 : decode cL_rule 20 = .ok (.ireturn, 1) := by decide +kernel
theorem dL_rule_21 : decode cL_rule 21 = .ok (.iconst 0, 1) := by decide +kernel
theorem dL_rule_22 : decode cL_rule 22 = .ok (.ireturn, 1) := by decide +kernel
theorem dL_law_0 : decode cL_law 0 = .ok (.aload 4, 2) := by decide +kernel
theorem dL_law_2 : decode cL_law 2 = .ok (.iconst 0, 1) := by decide +kernel
theorem dL_law_3 : decode cL_law 3 = .ok (.aload_n 0, 1) := by decide +kernel
theorem dL_law_4 : decode cL_law 4 = .ok (.iload_n 1, 1) := by decide +kernel
theorem dL_law_5 : decode cL_law 5 = .ok (.iload_n 2, 1) := by decide +kernel
theorem dL_law_6 : decode cL_law 6 = .ok (.iload_n 3, 1) := by decide +kernel
theorem dL_law_7 : decode cL_law 7 = .ok (.invokevirtual 31, 3) := by decide +kernel
theorem dL_law_10 : decode cL_law 10 = .ok (.i2l, 1) := by decide +kernel
theorem dL_law_11 : decode cL_law 11 = .ok (.lastore, 1) := by decide +kernel
theorem dL_law_12 : decode cL_law 12 = .ok (.goto 11, 3) := by decide +kernel
theorem dL_law_15 : decode cL_law 15 = .ok (.astore 5, 2) := by decide +kernel
theorem dL_law_17 : decode cL_law 17 = .ok (.iconst 1, 1) := by decide +kernel
theorem dL_law_18 : decode cL_law 18 = .ok (.ireturn, 1) := by decide +kernel
theorem dL_law_19 : decode cL_law 19 = .ok (.astore 5, 2) := by decide +kernel
theorem dL_law_21 : decode cL_law 21 = .ok (.iconst 2, 1) := by decide +kernel
theorem dL_law_22 : decode cL_law 22 = .ok (.ireturn, 1) := by decide +kernel
theorem dL_law_23 : decode cL_law 23 = .ok (.iconst 0, 1) := by decide +kernel
theorem dL_law_24 : decode cL_law 24 = .ok (.ireturn, 1) := by decide +kernel
theorem dL_court_0 : decode cL_court 0 = .ok (.aload 5, 2) := by decide +kernel
theorem dL_court_2 : decode cL_court 2 = .ok (.iconst 0, 1) := by decide +kernel
theorem dL_court_3 : decode cL_court 3 = .ok (.aload_n 0, 1) := by decide +kernel
theorem dL_court_4 : decode cL_court 4 = .ok (.iload_n 1, 1) := by decide +kernel
theorem dL_court_5 : decode cL_court 5 = .ok (.iload_n 2, 1) := by decide +kernel
theorem dL_court_6 : decode cL_court 6 = .ok (.iload_n 3, 1) := by decide +kernel
theorem dL_court_7 : decode cL_court 7 = .ok (.iload 4, 2) := by decide +kernel
theorem dL_court_9 : decode cL_court 9 = .ok (.invokevirtual 34, 3) := by decide +kernel
theorem dL_court_12 : decode cL_court 12 = .ok (.i2l, 1) := by decide +kernel
theorem dL_court_13 : decode cL_court 13 = .ok (.lastore, 1) := by decide +kernel
theorem dL_court_14 : decode cL_court 14 = .ok (.goto 11, 3) := by decide +kernel
theorem dL_court_17 : decode cL_court 17 = .ok (.astore 6, 2) := by decide +kernel
theorem dL_court_19 : decode cL_court 19 = .ok (.iconst 1, 1) := by decide +kernel
theorem dL_court_20 : decode cL_court 20 = .ok (.ireturn, 1) := by decide +kernel
theorem dL_court_21 : decode cL_court 21 = .ok (.astore 6, 2) := by decide +kernel
theorem dL_court_23 : decode cL_court 23 = .ok (.iconst 2, 1) := by decide +kernel
theorem dL_court_24 : decode cL_court 24 = .ok (.ireturn, 1) := by decide +kernel
theorem dL_court_25 : decode cL_court 25 = .ok (.iconst 0, 1) := by decide +kernel
theorem dL_court_26 : decode cL_court 26 = .ok (.ireturn, 1) := by decide +kernel
theorem dL_person_0 : decode cL_person 0 = .ok (.aload 5, 2) := by decide +kernel
theorem dL_person_2 : decode cL_person 2 = .ok (.iconst 0, 1) := by decide +kernel
theorem dL_person_3 : decode cL_person 3 = .ok (.aload_n 0, 1) := by decide +kernel
theorem dL_person_4 : decode cL_person 4 = .ok (.iload_n 1, 1) := by decide +kernel
theorem dL_person_5 : decode cL_person 5 = .ok (.iload_n 2, 1) := by decide +kernel
theorem dL_person_6 : decode cL_person 6 = .ok (.iload_n 3, 1) := by decide +kernel
theorem dL_person_7 : decode cL_person 7 = .ok (.iload 4, 2) := by decide +kernel
theorem dL_person_9 : decode cL_person 9 = .ok (.invokevirtual 38, 3) := by decide +kernel
theorem dL_person_12 : decode cL_person 12 = .ok (.i2l, 1) := by decide +kernel
theorem dL_person_13 : decode cL_person 13 = .ok (.lastore, 1) := by decide +kernel
theorem dL_person_14 : decode cL_person 14 = .ok (.goto 15, 3) := by decide +kernel
theorem dL_person_17 : decode cL_person 17 = .ok (.astore 6, 2) := by decide +kernel
theorem dL_person_19 : decode cL_person 19 = .ok (.iconst 1, 1) := by decide +kernel
theorem dL_person_20 : decode cL_person 20 = .ok (.ireturn, 1) := by decide +kernel
theorem dL_person_21 : decode cL_person 21 = .ok (.astore 6, 2) := by decide +kernel
theorem dL_person_23 : decode cL_person 23 = .ok (.iconst 2, 1) := by decide +kernel
theorem dL_person_24 : decode cL_person 24 = .ok (.ireturn, 1) := by decide +kernel
theorem dL_person_25 : decode cL_person 25 = .ok (.astore 6, 2) := by decide +kernel
theorem dL_person_27 : decode cL_person 27 = .ok (.iconst 3, 1) := by decide +kernel
theorem dL_person_28 : decode cL_person 28 = .ok (.ireturn, 1) := by decide +kernel
theorem dL_person_29 : decode cL_person 29 = .ok (.iconst 0, 1) := by decide +kernel
theorem dL_person_30 : decode cL_person 30 = .ok (.ireturn, 1) := by decide +kernel
theorem dL_turn_0 : decode cL_turn 0 = .ok (.aload 5, 2) := by decide +kernel
theorem dL_turn_2 : decode cL_turn 2 = .ok (.iconst 0, 1) := by decide +kernel
theorem dL_turn_3 : decode cL_turn 3 = .ok (.aload_n 0, 1) := by decide +kernel
theorem dL_turn_4 : decode cL_turn 4 = .ok (.iload_n 1, 1) := by decide +kernel
theorem dL_turn_5 : decode cL_turn 5 = .ok (.iload_n 2, 1) := by decide +kernel
theorem dL_turn_6 : decode cL_turn 6 = .ok (.iload_n 3, 1) := by decide +kernel
theorem dL_turn_7 : decode cL_turn 7 = .ok (.iload 4, 2) := by decide +kernel
theorem dL_turn_9 : decode cL_turn 9 = .ok (.invokevirtual 42, 3) := by decide +kernel
theorem dL_turn_12 : decode cL_turn 12 = .ok (.i2l, 1) := by decide +kernel
theorem dL_turn_13 : decode cL_turn 13 = .ok (.lastore, 1) := by decide +kernel
theorem dL_turn_14 : decode cL_turn 14 = .ok (.goto 15, 3) := by decide +kernel
theorem dL_turn_17 : decode cL_turn 17 = .ok (.astore 6, 2) := by decide +kernel
theorem dL_turn_19 : decode cL_turn 19 = .ok (.iconst 1, 1) := by decide +kernel
theorem dL_turn_20 : decode cL_turn 20 = .ok (.ireturn, 1) := by decide +kernel
theorem dL_turn_21 : decode cL_turn 21 = .ok (.astore 6, 2) := by decide +kernel
theorem dL_turn_23 : decode cL_turn 23 = .ok (.iconst 2, 1) := by decide +kernel
theorem dL_turn_24 : decode cL_turn 24 = .ok (.ireturn, 1) := by decide +kernel
theorem dL_turn_25 : decode cL_turn 25 = .ok (.astore 6, 2) := by decide +kernel
theorem dL_turn_27 : decode cL_turn 27 = .ok (.iconst 3, 1) := by decide +kernel
theorem dL_turn_28 : decode cL_turn 28 = .ok (.ireturn, 1) := by decide +kernel
theorem dL_turn_29 : decode cL_turn 29 = .ok (.iconst 0, 1) := by decide +kernel
theorem dL_turn_30 : decode cL_turn 30 = .ok (.ireturn, 1) := by decide +kernel
theorem dL_recant_0 : decode cL_recant 0 = .ok (.aload_n 2, 1) := by decide +kernel
theorem dL_recant_1 : decode cL_recant 1 = .ok (.iconst 0, 1) := by decide +kernel
theorem dL_recant_2 : decode cL_recant 2 = .ok (.aload_n 0, 1) := by decide +kernel
theorem dL_recant_3 : decode cL_recant 3 = .ok (.iload_n 1, 1) := by decide +kernel
theorem dL_recant_4 : decode cL_recant 4 = .ok (.invokevirtual 45, 3) := by decide +kernel
theorem dL_recant_7 : decode cL_recant 7 = .ok (.i2l, 1) := by decide +kernel
theorem dL_recant_8 : decode cL_recant 8 = .ok (.lastore, 1) := by decide +kernel
theorem dL_recant_9 : decode cL_recant 9 = .ok (.goto 9, 3) := by decide +kernel
theorem dL_recant_12 : decode cL_recant 12 = .ok (.astore_n 3, 1) := by decide +kernel
theorem dL_recant_13 : decode cL_recant 13 = .ok (.iconst 1, 1) := by decide +kernel
theorem dL_recant_14 : decode cL_recant 14 = .ok (.ireturn, 1) := by decide +kernel
theorem dL_recant_15 : decode cL_recant 15 = .ok (.astore_n 3, 1) := by decide +kernel
theorem dL_recant_16 : decode cL_recant 16 = .ok (.iconst 2, 1) := by decide +kernel
theorem dL_recant_17 : decode cL_recant 17 = .ok (.ireturn, 1) := by decide +kernel
theorem dL_recant_18 : decode cL_recant 18 = .ok (.iconst 0, 1) := by decide +kernel
theorem dL_recant_19 : decode cL_recant 19 = .ok (.ireturn, 1) := by decide +kernel
theorem dL_faith_0 : decode cL_faith 0 = .ok (.aload_n 3, 1) := by decide +kernel
theorem dL_faith_1 : decode cL_faith 1 = .ok (.iconst 0, 1) := by decide +kernel
theorem dL_faith_2 : decode cL_faith 2 = .ok (.aload_n 0, 1) := by decide +kernel
theorem dL_faith_3 : decode cL_faith 3 = .ok (.iload_n 1, 1) := by decide +kernel
theorem dL_faith_4 : decode cL_faith 4 = .ok (.iload_n 2, 1) := by decide +kernel
theorem dL_faith_5 : decode cL_faith 5 = .ok (.invokevirtual 49, 3) := by decide +kernel
theorem dL_faith_8 : decode cL_faith 8 = .ok (.i2l, 1) := by decide +kernel
theorem dL_faith_9 : decode cL_faith 9 = .ok (.lastore, 1) := by decide +kernel
theorem dL_faith_10 : decode cL_faith 10 = .ok (.goto 11, 3) := by decide +kernel
theorem dL_faith_13 : decode cL_faith 13 = .ok (.astore 4, 2) := by decide +kernel
theorem dL_faith_15 : decode cL_faith 15 = .ok (.iconst 1, 1) := by decide +kernel
theorem dL_faith_16 : decode cL_faith 16 = .ok (.ireturn, 1) := by decide +kernel
theorem dL_faith_17 : decode cL_faith 17 = .ok (.astore 4, 2) := by decide +kernel
theorem dL_faith_19 : decode cL_faith 19 = .ok (.iconst 2, 1) := by decide +kernel
theorem dL_faith_20 : decode cL_faith 20 = .ok (.ireturn, 1) := by decide +kernel
theorem dL_faith_21 : decode cL_faith 21 = .ok (.iconst 0, 1) := by decide +kernel
theorem dL_faith_22 : decode cL_faith 22 = .ok (.ireturn, 1) := by decide +kernel
theorem dL_marry_0 : decode cL_marry 0 = .ok (.aload 4, 2) := by decide +kernel
theorem dL_marry_2 : decode cL_marry 2 = .ok (.iconst 0, 1) := by decide +kernel
theorem dL_marry_3 : decode cL_marry 3 = .ok (.aload_n 0, 1) := by decide +kernel
theorem dL_marry_4 : decode cL_marry 4 = .ok (.iload_n 1, 1) := by decide +kernel
theorem dL_marry_5 : decode cL_marry 5 = .ok (.iload_n 2, 1) := by decide +kernel
theorem dL_marry_6 : decode cL_marry 6 = .ok (.iload_n 3, 1) := by decide +kernel
theorem dL_marry_7 : decode cL_marry 7 = .ok (.invokevirtual 52, 3) := by decide +kernel
theorem dL_marry_10 : decode cL_marry 10 = .ok (.i2l, 1) := by decide +kernel
theorem dL_marry_11 : decode cL_marry 11 = .ok (.lastore, 1) := by decide +kernel
theorem dL_marry_12 : decode cL_marry 12 = .ok (.goto 15, 3) := by decide +kernel
theorem dL_marry_15 : decode cL_marry 15 = .ok (.astore 5, 2) := by decide +kernel
theorem dL_marry_17 : decode cL_marry 17 = .ok (.iconst 1, 1) := by decide +kernel
theorem dL_marry_18 : decode cL_marry 18 = .ok (.ireturn, 1) := by decide +kernel
theorem dL_marry_19 : decode cL_marry 19 = .ok (.astore 5, 2) := by decide +kernel
theorem dL_marry_21 : decode cL_marry 21 = .ok (.iconst 2, 1) := by decide +kernel
theorem dL_marry_22 : decode cL_marry 22 = .ok (.ireturn, 1) := by decide +kernel
theorem dL_marry_23 : decode cL_marry 23 = .ok (.astore 5, 2) := by decide +kernel
theorem dL_marry_25 : decode cL_marry 25 = .ok (.iconst 3, 1) := by decide +kernel
theorem dL_marry_26 : decode cL_marry 26 = .ok (.ireturn, 1) := by decide +kernel
theorem dL_marry_27 : decode cL_marry 27 = .ok (.iconst 0, 1) := by decide +kernel
theorem dL_marry_28 : decode cL_marry 28 = .ok (.ireturn, 1) := by decide +kernel
theorem dL_divorce_0 : decode cL_divorce 0 = .ok (.aload_n 3, 1) := by decide +kernel
theorem dL_divorce_1 : decode cL_divorce 1 = .ok (.iconst 0, 1) := by decide +kernel
theorem dL_divorce_2 : decode cL_divorce 2 = .ok (.aload_n 0, 1) := by decide +kernel
theorem dL_divorce_3 : decode cL_divorce 3 = .ok (.iload_n 1, 1) := by decide +kernel
theorem dL_divorce_4 : decode cL_divorce 4 = .ok (.iload_n 2, 1) := by decide +kernel
theorem dL_divorce_5 : decode cL_divorce 5 = .ok (.invokevirtual 55, 3) := by decide +kernel
theorem dL_divorce_8 : decode cL_divorce 8 = .ok (.ifCond .eq 7, 3) := by decide +kernel
theorem dL_divorce_11 : decode cL_divorce 11 = .ok (.lconst 1, 1) := by decide +kernel
theorem dL_divorce_12 : decode cL_divorce 12 = .ok (.goto 4, 3) := by decide +kernel
theorem dL_divorce_15 : decode cL_divorce 15 = .ok (.lconst 0, 1) := by decide +kernel
theorem dL_divorce_16 : decode cL_divorce 16 = .ok (.lastore, 1) := by decide +kernel
theorem dL_divorce_17 : decode cL_divorce 17 = .ok (.goto 11, 3) := by decide +kernel
theorem dL_divorce_20 : decode cL_divorce 20 = .ok (.astore 4, 2) := by decide +kernel
theorem dL_divorce_22 : decode cL_divorce 22 = .ok (.iconst 1, 1) := by decide +kernel
theorem dL_divorce_23 : decode cL_divorce 23 = .ok (.ireturn, 1) := by decide +kernel
theorem dL_divorce_24 : decode cL_divorce 24 = .ok (.astore 4, 2) := by decide +kernel
theorem dL_divorce_26 : decode cL_divorce 26 = .ok (.iconst 2, 1) := by decide +kernel
theorem dL_divorce_27 : decode cL_divorce 27 = .ok (.ireturn, 1) := by decide +kernel
theorem dL_divorce_28 : decode cL_divorce 28 = .ok (.iconst 0, 1) := by decide +kernel
theorem dL_divorce_29 : decode cL_divorce 29 = .ok (.ireturn, 1) := by decide +kernel
theorem dL_goods_0 : decode cL_goods 0 = .ok (.aload_n 3, 1) := by decide +kernel
theorem dL_goods_1 : decode cL_goods 1 = .ok (.iconst 0, 1) := by decide +kernel
theorem dL_goods_2 : decode cL_goods 2 = .ok (.aload_n 0, 1) := by decide +kernel
theorem dL_goods_3 : decode cL_goods 3 = .ok (.iload_n 1, 1) := by decide +kernel
theorem dL_goods_4 : decode cL_goods 4 = .ok (.iload_n 2, 1) := by decide +kernel
theorem dL_goods_5 : decode cL_goods 5 = .ok (.invokevirtual 58, 3) := by decide +kernel
theorem dL_goods_8 : decode cL_goods 8 = .ok (.lastore, 1) := by decide +kernel
theorem dL_goods_9 : decode cL_goods 9 = .ok (.goto 15, 3) := by decide +kernel
theorem dL_goods_12 : decode cL_goods 12 = .ok (.astore 4, 2) := by decide +kernel
theorem dL_goods_14 : decode cL_goods 14 = .ok (.iconst 1, 1) := by decide +kernel
theorem dL_goods_15 : decode cL_goods 15 = .ok (.ireturn, 1) := by decide +kernel
theorem dL_goods_16 : decode cL_goods 16 = .ok (.astore 4, 2) := by decide +kernel
theorem dL_goods_18 : decode cL_goods 18 = .ok (.iconst 2, 1) := by decide +kernel
theorem dL_goods_19 : decode cL_goods 19 = .ok (.ireturn, 1) := by decide +kernel
theorem dL_goods_20 : decode cL_goods 20 = .ok (.astore 4, 2) := by decide +kernel
theorem dL_goods_22 : decode cL_goods 22 = .ok (.iconst 3, 1) := by decide +kernel
theorem dL_goods_23 : decode cL_goods 23 = .ok (.ireturn, 1) := by decide +kernel
theorem dL_goods_24 : decode cL_goods 24 = .ok (.iconst 0, 1) := by decide +kernel
theorem dL_goods_25 : decode cL_goods 25 = .ok (.ireturn, 1) := by decide +kernel
theorem dL_dies_0 : decode cL_dies 0 = .ok (.aload_n 2, 1) := by decide +kernel
theorem dL_dies_1 : decode cL_dies 1 = .ok (.iconst 0, 1) := by decide +kernel
theorem dL_dies_2 : decode cL_dies 2 = .ok (.aload_n 0, 1) := by decide +kernel
theorem dL_dies_3 : decode cL_dies 3 = .ok (.iload_n 1, 1) := by decide +kernel
theorem dL_dies_4 : decode cL_dies 4 = .ok (.invokevirtual 62, 3) := by decide +kernel
theorem dL_dies_7 : decode cL_dies 7 = .ok (.lastore, 1) := by decide +kernel
theorem dL_dies_8 : decode cL_dies 8 = .ok (.goto 9, 3) := by decide +kernel
theorem dL_dies_11 : decode cL_dies 11 = .ok (.astore_n 3, 1) := by decide +kernel
theorem dL_dies_12 : decode cL_dies 12 = .ok (.iconst 1, 1) := by decide +kernel
theorem dL_dies_13 : decode cL_dies 13 = .ok (.ireturn, 1) := by decide +kernel
theorem dL_dies_14 : decode cL_dies 14 = .ok (.astore_n 3, 1) := by decide +kernel
theorem dL_dies_15 : decode cL_dies 15 = .ok (.iconst 2, 1) := by decide +kernel
theorem dL_dies_16 : decode cL_dies 16 = .ok (.ireturn, 1) := by decide +kernel
theorem dL_dies_17 : decode cL_dies 17 = .ok (.iconst 0, 1) := by decide +kernel
theorem dL_dies_18 : decode cL_dies 18 = .ok (.ireturn, 1) := by decide +kernel
theorem dL_sue_0 : decode cL_sue 0 = .ok (.aload 5, 2) := by decide +kernel
theorem dL_sue_2 : decode cL_sue 2 = .ok (.iconst 0, 1) := by decide +kernel
theorem dL_sue_3 : decode cL_sue 3 = .ok (.aload_n 0, 1) := by decide +kernel
theorem dL_sue_4 : decode cL_sue 4 = .ok (.iload_n 1, 1) := by decide +kernel
theorem dL_sue_5 : decode cL_sue 5 = .ok (.iload_n 2, 1) := by decide +kernel
theorem dL_sue_6 : decode cL_sue 6 = .ok (.iload_n 3, 1) := by decide +kernel
theorem dL_sue_7 : decode cL_sue 7 = .ok (.iload 4, 2) := by decide +kernel
theorem dL_sue_9 : decode cL_sue 9 = .ok (.invokevirtual 66, 3) := by decide +kernel
theorem dL_sue_12 : decode cL_sue 12 = .ok (.i2l, 1) := by decide +kernel
theorem dL_sue_13 : decode cL_sue 13 = .ok (.lastore, 1) := by decide +kernel
theorem dL_sue_14 : decode cL_sue 14 = .ok (.goto 15, 3) := by decide +kernel
theorem dL_sue_17 : decode cL_sue 17 = .ok (.astore 6, 2) := by decide +kernel
theorem dL_sue_19 : decode cL_sue 19 = .ok (.iconst 1, 1) := by decide +kernel
theorem dL_sue_20 : decode cL_sue 20 = .ok (.ireturn, 1) := by decide +kernel
theorem dL_sue_21 : decode cL_sue 21 = .ok (.astore 6, 2) := by decide +kernel
theorem dL_sue_23 : decode cL_sue 23 = .ok (.iconst 2, 1) := by decide +kernel
theorem dL_sue_24 : decode cL_sue 24 = .ok (.ireturn, 1) := by decide +kernel
theorem dL_sue_25 : decode cL_sue 25 = .ok (.astore 6, 2) := by decide +kernel
theorem dL_sue_27 : decode cL_sue 27 = .ok (.iconst 3, 1) := by decide +kernel
theorem dL_sue_28 : decode cL_sue 28 = .ok (.ireturn, 1) := by decide +kernel
theorem dL_sue_29 : decode cL_sue 29 = .ok (.iconst 0, 1) := by decide +kernel
theorem dL_sue_30 : decode cL_sue 30 = .ok (.ireturn, 1) := by decide +kernel
theorem dL_appear_0 : decode cL_appear 0 = .ok (.aload_n 2, 1) := by decide +kernel
theorem dL_appear_1 : decode cL_appear 1 = .ok (.iconst 0, 1) := by decide +kernel
theorem dL_appear_2 : decode cL_appear 2 = .ok (.aload_n 0, 1) := by decide +kernel
theorem dL_appear_3 : decode cL_appear 3 = .ok (.iload_n 1, 1) := by decide +kernel
theorem dL_appear_4 : decode cL_appear 4 = .ok (.invokevirtual 69, 3) := by decide +kernel
theorem dL_appear_7 : decode cL_appear 7 = .ok (.ifCond .eq 7, 3) := by decide +kernel
theorem dL_appear_10 : decode cL_appear 10 = .ok (.lconst 1, 1) := by decide +kernel
theorem dL_appear_11 : decode cL_appear 11 = .ok (.goto 4, 3) := by decide +kernel
theorem dL_appear_14 : decode cL_appear 14 = .ok (.lconst 0, 1) := by decide +kernel
theorem dL_appear_15 : decode cL_appear 15 = .ok (.lastore, 1) := by decide +kernel
theorem dL_appear_16 : decode cL_appear 16 = .ok (.goto 9, 3) := by decide +kernel
theorem dL_appear_19 : decode cL_appear 19 = .ok (.astore_n 3, 1) := by decide +kernel
theorem dL_appear_20 : decode cL_appear 20 = .ok (.iconst 1, 1) := by decide +kernel
theorem dL_appear_21 : decode cL_appear 21 = .ok (.ireturn, 1) := by decide +kernel
theorem dL_appear_22 : decode cL_appear 22 = .ok (.astore_n 3, 1) := by decide +kernel
theorem dL_appear_23 : decode cL_appear 23 = .ok (.iconst 2, 1) := by decide +kernel
theorem dL_appear_24 : decode cL_appear 24 = .ok (.ireturn, 1) := by decide +kernel
theorem dL_appear_25 : decode cL_appear 25 = .ok (.iconst 0, 1) := by decide +kernel
theorem dL_appear_26 : decode cL_appear 26 = .ok (.ireturn, 1) := by decide +kernel
theorem dL_testify_0 : decode cL_testify 0 = .ok (.aload 4, 2) := by decide +kernel
theorem dL_testify_2 : decode cL_testify 2 = .ok (.iconst 0, 1) := by decide +kernel
theorem dL_testify_3 : decode cL_testify 3 = .ok (.aload_n 0, 1) := by decide +kernel
theorem dL_testify_4 : decode cL_testify 4 = .ok (.iload_n 1, 1) := by decide +kernel
theorem dL_testify_5 : decode cL_testify 5 = .ok (.iload_n 2, 1) := by decide +kernel
theorem dL_testify_6 : decode cL_testify 6 = .ok (.iload_n 3, 1) := by decide +kernel
theorem dL_testify_7 : decode cL_testify 7 = .ok (.invokevirtual 73, 3) := by decide +kernel
theorem dL_testify_10 : decode cL_testify 10 = .ok (.i2l, 1) := by decide +kernel
theorem dL_testify_11 : decode cL_testify 11 = .ok (.lastore, 1) := by decide +kernel
theorem dL_testify_12 : decode cL_testify 12 = .ok (.goto 11, 3) := by decide +kernel
theorem dL_testify_15 : decode cL_testify 15 = .ok (.astore 5, 2) := by decide +kernel
theorem dL_testify_17 : decode cL_testify 17 = .ok (.iconst 1, 1) := by decide +kernel
theorem dL_testify_18 : decode cL_testify 18 = .ok (.ireturn, 1) := by decide +kernel
theorem dL_testify_19 : decode cL_testify 19 = .ok (.astore 5, 2) := by decide +kernel
theorem dL_testify_21 : decode cL_testify 21 = .ok (.iconst 2, 1) := by decide +kernel
theorem dL_testify_22 : decode cL_testify 22 = .ok (.ireturn, 1) := by decide +kernel
theorem dL_testify_23 : decode cL_testify 23 = .ok (.iconst 0, 1) := by decide +kernel
theorem dL_testify_24 : decode cL_testify 24 = .ok (.ireturn, 1) := by decide +kernel
theorem dL_judge_0 : decode cL_judge 0 = .ok (.aload_n 2, 1) := by decide +kernel
theorem dL_judge_1 : decode cL_judge 1 = .ok (.iconst 0, 1) := by decide +kernel
theorem dL_judge_2 : decode cL_judge 2 = .ok (.aload_n 0, 1) := by decide +kernel
theorem dL_judge_3 : decode cL_judge 3 = .ok (.iload_n 1, 1) := by decide +kernel
theorem dL_judge_4 : decode cL_judge 4 = .ok (.invokevirtual 77, 3) := by decide +kernel
theorem dL_judge_7 : decode cL_judge 7 = .ok (.ifCond .eq 7, 3) := by decide +kernel
theorem dL_judge_10 : decode cL_judge 10 = .ok (.lconst 1, 1) := by decide +kernel
theorem dL_judge_11 : decode cL_judge 11 = .ok (.goto 4, 3) := by decide +kernel
theorem dL_judge_14 : decode cL_judge 14 = .ok (.lconst 0, 1) := by decide +kernel
theorem dL_judge_15 : decode cL_judge 15 = .ok (.lastore, 1) := by decide +kernel
theorem dL_judge_16 : decode cL_judge 16 = .ok (.goto 9, 3) := by decide +kernel
theorem dL_judge_19 : decode cL_judge 19 = .ok (.astore_n 3, 1) := by decide +kernel
theorem dL_judge_20 : decode cL_judge 20 = .ok (.iconst 1, 1) := by decide +kernel
theorem dL_judge_21 : decode cL_judge 21 = .ok (.ireturn, 1) := by decide +kernel
theorem dL_judge_22 : decode cL_judge 22 = .ok (.astore_n 3, 1) := by decide +kernel
theorem dL_judge_23 : decode cL_judge 23 = .ok (.iconst 2, 1) := by decide +kernel
theorem dL_judge_24 : decode cL_judge 24 = .ok (.ireturn, 1) := by decide +kernel
theorem dL_judge_25 : decode cL_judge 25 = .ok (.iconst 0, 1) := by decide +kernel
theorem dL_judge_26 : decode cL_judge 26 = .ok (.ireturn, 1) := by decide +kernel
theorem dL_appeal_0 : decode cL_appeal 0 = .ok (.aload_n 2, 1) := by decide +kernel
theorem dL_appeal_1 : decode cL_appeal 1 = .ok (.iconst 0, 1) := by decide +kernel
theorem dL_appeal_2 : decode cL_appeal 2 = .ok (.aload_n 0, 1) := by decide +kernel
theorem dL_appeal_3 : decode cL_appeal 3 = .ok (.iload_n 1, 1) := by decide +kernel
theorem dL_appeal_4 : decode cL_appeal 4 = .ok (.invokevirtual 80, 3) := by decide +kernel
theorem dL_appeal_7 : decode cL_appeal 7 = .ok (.ifCond .eq 7, 3) := by decide +kernel
theorem dL_appeal_10 : decode cL_appeal 10 = .ok (.lconst 1, 1) := by decide +kernel
theorem dL_appeal_11 : decode cL_appeal 11 = .ok (.goto 4, 3) := by decide +kernel
theorem dL_appeal_14 : decode cL_appeal 14 = .ok (.lconst 0, 1) := by decide +kernel
theorem dL_appeal_15 : decode cL_appeal 15 = .ok (.lastore, 1) := by decide +kernel
theorem dL_appeal_16 : decode cL_appeal 16 = .ok (.goto 9, 3) := by decide +kernel
theorem dL_appeal_19 : decode cL_appeal 19 = .ok (.astore_n 3, 1) := by decide +kernel
theorem dL_appeal_20 : decode cL_appeal 20 = .ok (.iconst 1, 1) := by decide +kernel
theorem dL_appeal_21 : decode cL_appeal 21 = .ok (.ireturn, 1) := by decide +kernel
theorem dL_appeal_22 : decode cL_appeal 22 = .ok (.astore_n 3, 1) := by decide +kernel
theorem dL_appeal_23 : decode cL_appeal 23 = .ok (.iconst 2, 1) := by decide +kernel
theorem dL_appeal_24 : decode cL_appeal 24 = .ok (.ireturn, 1) := by decide +kernel
theorem dL_appeal_25 : decode cL_appeal 25 = .ok (.iconst 0, 1) := by decide +kernel
theorem dL_appeal_26 : decode cL_appeal 26 = .ok (.ireturn, 1) := by decide +kernel
theorem dL_execute_0 : decode cL_execute 0 = .ok (.aload_n 2, 1) := by decide +kernel
theorem dL_execute_1 : decode cL_execute 1 = .ok (.iconst 0, 1) := by decide +kernel
theorem dL_execute_2 : decode cL_execute 2 = .ok (.aload_n 0, 1) := by decide +kernel
theorem dL_execute_3 : decode cL_execute 3 = .ok (.iload_n 1, 1) := by decide +kernel
theorem dL_execute_4 : decode cL_execute 4 = .ok (.invokevirtual 83, 3) := by decide +kernel
theorem dL_execute_7 : decode cL_execute 7 = .ok (.lastore, 1) := by decide +kernel
theorem dL_execute_8 : decode cL_execute 8 = .ok (.goto 9, 3) := by decide +kernel
theorem dL_execute_11 : decode cL_execute 11 = .ok (.astore_n 3, 1) := by decide +kernel
theorem dL_execute_12 : decode cL_execute 12 = .ok (.iconst 1, 1) := by decide +kernel
theorem dL_execute_13 : decode cL_execute 13 = .ok (.ireturn, 1) := by decide +kernel
theorem dL_execute_14 : decode cL_execute 14 = .ok (.astore_n 3, 1) := by decide +kernel
theorem dL_execute_15 : decode cL_execute 15 = .ok (.iconst 2, 1) := by decide +kernel
theorem dL_execute_16 : decode cL_execute 16 = .ok (.ireturn, 1) := by decide +kernel
theorem dL_execute_17 : decode cL_execute 17 = .ok (.iconst 0, 1) := by decide +kernel
theorem dL_execute_18 : decode cL_execute 18 = .ok (.ireturn, 1) := by decide +kernel
theorem dL_wins_0 : decode cL_wins 0 = .ok (.aload_n 3, 1) := by decide +kernel
theorem dL_wins_1 : decode cL_wins 1 = .ok (.iconst 0, 1) := by decide +kernel
theorem dL_wins_2 : decode cL_wins 2 = .ok (.aload_n 0, 1) := by decide +kernel
theorem dL_wins_3 : decode cL_wins 3 = .ok (.iload_n 1, 1) := by decide +kernel
theorem dL_wins_4 : decode cL_wins 4 = .ok (.iload_n 2, 1) := by decide +kernel
theorem dL_wins_5 : decode cL_wins 5 = .ok (.invokevirtual 86, 3) := by decide +kernel
theorem dL_wins_8 : decode cL_wins 8 = .ok (.ifCond .eq 7, 3) := by decide +kernel
theorem dL_wins_11 : decode cL_wins 11 = .ok (.lconst 1, 1) := by decide +kernel
theorem dL_wins_12 : decode cL_wins 12 = .ok (.goto 4, 3) := by decide +kernel
theorem dL_wins_15 : decode cL_wins 15 = .ok (.lconst 0, 1) := by decide +kernel
theorem dL_wins_16 : decode cL_wins 16 = .ok (.lastore, 1) := by decide +kernel
theorem dL_wins_17 : decode cL_wins 17 = .ok (.goto 7, 3) := by decide +kernel
theorem dL_wins_20 : decode cL_wins 20 = .ok (.astore 4, 2) := by decide +kernel
theorem dL_wins_22 : decode cL_wins 22 = .ok (.iconst 1, 1) := by decide +kernel
theorem dL_wins_23 : decode cL_wins 23 = .ok (.ireturn, 1) := by decide +kernel
theorem dL_wins_24 : decode cL_wins 24 = .ok (.iconst 0, 1) := by decide +kernel
theorem dL_wins_25 : decode cL_wins 25 = .ok (.ireturn, 1) := by decide +kernel
theorem dL_ofPerson_0 : decode cL_ofPerson 0 = .ok (.aload_n 3, 1) := by decide +kernel
theorem dL_ofPerson_1 : decode cL_ofPerson 1 = .ok (.iconst 0, 1) := by decide +kernel
theorem dL_ofPerson_2 : decode cL_ofPerson 2 = .ok (.aload_n 0, 1) := by decide +kernel
theorem dL_ofPerson_3 : decode cL_ofPerson 3 = .ok (.iload_n 1, 1) := by decide +kernel
theorem dL_ofPerson_4 : decode cL_ofPerson 4 = .ok (.iload_n 2, 1) := by decide +kernel
theorem dL_ofPerson_5 : decode cL_ofPerson 5 = .ok (.invokevirtual 90, 3) := by decide +kernel
theorem dL_ofPerson_8 : decode cL_ofPerson 8 = .ok (.lastore, 1) := by decide +kernel
theorem dL_ofPerson_9 : decode cL_ofPerson 9 = .ok (.goto 11, 3) := by decide +kernel
theorem dL_ofPerson_12 : decode cL_ofPerson 12 = .ok (.astore 4, 2) := by decide +kernel
theorem dL_ofPerson_14 : decode cL_ofPerson 14 = .ok (.iconst 1, 1) := by decide +kernel
theorem dL_ofPerson_15 : decode cL_ofPerson 15 = .ok (.ireturn, 1) := by decide +kernel
theorem dL_ofPerson_16 : decode cL_ofPerson 16 = .ok (.astore 4, 2) := by decide +kernel
theorem dL_ofPerson_18 : decode cL_ofPerson 18 = .ok (.iconst 2, 1) := by decide +kernel
theorem dL_ofPerson_19 : decode cL_ofPerson 19 = .ok (.ireturn, 1) := by decide +kernel
theorem dL_ofPerson_20 : decode cL_ofPerson 20 = .ok (.iconst 0, 1) := by decide +kernel
theorem dL_ofPerson_21 : decode cL_ofPerson 21 = .ok (.ireturn, 1) := by decide +kernel
theorem dL_ofMarriage_0 : decode cL_ofMarriage 0 = .ok (.aload_n 3, 1) := by decide +kernel
theorem dL_ofMarriage_1 : decode cL_ofMarriage 1 = .ok (.iconst 0, 1) := by decide +kernel
theorem dL_ofMarriage_2 : decode cL_ofMarriage 2 = .ok (.aload_n 0, 1) := by decide +kernel
theorem dL_ofMarriage_3 : decode cL_ofMarriage 3 = .ok (.iload_n 1, 1) := by decide +kernel
theorem dL_ofMarriage_4 : decode cL_ofMarriage 4 = .ok (.iload_n 2, 1) := by decide +kernel
theorem dL_ofMarriage_5 : decode cL_ofMarriage 5 = .ok (.invokevirtual 93, 3) := by decide +kernel
theorem dL_ofMarriage_8 : decode cL_ofMarriage 8 = .ok (.i2l, 1) := by decide +kernel
theorem dL_ofMarriage_9 : decode cL_ofMarriage 9 = .ok (.lastore, 1) := by decide +kernel
theorem dL_ofMarriage_10 : decode cL_ofMarriage 10 = .ok (.goto 11, 3) := by decide +kernel
theorem dL_ofMarriage_13 : decode cL_ofMarriage 13 = .ok (.astore 4, 2) := by decide +kernel
theorem dL_ofMarriage_15 : decode cL_ofMarriage 15 = .ok (.iconst 1, 1) := by decide +kernel
theorem dL_ofMarriage_16 : decode cL_ofMarriage 16 = .ok (.ireturn, 1) := by decide +kernel
theorem dL_ofMarriage_17 : decode cL_ofMarriage 17 = .ok (.astore 4, 2) := by decide +kernel
theorem dL_ofMarriage_19 : decode cL_ofMarriage 19 = .ok (.iconst 2, 1) := by decide +kernel
theorem dL_ofMarriage_20 : decode cL_ofMarriage 20 = .ok (.ireturn, 1) := by decide +kernel
theorem dL_ofMarriage_21 : decode cL_ofMarriage 21 = .ok (.iconst 0, 1) := by decide +kernel
theorem dL_ofMarriage_22 : decode cL_ofMarriage 22 = .ok (.ireturn, 1) := by decide +kernel
theorem dL_ofSuit_0 : decode cL_ofSuit 0 = .ok (.aload_n 3, 1) := by decide +kernel
theorem dL_ofSuit_1 : decode cL_ofSuit 1 = .ok (.iconst 0, 1) := by decide +kernel
theorem dL_ofSuit_2 : decode cL_ofSuit 2 = .ok (.aload_n 0, 1) := by decide +kernel
theorem dL_ofSuit_3 : decode cL_ofSuit 3 = .ok (.iload_n 1, 1) := by decide +kernel
theorem dL_ofSuit_4 : decode cL_ofSuit 4 = .ok (.iload_n 2, 1) := by decide +kernel
theorem dL_ofSuit_5 : decode cL_ofSuit 5 = .ok (.invokevirtual 96, 3) := by decide +kernel
theorem dL_ofSuit_8 : decode cL_ofSuit 8 = .ok (.i2l, 1) := by decide +kernel
theorem dL_ofSuit_9 : decode cL_ofSuit 9 = .ok (.lastore, 1) := by decide +kernel
theorem dL_ofSuit_10 : decode cL_ofSuit 10 = .ok (.goto 11, 3) := by decide +kernel
theorem dL_ofSuit_13 : decode cL_ofSuit 13 = .ok (.astore 4, 2) := by decide +kernel
theorem dL_ofSuit_15 : decode cL_ofSuit 15 = .ok (.iconst 1, 1) := by decide +kernel
theorem dL_ofSuit_16 : decode cL_ofSuit 16 = .ok (.ireturn, 1) := by decide +kernel
theorem dL_ofSuit_17 : decode cL_ofSuit 17 = .ok (.astore 4, 2) := by decide +kernel
theorem dL_ofSuit_19 : decode cL_ofSuit 19 = .ok (.iconst 2, 1) := by decide +kernel
theorem dL_ofSuit_20 : decode cL_ofSuit 20 = .ok (.ireturn, 1) := by decide +kernel
theorem dL_ofSuit_21 : decode cL_ofSuit 21 = .ok (.iconst 0, 1) := by decide +kernel
theorem dL_ofSuit_22 : decode cL_ofSuit 22 = .ok (.ireturn, 1) := by decide +kernel
theorem dL_pass_0 : decode cL_pass 0 = .ok (.aload_n 2, 1) := by decide +kernel
theorem dL_pass_1 : decode cL_pass 1 = .ok (.iconst 0, 1) := by decide +kernel
theorem dL_pass_2 : decode cL_pass 2 = .ok (.aload_n 0, 1) := by decide +kernel
theorem dL_pass_3 : decode cL_pass 3 = .ok (.iload_n 1, 1) := by decide +kernel
theorem dL_pass_4 : decode cL_pass 4 = .ok (.invokevirtual 99, 3) := by decide +kernel
theorem dL_pass_7 : decode cL_pass 7 = .ok (.i2l, 1) := by decide +kernel
theorem dL_pass_8 : decode cL_pass 8 = .ok (.lastore, 1) := by decide +kernel
theorem dL_pass_9 : decode cL_pass 9 = .ok (.goto 9, 3) := by decide +kernel
theorem dL_pass_12 : decode cL_pass 12 = .ok (.astore_n 3, 1) := by decide +kernel
theorem dL_pass_13 : decode cL_pass 13 = .ok (.iconst 1, 1) := by decide +kernel
theorem dL_pass_14 : decode cL_pass 14 = .ok (.ireturn, 1) := by decide +kernel
theorem dL_pass_15 : decode cL_pass 15 = .ok (.astore_n 3, 1) := by decide +kernel
theorem dL_pass_16 : decode cL_pass 16 = .ok (.iconst 2, 1) := by decide +kernel
theorem dL_pass_17 : decode cL_pass 17 = .ok (.ireturn, 1) := by decide +kernel
theorem dL_pass_18 : decode cL_pass 18 = .ok (.iconst 0, 1) := by decide +kernel
theorem dL_pass_19 : decode cL_pass 19 = .ok (.ireturn, 1) := by decide +kernel
theorem dL_law__0 : decode cL_law_ 0 = .ok (.new 8, 3) := by decide +kernel
theorem dL_law__3 : decode cL_law_ 3 = .ok (.dup, 1) := by decide +kernel
theorem dL_law__4 : decode cL_law_ 4 = .ok (.invokespecial 102, 3) := by decide +kernel
theorem dL_law__7 : decode cL_law_ 7 = .ok (.astore_n 1, 1) := by decide +kernel
theorem dL_law__8 : decode cL_law_ 8 = .ok (.new 103, 3) := by decide +kernel
theorem dL_law__11 : decode cL_law_ 11 = .ok (.dup, 1) := by decide +kernel
theorem dL_law__12 : decode cL_law_ 12 = .ok (.invokespecial 105, 3) := by decide +kernel
theorem dL_law__15 : decode cL_law_ 15 = .ok (.astore_n 2, 1) := by decide +kernel
theorem dL_law__16 : decode cL_law_ 16 = .ok (.iconst 1, 1) := by decide +kernel
theorem dL_law__17 : decode cL_law_ 17 = .ok (.newarray .long, 2) := by decide +kernel
theorem dL_law__19 : decode cL_law_ 19 = .ok (.astore_n 3, 1) := by decide +kernel
theorem dL_law__20 : decode cL_law_ 20 = .ok (.iconst 0, 1) := by decide +kernel
theorem dL_law__21 : decode cL_law_ 21 = .ok (.istore 4, 2) := by decide +kernel
theorem dL_law__23 : decode cL_law_ 23 = .ok (.iload 4, 2) := by decide +kernel
theorem dL_law__25 : decode cL_law_ 25 = .ok (.aload_n 0, 1) := by decide +kernel
theorem dL_law__26 : decode cL_law_ 26 = .ok (.arraylength, 1) := by decide +kernel
theorem dL_law__27 : decode cL_law_ 27 = .ok (.iconst 5, 1) := by decide +kernel
theorem dL_law__28 : decode cL_law_ 28 = .ok (.isub, 1) := by decide +kernel
theorem dL_law__29 : decode cL_law_ 29 = .ok (.if_icmp .gt 2003, 3) := by decide +kernel
theorem dL_law__32 : decode cL_law_ 32 = .ok (.aload_n 0, 1) := by decide +kernel
theorem dL_law__33 : decode cL_law_ 33 = .ok (.iload 4, 2) := by decide +kernel
theorem dL_law__35 : decode cL_law_ 35 = .ok (.iaload, 1) := by decide +kernel
theorem dL_law__36 : decode cL_law_ 36 = .ok (.bipush 31, 2) := by decide +kernel
theorem dL_law__38 : decode cL_law_ 38 = .ok (.iand, 1) := by decide +kernel
theorem dL_law__39 : decode cL_law_ 39 = .ok (.tableswitch 1987 0 26 #[121, 165, 256, 336, 404, 484, 576, 684, 776, 832, 900, 980, 1071, 1138, 1193, 1285, 1348, 1444, 1507, 1570, 1625, 1700, 1767, 1835, 1903, 1917, 1931], 121) := by decide +kernel
theorem dL_law__160 : decode cL_law_ 160 = .ok (.aload_n 1, 1) := by decide +kernel
theorem dL_law__161 : decode cL_law_ 161 = .ok (.aload_n 3, 1) := by decide +kernel
theorem dL_law__162 : decode cL_law_ 162 = .ok (.invokestatic 106, 3) := by decide +kernel
theorem dL_law__165 : decode cL_law_ 165 = .ok (.istore 5, 2) := by decide +kernel
theorem dL_law__167 : decode cL_law_ 167 = .ok (.aload_n 2, 1) := by decide +kernel
theorem dL_law__168 : decode cL_law_ 168 = .ok (.invokevirtual 111, 3) := by decide +kernel
theorem dL_law__171 : decode cL_law_ 171 = .ok (.istore 6, 2) := by decide +kernel
theorem dL_law__173 : decode cL_law_ 173 = .ok (.aload_n 2, 1) := by decide +kernel
theorem dL_law__174 : decode cL_law_ 174 = .ok (.invokevirtual 112, 3) := by decide +kernel
theorem dL_law__177 : decode cL_law_ 177 = .ok (.iload 5, 2) := by decide +kernel
theorem dL_law__179 : decode cL_law_ 179 = .ok (.if_icmp .eq 5, 3) := by decide +kernel
theorem dL_law__182 : decode cL_law_ 182 = .ok (.iconst 0, 1) := by decide +kernel
theorem dL_law__183 : decode cL_law_ 183 = .ok (.ireturn, 1) := by decide +kernel
theorem dL_law__184 : decode cL_law_ 184 = .ok (.iload 5, 2) := by decide +kernel
theorem dL_law__186 : decode cL_law_ 186 = .ok (.ifCond .ne 15, 3) := by decide +kernel
theorem dL_law__189 : decode cL_law_ 189 = .ok (.aload_n 3, 1) := by decide +kernel
theorem dL_law__190 : decode cL_law_ 190 = .ok (.iconst 0, 1) := by decide +kernel
theorem dL_law__191 : decode cL_law_ 191 = .ok (.laload, 1) := by decide +kernel
theorem dL_law__192 : decode cL_law_ 192 = .ok (.iload 6, 2) := by decide +kernel
theorem dL_law__194 : decode cL_law_ 194 = .ok (.i2l, 1) := by decide +kernel
theorem dL_law__195 : decode cL_law_ 195 = .ok (.lcmp, 1) := by decide +kernel
theorem dL_law__196 : decode cL_law_ 196 = .ok (.ifCond .eq 5, 3) := by decide +kernel
theorem dL_law__199 : decode cL_law_ 199 = .ok (.iconst 0, 1) := by decide +kernel
theorem dL_law__200 : decode cL_law_ 200 = .ok (.ireturn, 1) := by decide +kernel
theorem dL_law__201 : decode cL_law_ 201 = .ok (.goto 1825, 3) := by decide +kernel
theorem dL_law__204 : decode cL_law_ 204 = .ok (.aload_n 1, 1) := by decide +kernel
theorem dL_law__205 : decode cL_law_ 205 = .ok (.aload_n 0, 1) := by decide +kernel
theorem dL_law__206 : decode cL_law_ 206 = .ok (.iload 4, 2) := by decide +kernel
theorem dL_law__208 : decode cL_law_ 208 = .ok (.iconst 1, 1) := by decide +kernel
theorem dL_law__209 : decode cL_law_ 209 = .ok (.iadd, 1) := by decide +kernel
theorem dL_law__210 : decode cL_law_ 210 = .ok (.iaload, 1) := by decide +kernel
theorem dL_law__211 : decode cL_law_ 211 = .ok (.aload_n 0, 1) := by decide +kernel
theorem dL_law__212 : decode cL_law_ 212 = .ok (.iload 4, 2) := by decide +kernel
theorem dL_law__214 : decode cL_law_ 214 = .ok (.iconst 2, 1) := by decide +kernel
theorem dL_law__215 : decode cL_law_ 215 = .ok (.iadd, 1) := by decide +kernel
theorem dL_law__216 : decode cL_law_ 216 = .ok (.iaload, 1) := by decide +kernel
theorem dL_law__217 : decode cL_law_ 217 = .ok (.ifCond .eq 7, 3) := by decide +kernel
theorem dL_law__220 : decode cL_law_ 220 = .ok (.iconst 1, 1) := by decide +kernel
theorem dL_law__221 : decode cL_law_ 221 = .ok (.goto 4, 3) := by decide +kernel
theorem dL_law__224 : decode cL_law_ 224 = .ok (.iconst 0, 1) := by decide +kernel
theorem dL_law__225 : decode cL_law_ 225 = .ok (.aload_n 3, 1) := by decide +kernel
theorem dL_law__226 : decode cL_law_ 226 = .ok (.invokestatic 115, 3) := by decide +kernel
theorem dL_law__229 : decode cL_law_ 229 = .ok (.istore 5, 2) := by decide +kernel
theorem dL_law__231 : decode cL_law_ 231 = .ok (.aload_n 2, 1) := by decide +kernel
theorem dL_law__232 : decode cL_law_ 232 = .ok (.aload_n 0, 1) := by decide +kernel
theorem dL_law__233 : decode cL_law_ 233 = .ok (.iload 4, 2) := by decide +kernel
theorem dL_law__235 : decode cL_law_ 235 = .ok (.iconst 1, 1) := by decide +kernel
theorem dL_law__236 : decode cL_law_ 236 = .ok (.iadd, 1) := by decide +kernel
theorem dL_law__237 : decode cL_law_ 237 = .ok (.iaload, 1) := by decide +kernel
theorem dL_law__238 : decode cL_law_ 238 = .ok (.aload_n 0, 1) := by decide +kernel
theorem dL_law__239 : decode cL_law_ 239 = .ok (.iload 4, 2) := by decide +kernel
theorem dL_law__241 : decode cL_law_ 241 = .ok (.iconst 2, 1) := by decide +kernel
theorem dL_law__242 : decode cL_law_ 242 = .ok (.iadd, 1) := by decide +kernel
theorem dL_law__243 : decode cL_law_ 243 = .ok (.iaload, 1) := by decide +kernel
theorem dL_law__244 : decode cL_law_ 244 = .ok (.ifCond .eq 7, 3) := by decide +kernel
theorem dL_law__247 : decode cL_law_ 247 = .ok (.iconst 1, 1) := by decide +kernel
theorem dL_law__248 : decode cL_law_ 248 = .ok (.goto 4, 3) := by decide +kernel
theorem dL_law__251 : decode cL_law_ 251 = .ok (.iconst 0, 1) := by decide +kernel
theorem dL_law__252 : decode cL_law_ 252 = .ok (.invokevirtual 118, 3) := by decide +kernel
theorem dL_law__255 : decode cL_law_ 255 = .ok (.istore 6, 2) := by decide +kernel
theorem dL_law__257 : decode cL_law_ 257 = .ok (.aload_n 2, 1) := by decide +kernel
theorem dL_law__258 : decode cL_law_ 258 = .ok (.invokevirtual 112, 3) := by decide +kernel
theorem dL_law__261 : decode cL_law_ 261 = .ok (.iload 5, 2) := by decide +kernel
theorem dL_law__263 : decode cL_law_ 263 = .ok (.if_icmp .eq 5, 3) := by decide +kernel
theorem dL_law__266 : decode cL_law_ 266 = .ok (.iconst 0, 1) := by decide +kernel
theorem dL_law__267 : decode cL_law_ 267 = .ok (.ireturn, 1) := by decide +kernel
theorem dL_law__268 : decode cL_law_ 268 = .ok (.iload 5, 2) := by decide +kernel
theorem dL_law__270 : decode cL_law_ 270 = .ok (.ifCond .ne 22, 3) := by decide +kernel
theorem dL_law__273 : decode cL_law_ 273 = .ok (.aload_n 3, 1) := by decide +kernel
theorem dL_law__274 : decode cL_law_ 274 = .ok (.iconst 0, 1) := by decide +kernel
theorem dL_law__275 : decode cL_law_ 275 = .ok (.laload, 1) := by decide +kernel
theorem dL_law__276 : decode cL_law_ 276 = .ok (.iload 6, 2) := by decide +kernel
theorem dL_law__278 : decode cL_law_ 278 = .ok (.ifCond .eq 7, 3) := by decide +kernel
theorem dL_law__281 : decode cL_law_ 281 = .ok (.lconst 1, 1) := by decide +kernel
theorem dL_law__282 : decode cL_law_ 282 = .ok (.goto 4, 3) := by decide +kernel
theorem dL_law__285 : decode cL_law_ 285 = .ok (.lconst 0, 1) := by decide +kernel
theorem dL_law__286 : decode cL_law_ 286 = .ok (.lcmp, 1) := by decide +kernel
theorem dL_law__287 : decode cL_law_ 287 = .ok (.ifCond .eq 5, 3) := by decide +kernel
theorem dL_law__290 : decode cL_law_ 290 = .ok (.iconst 0, 1) := by decide +kernel
theorem dL_law__291 : decode cL_law_ 291 = .ok (.ireturn, 1) := by decide +kernel
theorem dL_law__292 : decode cL_law_ 292 = .ok (.goto 1734, 3) := by decide +kernel
theorem dL_law__295 : decode cL_law_ 295 = .ok (.aload_n 1, 1) := by decide +kernel
theorem dL_law__296 : decode cL_law_ 296 = .ok (.aload_n 0, 1) := by decide +kernel
theorem dL_law__297 : decode cL_law_ 297 = .ok (.iload 4, 2) := by decide +kernel
theorem dL_law__299 : decode cL_law_ 299 = .ok (.iconst 1, 1) := by decide +kernel
theorem dL_law__300 : decode cL_law_ 300 = .ok (.iadd, 1) := by decide +kernel
theorem dL_law__301 : decode cL_law_ 301 = .ok (.iaload, 1) := by decide +kernel
theorem dL_law__302 : decode cL_law_ 302 = .ok (.aload_n 0, 1) := by decide +kernel
theorem dL_law__303 : decode cL_law_ 303 = .ok (.iload 4, 2) := by decide +kernel
theorem dL_law__305 : decode cL_law_ 305 = .ok (.iconst 2, 1) := by decide +kernel
theorem dL_law__306 : decode cL_law_ 306 = .ok (.iadd, 1) := by decide +kernel
theorem dL_law__307 : decode cL_law_ 307 = .ok (.iaload, 1) := by decide +kernel
theorem dL_law__308 : decode cL_law_ 308 = .ok (.aload_n 0, 1) := by decide +kernel
theorem dL_law__309 : decode cL_law_ 309 = .ok (.iload 4, 2) := by decide +kernel
theorem dL_law__311 : decode cL_law_ 311 = .ok (.iconst 3, 1) := by decide +kernel
theorem dL_law__312 : decode cL_law_ 312 = .ok (.iadd, 1) := by decide +kernel
theorem dL_law__313 : decode cL_law_ 313 = .ok (.iaload, 1) := by decide +kernel
theorem dL_law__314 : decode cL_law_ 314 = .ok (.aload_n 3, 1) := by decide +kernel
theorem dL_law__315 : decode cL_law_ 315 = .ok (.invokestatic 119, 3) := by decide +kernel
theorem dL_law__318 : decode cL_law_ 318 = .ok (.istore 5, 2) := by decide +kernel
theorem dL_law__320 : decode cL_law_ 320 = .ok (.aload_n 2, 1) := by decide +kernel
theorem dL_law__321 : decode cL_law_ 321 = .ok (.aload_n 0, 1) := by decide +kernel
theorem dL_law__322 : decode cL_law_ 322 = .ok (.iload 4, 2) := by decide +kernel
theorem dL_law__324 : decode cL_law_ 324 = .ok (.iconst 1, 1) := by decide +kernel
theorem dL_law__325 : decode cL_law_ 325 = .ok (.iadd, 1) := by decide +kernel
theorem dL_law__326 : decode cL_law_ 326 = .ok (.iaload, 1) := by decide +kernel
theorem dL_law__327 : decode cL_law_ 327 = .ok (.aload_n 0, 1) := by decide +kernel
theorem dL_law__328 : decode cL_law_ 328 = .ok (.iload 4, 2) := by decide +kernel
theorem dL_law__330 : decode cL_law_ 330 = .ok (.iconst 2, 1) := by decide +kernel
theorem dL_law__331 : decode cL_law_ 331 = .ok (.iadd, 1) := by decide +kernel
theorem dL_law__332 : decode cL_law_ 332 = .ok (.iaload, 1) := by decide +kernel
theorem dL_law__333 : decode cL_law_ 333 = .ok (.aload_n 0, 1) := by decide +kernel
theorem dL_law__334 : decode cL_law_ 334 = .ok (.iload 4, 2) := by decide +kernel
theorem dL_law__336 : decode cL_law_ 336 = .ok (.iconst 3, 1) := by decide +kernel
theorem dL_law__337 : decode cL_law_ 337 = .ok (.iadd, 1) := by decide +kernel
theorem dL_law__338 : decode cL_law_ 338 = .ok (.iaload, 1) := by decide +kernel
theorem dL_law__339 : decode cL_law_ 339 = .ok (.invokevirtual 122, 3) := by decide +kernel
theorem dL_law__342 : decode cL_law_ 342 = .ok (.istore 6, 2) := by decide +kernel
theorem dL_law__344 : decode cL_law_ 344 = .ok (.aload_n 2, 1) := by decide +kernel
theorem dL_law__345 : decode cL_law_ 345 = .ok (.invokevirtual 112, 3) := by decide +kernel
theorem dL_law__348 : decode cL_law_ 348 = .ok (.iload 5, 2) := by decide +kernel
theorem dL_law__350 : decode cL_law_ 350 = .ok (.if_icmp .eq 5, 3) := by decide +kernel
theorem dL_law__353 : decode cL_law_ 353 = .ok (.iconst 0, 1) := by decide +kernel
theorem dL_law__354 : decode cL_law_ 354 = .ok (.ireturn, 1) := by decide +kernel
theorem dL_law__355 : decode cL_law_ 355 = .ok (.iload 5, 2) := by decide +kernel
theorem dL_law__357 : decode cL_law_ 357 = .ok (.ifCond .ne 15, 3) := by decide +kernel
theorem dL_law__360 : decode cL_law_ 360 = .ok (.aload_n 3, 1) := by decide +kernel
theorem dL_law__361 : decode cL_law_ 361 = .ok (.iconst 0, 1) := by decide +kernel
theorem dL_law__362 : decode cL_law_ 362 = .ok (.laload, 1) := by decide +kernel
theorem dL_law__363 : decode cL_law_ 363 = .ok (.iload 6, 2) := by decide +kernel
theorem dL_law__365 : decode cL_law_ 365 = .ok (.i2l, 1) := by decide +kernel
theorem dL_law__366 : decode cL_law_ 366 = .ok (.lcmp, 1) := by decide +kernel
theorem dL_law__367 : decode cL_law_ 367 = .ok (.ifCond .eq 5, 3) := by decide +kernel
theorem dL_law__370 : decode cL_law_ 370 = .ok (.iconst 0, 1) := by decide +kernel
theorem dL_law__371 : decode cL_law_ 371 = .ok (.ireturn, 1) := by decide +kernel
theorem dL_law__372 : decode cL_law_ 372 = .ok (.goto 1654, 3) := by decide +kernel
theorem dL_law__375 : decode cL_law_ 375 = .ok (.aload_n 1, 1) := by decide +kernel
theorem dL_law__376 : decode cL_law_ 376 = .ok (.aload_n 0, 1) := by decide +kernel
theorem dL_law__377 : decode cL_law_ 377 = .ok (.iload 4, 2) := by decide +kernel
theorem dL_law__379 : decode cL_law_ 379 = .ok (.iconst 1, 1) := by decide +kernel
theorem dL_law__380 : decode cL_law_ 380 = .ok (.iadd, 1) := by decide +kernel
theorem dL_law__381 : decode cL_law_ 381 = .ok (.iaload, 1) := by decide +kernel
theorem dL_law__382 : decode cL_law_ 382 = .ok (.aload_n 0, 1) := by decide +kernel
theorem dL_law__383 : decode cL_law_ 383 = .ok (.iload 4, 2) := by decide +kernel
theorem dL_law__385 : decode cL_law_ 385 = .ok (.iconst 2, 1) := by decide +kernel
theorem dL_law__386 : decode cL_law_ 386 = .ok (.iadd, 1) := by decide +kernel
theorem dL_law__387 : decode cL_law_ 387 = .ok (.iaload, 1) := by decide +kernel
theorem dL_law__388 : decode cL_law_ 388 = .ok (.aload_n 3, 1) := by decide +kernel
theorem dL_law__389 : decode cL_law_ 389 = .ok (.invokestatic 123, 3) := by decide +kernel
theorem dL_law__392 : decode cL_law_ 392 = .ok (.istore 5, 2) := by decide +kernel
theorem dL_law__394 : decode cL_law_ 394 = .ok (.aload_n 2, 1) := by decide +kernel
theorem dL_law__395 : decode cL_law_ 395 = .ok (.aload_n 0, 1) := by decide +kernel
theorem dL_law__396 : decode cL_law_ 396 = .ok (.iload 4, 2) := by decide +kernel
theorem dL_law__398 : decode cL_law_ 398 = .ok (.iconst 1, 1) := by decide +kernel
theorem dL_law__399 : decode cL_law_ 399 = .ok (.iadd, 1) := by decide +kernel
theorem dL_law__400 : decode cL_law_ 400 = .ok (.iaload, 1) := by decide +kernel
theorem dL_law__401 : decode cL_law_ 401 = .ok (.aload_n 0, 1) := by decide +kernel
theorem dL_law__402 : decode cL_law_ 402 = .ok (.iload 4, 2) := by decide +kernel
theorem dL_law__404 : decode cL_law_ 404 = .ok (.iconst 2, 1) := by decide +kernel
theorem dL_law__405 : decode cL_law_ 405 = .ok (.iadd, 1) := by decide +kernel
theorem dL_law__406 : decode cL_law_ 406 = .ok (.iaload, 1) := by decide +kernel
theorem dL_law__407 : decode cL_law_ 407 = .ok (.invokevirtual 126, 3) := by decide +kernel
theorem dL_law__410 : decode cL_law_ 410 = .ok (.istore 6, 2) := by decide +kernel
theorem dL_law__412 : decode cL_law_ 412 = .ok (.aload_n 2, 1) := by decide +kernel
theorem dL_law__413 : decode cL_law_ 413 = .ok (.invokevirtual 112, 3) := by decide +kernel
theorem dL_law__416 : decode cL_law_ 416 = .ok (.iload 5, 2) := by decide +kernel
theorem dL_law__418 : decode cL_law_ 418 = .ok (.if_icmp .eq 5, 3) := by decide +kernel
theorem dL_law__421 : decode cL_law_ 421 = .ok (.iconst 0, 1) := by decide +kernel
theorem dL_law__422 : decode cL_law_ 422 = .ok (.ireturn, 1) := by decide +kernel
theorem dL_law__423 : decode cL_law_ 423 = .ok (.iload 5, 2) := by decide +kernel
theorem dL_law__425 : decode cL_law_ 425 = .ok (.ifCond .ne 15, 3) := by decide +kernel
theorem dL_law__428 : decode cL_law_ 428 = .ok (.aload_n 3, 1) := by decide +kernel
theorem dL_law__429 : decode cL_law_ 429 = .ok (.iconst 0, 1) := by decide +kernel
theorem dL_law__430 : decode cL_law_ 430 = .ok (.laload, 1) := by decide +kernel
theorem dL_law__431 : decode cL_law_ 431 = .ok (.iload 6, 2) := by decide +kernel
theorem dL_law__433 : decode cL_law_ 433 = .ok (.i2l, 1) := by decide +kernel
theorem dL_law__434 : decode cL_law_ 434 = .ok (.lcmp, 1) := by decide +kernel
theorem dL_law__435 : decode cL_law_ 435 = .ok (.ifCond .eq 5, 3) := by decide +kernel
theorem dL_law__438 : decode cL_law_ 438 = .ok (.iconst 0, 1) := by decide +kernel
theorem dL_law__439 : decode cL_law_ 439 = .ok (.ireturn, 1) := by decide +kernel
theorem dL_law__440 : decode cL_law_ 440 = .ok (.goto 1586, 3) := by decide +kernel
theorem dL_law__443 : decode cL_law_ 443 = .ok (.aload_n 1, 1) := by decide +kernel
theorem dL_law__444 : decode cL_law_ 444 = .ok (.aload_n 0, 1) := by decide +kernel
theorem dL_law__445 : decode cL_law_ 445 = .ok (.iload 4, 2) := by decide +kernel
theorem dL_law__447 : decode cL_law_ 447 = .ok (.iconst 1, 1) := by decide +kernel
theorem dL_law__448 : decode cL_law_ 448 = .ok (.iadd, 1) := by decide +kernel
theorem dL_law__449 : decode cL_law_ 449 = .ok (.iaload, 1) := by decide +kernel
theorem dL_law__450 : decode cL_law_ 450 = .ok (.aload_n 0, 1) := by decide +kernel
theorem dL_law__451 : decode cL_law_ 451 = .ok (.iload 4, 2) := by decide +kernel
theorem dL_law__453 : decode cL_law_ 453 = .ok (.iconst 2, 1) := by decide +kernel
theorem dL_law__454 : decode cL_law_ 454 = .ok (.iadd, 1) := by decide +kernel
theorem dL_law__455 : decode cL_law_ 455 = .ok (.iaload, 1) := by decide +kernel
theorem dL_law__456 : decode cL_law_ 456 = .ok (.aload_n 0, 1) := by decide +kernel
theorem dL_law__457 : decode cL_law_ 457 = .ok (.iload 4, 2) := by decide +kernel
theorem dL_law__459 : decode cL_law_ 459 = .ok (.iconst 3, 1) := by decide +kernel
theorem dL_law__460 : decode cL_law_ 460 = .ok (.iadd, 1) := by decide +kernel
theorem dL_law__461 : decode cL_law_ 461 = .ok (.iaload, 1) := by decide +kernel
theorem dL_law__462 : decode cL_law_ 462 = .ok (.aload_n 3, 1) := by decide +kernel
theorem dL_law__463 : decode cL_law_ 463 = .ok (.invokestatic 127, 3) := by decide +kernel
theorem dL_law__466 : decode cL_law_ 466 = .ok (.istore 5, 2) := by decide +kernel
theorem dL_law__468 : decode cL_law_ 468 = .ok (.aload_n 2, 1) := by decide +kernel
theorem dL_law__469 : decode cL_law_ 469 = .ok (.aload_n 0, 1) := by decide +kernel
theorem dL_law__470 : decode cL_law_ 470 = .ok (.iload 4, 2) := by decide +kernel
theorem dL_law__472 : decode cL_law_ 472 = .ok (.iconst 1, 1) := by decide +kernel
theorem dL_law__473 : decode cL_law_ 473 = .ok (.iadd, 1) := by decide +kernel
theorem dL_law__474 : decode cL_law_ 474 = .ok (.iaload, 1) := by decide +kernel
theorem dL_law__475 : decode cL_law_ 475 = .ok (.aload_n 0, 1) := by decide +kernel
theorem dL_law__476 : decode cL_law_ 476 = .ok (.iload 4, 2) := by decide +kernel
theorem dL_law__478 : decode cL_law_ 478 = .ok (.iconst 2, 1) := by decide +kernel
theorem dL_law__479 : decode cL_law_ 479 = .ok (.iadd, 1) := by decide +kernel
theorem dL_law__480 : decode cL_law_ 480 = .ok (.iaload, 1) := by decide +kernel
theorem dL_law__481 : decode cL_law_ 481 = .ok (.aload_n 0, 1) := by decide +kernel
theorem dL_law__482 : decode cL_law_ 482 = .ok (.iload 4, 2) := by decide +kernel
theorem dL_law__484 : decode cL_law_ 484 = .ok (.iconst 3, 1) := by decide +kernel
theorem dL_law__485 : decode cL_law_ 485 = .ok (.iadd, 1) := by decide +kernel
theorem dL_law__486 : decode cL_law_ 486 = .ok (.iaload, 1) := by decide +kernel
theorem dL_law__487 : decode cL_law_ 487 = .ok (.invokevirtual 129, 3) := by decide +kernel
theorem dL_law__490 : decode cL_law_ 490 = .ok (.istore 6, 2) := by decide +kernel
theorem dL_law__492 : decode cL_law_ 492 = .ok (.aload_n 2, 1) := by decide +kernel
theorem dL_law__493 : decode cL_law_ 493 = .ok (.invokevirtual 112, 3) := by decide +kernel
theorem dL_law__496 : decode cL_law_ 496 = .ok (.iload 5, 2) := by decide +kernel
theorem dL_law__498 : decode cL_law_ 498 = .ok (.if_icmp .eq 5, 3) := by decide +kernel
theorem dL_law__501 : decode cL_law_ 501 = .ok (.iconst 0, 1) := by decide +kernel
theorem dL_law__502 : decode cL_law_ 502 = .ok (.ireturn, 1) := by decide +kernel
theorem dL_law__503 : decode cL_law_ 503 = .ok (.iload 5, 2) := by decide +kernel
theorem dL_law__505 : decode cL_law_ 505 = .ok (.ifCond .ne 15, 3) := by decide +kernel
theorem dL_law__508 : decode cL_law_ 508 = .ok (.aload_n 3, 1) := by decide +kernel
theorem dL_law__509 : decode cL_law_ 509 = .ok (.iconst 0, 1) := by decide +kernel
theorem dL_law__510 : decode cL_law_ 510 = .ok (.laload, 1) := by decide +kernel
theorem dL_law__511 : decode cL_law_ 511 = .ok (.iload 6, 2) := by decide +kernel
theorem dL_law__513 : decode cL_law_ 513 = .ok (.i2l, 1) := by decide +kernel
theorem dL_law__514 : decode cL_law_ 514 = .ok (.lcmp, 1) := by decide +kernel
theorem dL_law__515 : decode cL_law_ 515 = .ok (.ifCond .eq 5, 3) := by decide +kernel
theorem dL_law__518 : decode cL_law_ 518 = .ok (.iconst 0, 1) := by decide +kernel
theorem dL_law__519 : decode cL_law_ 519 = .ok (.ireturn, 1) := by decide +kernel
theorem dL_law__520 : decode cL_law_ 520 = .ok (.goto 1506, 3) := by decide +kernel
theorem dL_law__523 : decode cL_law_ 523 = .ok (.aload_n 1, 1) := by decide +kernel
theorem dL_law__524 : decode cL_law_ 524 = .ok (.aload_n 0, 1) := by decide +kernel
theorem dL_law__525 : decode cL_law_ 525 = .ok (.iload 4, 2) := by decide +kernel
theorem dL_law__527 : decode cL_law_ 527 = .ok (.iconst 1, 1) := by decide +kernel
theorem dL_law__528 : decode cL_law_ 528 = .ok (.iadd, 1) := by decide +kernel
theorem dL_law__529 : decode cL_law_ 529 = .ok (.iaload, 1) := by decide +kernel
theorem dL_law__530 : decode cL_law_ 530 = .ok (.aload_n 0, 1) := by decide +kernel
theorem dL_law__531 : decode cL_law_ 531 = .ok (.iload 4, 2) := by decide +kernel
theorem dL_law__533 : decode cL_law_ 533 = .ok (.iconst 2, 1) := by decide +kernel
theorem dL_law__534 : decode cL_law_ 534 = .ok (.iadd, 1) := by decide +kernel
theorem dL_law__535 : decode cL_law_ 535 = .ok (.iaload, 1) := by decide +kernel
theorem dL_law__536 : decode cL_law_ 536 = .ok (.aload_n 0, 1) := by decide +kernel
theorem dL_law__537 : decode cL_law_ 537 = .ok (.iload 4, 2) := by decide +kernel
theorem dL_law__539 : decode cL_law_ 539 = .ok (.iconst 3, 1) := by decide +kernel
theorem dL_law__540 : decode cL_law_ 540 = .ok (.iadd, 1) := by decide +kernel
theorem dL_law__541 : decode cL_law_ 541 = .ok (.iaload, 1) := by decide +kernel
theorem dL_law__542 : decode cL_law_ 542 = .ok (.aload_n 0, 1) := by decide +kernel
theorem dL_law__543 : decode cL_law_ 543 = .ok (.iload 4, 2) := by decide +kernel
theorem dL_law__545 : decode cL_law_ 545 = .ok (.iconst 4, 1) := by decide +kernel
theorem dL_law__546 : decode cL_law_ 546 = .ok (.iadd, 1) := by decide +kernel
theorem dL_law__547 : decode cL_law_ 547 = .ok (.iaload, 1) := by decide +kernel
theorem dL_law__548 : decode cL_law_ 548 = .ok (.aload_n 3, 1) := by decide +kernel
theorem dL_law__549 : decode cL_law_ 549 = .ok (.invokestatic 130, 3) := by decide +kernel
theorem dL_law__552 : decode cL_law_ 552 = .ok (.istore 5, 2) := by decide +kernel
theorem dL_law__554 : decode cL_law_ 554 = .ok (.aload_n 2, 1) := by decide +kernel
theorem dL_law__555 : decode cL_law_ 555 = .ok (.aload_n 0, 1) := by decide +kernel
theorem dL_law__556 : decode cL_law_ 556 = .ok (.iload 4, 2) := by decide +kernel
theorem dL_law__558 : decode cL_law_ 558 = .ok (.iconst 1, 1) := by decide +kernel
theorem dL_law__559 : decode cL_law_ 559 = .ok (.iadd, 1) := by decide +kernel
theorem dL_law__560 : decode cL_law_ 560 = .ok (.iaload, 1) := by decide +kernel
theorem dL_law__561 : decode cL_law_ 561 = .ok (.aload_n 0, 1) := by decide +kernel
theorem dL_law__562 : decode cL_law_ 562 = .ok (.iload 4, 2) := by decide +kernel
theorem dL_law__564 : decode cL_law_ 564 = .ok (.iconst 2, 1) := by decide +kernel
theorem dL_law__565 : decode cL_law_ 565 = .ok (.iadd, 1) := by decide +kernel
theorem dL_law__566 : decode cL_law_ 566 = .ok (.iaload, 1) := by decide +kernel
theorem dL_law__567 : decode cL_law_ 567 = .ok (.aload_n 0, 1) := by decide +kernel
theorem dL_law__568 : decode cL_law_ 568 = .ok (.iload 4, 2) := by decide +kernel
theorem dL_law__570 : decode cL_law_ 570 = .ok (.iconst 3, 1) := by decide +kernel
theorem dL_law__571 : decode cL_law_ 571 = .ok (.iadd, 1) := by decide +kernel
theorem dL_law__572 : decode cL_law_ 572 = .ok (.iaload, 1) := by decide +kernel
theorem dL_law__573 : decode cL_law_ 573 = .ok (.aload_n 0, 1) := by decide +kernel
theorem dL_law__574 : decode cL_law_ 574 = .ok (.iload 4, 2) := by decide +kernel
theorem dL_law__576 : decode cL_law_ 576 = .ok (.iconst 4, 1) := by decide +kernel
theorem dL_law__577 : decode cL_law_ 577 = .ok (.iadd, 1) := by decide +kernel
theorem dL_law__578 : decode cL_law_ 578 = .ok (.iaload, 1) := by decide +kernel
theorem dL_law__579 : decode cL_law_ 579 = .ok (.invokevirtual 133, 3) := by decide +kernel
theorem dL_law__582 : decode cL_law_ 582 = .ok (.istore 6, 2) := by decide +kernel
theorem dL_law__584 : decode cL_law_ 584 = .ok (.aload_n 2, 1) := by decide +kernel
theorem dL_law__585 : decode cL_law_ 585 = .ok (.invokevirtual 112, 3) := by decide +kernel
theorem dL_law__588 : decode cL_law_ 588 = .ok (.iload 5, 2) := by decide +kernel
theorem dL_law__590 : decode cL_law_ 590 = .ok (.if_icmp .eq 5, 3) := by decide +kernel
theorem dL_law__593 : decode cL_law_ 593 = .ok (.iconst 0, 1) := by decide +kernel
theorem dL_law__594 : decode cL_law_ 594 = .ok (.ireturn, 1) := by decide +kernel
theorem dL_law__595 : decode cL_law_ 595 = .ok (.iload 5, 2) := by decide +kernel
theorem dL_law__597 : decode cL_law_ 597 = .ok (.ifCond .ne 15, 3) := by decide +kernel
theorem dL_law__600 : decode cL_law_ 600 = .ok (.aload_n 3, 1) := by decide +kernel
theorem dL_law__601 : decode cL_law_ 601 = .ok (.iconst 0, 1) := by decide +kernel
theorem dL_law__602 : decode cL_law_ 602 = .ok (.laload, 1) := by decide +kernel
theorem dL_law__603 : decode cL_law_ 603 = .ok (.iload 6, 2) := by decide +kernel
theorem dL_law__605 : decode cL_law_ 605 = .ok (.i2l, 1) := by decide +kernel
theorem dL_law__606 : decode cL_law_ 606 = .ok (.lcmp, 1) := by decide +kernel
theorem dL_law__607 : decode cL_law_ 607 = .ok (.ifCond .eq 5, 3) := by decide +kernel
theorem dL_law__610 : decode cL_law_ 610 = .ok (.iconst 0, 1) := by decide +kernel
theorem dL_law__611 : decode cL_law_ 611 = .ok (.ireturn, 1) := by decide +kernel
theorem dL_law__612 : decode cL_law_ 612 = .ok (.goto 1414, 3) := by decide +kernel
theorem dL_law__615 : decode cL_law_ 615 = .ok (.aload_n 1, 1) := by decide +kernel
theorem dL_law__616 : decode cL_law_ 616 = .ok (.aload_n 0, 1) := by decide +kernel
theorem dL_law__617 : decode cL_law_ 617 = .ok (.iload 4, 2) := by decide +kernel
theorem dL_law__619 : decode cL_law_ 619 = .ok (.iconst 1, 1) := by decide +kernel
theorem dL_law__620 : decode cL_law_ 620 = .ok (.iadd, 1) := by decide +kernel
theorem dL_law__621 : decode cL_law_ 621 = .ok (.iaload, 1) := by decide +kernel
theorem dL_law__622 : decode cL_law_ 622 = .ok (.ifCond .eq 7, 3) := by decide +kernel
theorem dL_law__625 : decode cL_law_ 625 = .ok (.iconst 1, 1) := by decide +kernel
theorem dL_law__626 : decode cL_law_ 626 = .ok (.goto 4, 3) := by decide +kernel
theorem dL_law__629 : decode cL_law_ 629 = .ok (.iconst 0, 1) := by decide +kernel
theorem dL_law__630 : decode cL_law_ 630 = .ok (.aload_n 0, 1) := by decide +kernel
theorem dL_law__631 : decode cL_law_ 631 = .ok (.iload 4, 2) := by decide +kernel
theorem dL_law__633 : decode cL_law_ 633 = .ok (.iconst 2, 1) := by decide +kernel
theorem dL_law__634 : decode cL_law_ 634 = .ok (.iadd, 1) := by decide +kernel
theorem dL_law__635 : decode cL_law_ 635 = .ok (.iaload, 1) := by decide +kernel
theorem dL_law__636 : decode cL_law_ 636 = .ok (.aload_n 0, 1) := by decide +kernel
theorem dL_law__637 : decode cL_law_ 637 = .ok (.iload 4, 2) := by decide +kernel
theorem dL_law__639 : decode cL_law_ 639 = .ok (.iconst 3, 1) := by decide +kernel
theorem dL_law__640 : decode cL_law_ 640 = .ok (.iadd, 1) := by decide +kernel
theorem dL_law__641 : decode cL_law_ 641 = .ok (.iaload, 1) := by decide +kernel
theorem dL_law__642 : decode cL_law_ 642 = .ok (.aload_n 0, 1) := by decide +kernel
theorem dL_law__643 : decode cL_law_ 643 = .ok (.iload 4, 2) := by decide +kernel
theorem dL_law__645 : decode cL_law_ 645 = .ok (.iconst 4, 1) := by decide +kernel
theorem dL_law__646 : decode cL_law_ 646 = .ok (.iadd, 1) := by decide +kernel
theorem dL_law__647 : decode cL_law_ 647 = .ok (.iaload, 1) := by decide +kernel
theorem dL_law__648 : decode cL_law_ 648 = .ok (.aload_n 3, 1) := by decide +kernel
theorem dL_law__649 : decode cL_law_ 649 = .ok (.invokestatic 134, 3) := by decide +kernel
theorem dL_law__652 : decode cL_law_ 652 = .ok (.istore 5, 2) := by decide +kernel
theorem dL_law__654 : decode cL_law_ 654 = .ok (.aload_n 2, 1) := by decide +kernel
theorem dL_law__655 : decode cL_law_ 655 = .ok (.aload_n 0, 1) := by decide +kernel
theorem dL_law__656 : decode cL_law_ 656 = .ok (.iload 4, 2) := by decide +kernel
theorem dL_law__658 : decode cL_law_ 658 = .ok (.iconst 1, 1) := by decide +kernel
theorem dL_law__659 : decode cL_law_ 659 = .ok (.iadd, 1) := by decide +kernel
theorem dL_law__660 : decode cL_law_ 660 = .ok (.iaload, 1) := by decide +kernel
theorem dL_law__661 : decode cL_law_ 661 = .ok (.ifCond .eq 7, 3) := by decide +kernel
theorem dL_law__664 : decode cL_law_ 664 = .ok (.iconst 1, 1) := by decide +kernel
theorem dL_law__665 : decode cL_law_ 665 = .ok (.goto 4, 3) := by decide +kernel
theorem dL_law__668 : decode cL_law_ 668 = .ok (.iconst 0, 1) := by decide +kernel
theorem dL_law__669 : decode cL_law_ 669 = .ok (.aload_n 0, 1) := by decide +kernel
theorem dL_law__670 : decode cL_law_ 670 = .ok (.iload 4, 2) := by decide +kernel
theorem dL_law__672 : decode cL_law_ 672 = .ok (.iconst 2, 1) := by decide +kernel
theorem dL_law__673 : decode cL_law_ 673 = .ok (.iadd, 1) := by decide +kernel
theorem dL_law__674 : decode cL_law_ 674 = .ok (.iaload, 1) := by decide +kernel
theorem dL_law__675 : decode cL_law_ 675 = .ok (.aload_n 0, 1) := by decide +kernel
theorem dL_law__676 : decode cL_law_ 676 = .ok (.iload 4, 2) := by decide +kernel
theorem dL_law__678 : decode cL_law_ 678 = .ok (.iconst 3, 1) := by decide +kernel
theorem dL_law__679 : decode cL_law_ 679 = .ok (.iadd, 1) := by decide +kernel
theorem dL_law__680 : decode cL_law_ 680 = .ok (.iaload, 1) := by decide +kernel
theorem dL_law__681 : decode cL_law_ 681 = .ok (.aload_n 0, 1) := by decide +kernel
theorem dL_law__682 : decode cL_law_ 682 = .ok (.iload 4, 2) := by decide +kernel
theorem dL_law__684 : decode cL_law_ 684 = .ok (.iconst 4, 1) := by decide +kernel
theorem dL_law__685 : decode cL_law_ 685 = .ok (.iadd, 1) := by decide +kernel
theorem dL_law__686 : decode cL_law_ 686 = .ok (.iaload, 1) := by decide +kernel
theorem dL_law__687 : decode cL_law_ 687 = .ok (.invokevirtual 137, 3) := by decide +kernel
theorem dL_law__690 : decode cL_law_ 690 = .ok (.istore 6, 2) := by decide +kernel
theorem dL_law__692 : decode cL_law_ 692 = .ok (.aload_n 2, 1) := by decide +kernel
theorem dL_law__693 : decode cL_law_ 693 = .ok (.invokevirtual 112, 3) := by decide +kernel
theorem dL_law__696 : decode cL_law_ 696 = .ok (.iload 5, 2) := by decide +kernel
theorem dL_law__698 : decode cL_law_ 698 = .ok (.if_icmp .eq 5, 3) := by decide +kernel
theorem dL_law__701 : decode cL_law_ 701 = .ok (.iconst 0, 1) := by decide +kernel
theorem dL_law__702 : decode cL_law_ 702 = .ok (.ireturn, 1) := by decide +kernel
theorem dL_law__703 : decode cL_law_ 703 = .ok (.iload 5, 2) := by decide +kernel
theorem dL_law__705 : decode cL_law_ 705 = .ok (.ifCond .ne 15, 3) := by decide +kernel
theorem dL_law__708 : decode cL_law_ 708 = .ok (.aload_n 3, 1) := by decide +kernel
theorem dL_law__709 : decode cL_law_ 709 = .ok (.iconst 0, 1) := by decide +kernel
theorem dL_law__710 : decode cL_law_ 710 = .ok (.laload, 1) := by decide +kernel
theorem dL_law__711 : decode cL_law_ 711 = .ok (.iload 6, 2) := by decide +kernel
theorem dL_law__713 : decode cL_law_ 713 = .ok (.i2l, 1) := by decide +kernel
theorem dL_law__714 : decode cL_law_ 714 = .ok (.lcmp, 1) := by decide +kernel
theorem dL_law__715 : decode cL_law_ 715 = .ok (.ifCond .eq 5, 3) := by decide +kernel
theorem dL_law__718 : decode cL_law_ 718 = .ok (.iconst 0, 1) := by decide +kernel
theorem dL_law__719 : decode cL_law_ 719 = .ok (.ireturn, 1) := by decide +kernel
theorem dL_law__720 : decode cL_law_ 720 = .ok (.goto 1306, 3) := by decide +kernel
theorem dL_law__723 : decode cL_law_ 723 = .ok (.aload_n 1, 1) := by decide +kernel
theorem dL_law__724 : decode cL_law_ 724 = .ok (.aload_n 0, 1) := by decide +kernel
theorem dL_law__725 : decode cL_law_ 725 = .ok (.iload 4, 2) := by decide +kernel
theorem dL_law__727 : decode cL_law_ 727 = .ok (.iconst 1, 1) := by decide +kernel
theorem dL_law__728 : decode cL_law_ 728 = .ok (.iadd, 1) := by decide +kernel
theorem dL_law__729 : decode cL_law_ 729 = .ok (.iaload, 1) := by decide +kernel
theorem dL_law__730 : decode cL_law_ 730 = .ok (.aload_n 0, 1) := by decide +kernel
theorem dL_law__731 : decode cL_law_ 731 = .ok (.iload 4, 2) := by decide +kernel
theorem dL_law__733 : decode cL_law_ 733 = .ok (.iconst 2, 1) := by decide +kernel
theorem dL_law__734 : decode cL_law_ 734 = .ok (.iadd, 1) := by decide +kernel
theorem dL_law__735 : decode cL_law_ 735 = .ok (.iaload, 1) := by decide +kernel
theorem dL_law__736 : decode cL_law_ 736 = .ok (.aload_n 0, 1) := by decide +kernel
theorem dL_law__737 : decode cL_law_ 737 = .ok (.iload 4, 2) := by decide +kernel
theorem dL_law__739 : decode cL_law_ 739 = .ok (.iconst 3, 1) := by decide +kernel
theorem dL_law__740 : decode cL_law_ 740 = .ok (.iadd, 1) := by decide +kernel
theorem dL_law__741 : decode cL_law_ 741 = .ok (.iaload, 1) := by decide +kernel
theorem dL_law__742 : decode cL_law_ 742 = .ok (.aload_n 0, 1) := by decide +kernel
theorem dL_law__743 : decode cL_law_ 743 = .ok (.iload 4, 2) := by decide +kernel
theorem dL_law__745 : decode cL_law_ 745 = .ok (.iconst 4, 1) := by decide +kernel
theorem dL_law__746 : decode cL_law_ 746 = .ok (.iadd, 1) := by decide +kernel
theorem dL_law__747 : decode cL_law_ 747 = .ok (.iaload, 1) := by decide +kernel
theorem dL_law__748 : decode cL_law_ 748 = .ok (.aload_n 3, 1) := by decide +kernel
theorem dL_law__749 : decode cL_law_ 749 = .ok (.invokestatic 138, 3) := by decide +kernel
theorem dL_law__752 : decode cL_law_ 752 = .ok (.istore 5, 2) := by decide +kernel
theorem dL_law__754 : decode cL_law_ 754 = .ok (.aload_n 2, 1) := by decide +kernel
theorem dL_law__755 : decode cL_law_ 755 = .ok (.aload_n 0, 1) := by decide +kernel
theorem dL_law__756 : decode cL_law_ 756 = .ok (.iload 4, 2) := by decide +kernel
theorem dL_law__758 : decode cL_law_ 758 = .ok (.iconst 1, 1) := by decide +kernel
theorem dL_law__759 : decode cL_law_ 759 = .ok (.iadd, 1) := by decide +kernel
theorem dL_law__760 : decode cL_law_ 760 = .ok (.iaload, 1) := by decide +kernel
theorem dL_law__761 : decode cL_law_ 761 = .ok (.aload_n 0, 1) := by decide +kernel
theorem dL_law__762 : decode cL_law_ 762 = .ok (.iload 4, 2) := by decide +kernel
theorem dL_law__764 : decode cL_law_ 764 = .ok (.iconst 2, 1) := by decide +kernel
theorem dL_law__765 : decode cL_law_ 765 = .ok (.iadd, 1) := by decide +kernel
theorem dL_law__766 : decode cL_law_ 766 = .ok (.iaload, 1) := by decide +kernel
theorem dL_law__767 : decode cL_law_ 767 = .ok (.aload_n 0, 1) := by decide +kernel
theorem dL_law__768 : decode cL_law_ 768 = .ok (.iload 4, 2) := by decide +kernel
theorem dL_law__770 : decode cL_law_ 770 = .ok (.iconst 3, 1) := by decide +kernel
theorem dL_law__771 : decode cL_law_ 771 = .ok (.iadd, 1) := by decide +kernel
theorem dL_law__772 : decode cL_law_ 772 = .ok (.iaload, 1) := by decide +kernel
theorem dL_law__773 : decode cL_law_ 773 = .ok (.aload_n 0, 1) := by decide +kernel
theorem dL_law__774 : decode cL_law_ 774 = .ok (.iload 4, 2) := by decide +kernel
theorem dL_law__776 : decode cL_law_ 776 = .ok (.iconst 4, 1) := by decide +kernel
theorem dL_law__777 : decode cL_law_ 777 = .ok (.iadd, 1) := by decide +kernel
theorem dL_law__778 : decode cL_law_ 778 = .ok (.iaload, 1) := by decide +kernel
theorem dL_law__779 : decode cL_law_ 779 = .ok (.invokevirtual 140, 3) := by decide +kernel
theorem dL_law__782 : decode cL_law_ 782 = .ok (.istore 6, 2) := by decide +kernel
theorem dL_law__784 : decode cL_law_ 784 = .ok (.aload_n 2, 1) := by decide +kernel
theorem dL_law__785 : decode cL_law_ 785 = .ok (.invokevirtual 112, 3) := by decide +kernel
theorem dL_law__788 : decode cL_law_ 788 = .ok (.iload 5, 2) := by decide +kernel
theorem dL_law__790 : decode cL_law_ 790 = .ok (.if_icmp .eq 5, 3) := by decide +kernel
theorem dL_law__793 : decode cL_law_ 793 = .ok (.iconst 0, 1) := by decide +kernel
theorem dL_law__794 : decode cL_law_ 794 = .ok (.ireturn, 1) := by decide +kernel
theorem dL_law__795 : decode cL_law_ 795 = .ok (.iload 5, 2) := by decide +kernel
theorem dL_law__797 : decode cL_law_ 797 = .ok (.ifCond .ne 15, 3) := by decide +kernel
theorem dL_law__800 : decode cL_law_ 800 = .ok (.aload_n 3, 1) := by decide +kernel
theorem dL_law__801 : decode cL_law_ 801 = .ok (.iconst 0, 1) := by decide +kernel
theorem dL_law__802 : decode cL_law_ 802 = .ok (.laload, 1) := by decide +kernel
theorem dL_law__803 : decode cL_law_ 803 = .ok (.iload 6, 2) := by decide +kernel
theorem dL_law__805 : decode cL_law_ 805 = .ok (.i2l, 1) := by decide +kernel
theorem dL_law__806 : decode cL_law_ 806 = .ok (.lcmp, 1) := by decide +kernel
theorem dL_law__807 : decode cL_law_ 807 = .ok (.ifCond .eq 5, 3) := by decide +kernel
theorem dL_law__810 : decode cL_law_ 810 = .ok (.iconst 0, 1) := by decide +kernel
theorem dL_law__811 : decode cL_law_ 811 = .ok (.ireturn, 1) := by decide +kernel
theorem dL_law__812 : decode cL_law_ 812 = .ok (.goto 1214, 3) := by decide +kernel
theorem dL_law__815 : decode cL_law_ 815 = .ok (.aload_n 1, 1) := by decide +kernel
theorem dL_law__816 : decode cL_law_ 816 = .ok (.aload_n 0, 1) := by decide +kernel
theorem dL_law__817 : decode cL_law_ 817 = .ok (.iload 4, 2) := by decide +kernel
theorem dL_law__819 : decode cL_law_ 819 = .ok (.iconst 1, 1) := by decide +kernel
theorem dL_law__820 : decode cL_law_ 820 = .ok (.iadd, 1) := by decide +kernel
theorem dL_law__821 : decode cL_law_ 821 = .ok (.iaload, 1) := by decide +kernel
theorem dL_law__822 : decode cL_law_ 822 = .ok (.aload_n 3, 1) := by decide +kernel
theorem dL_law__823 : decode cL_law_ 823 = .ok (.invokestatic 141, 3) := by decide +kernel
theorem dL_law__826 : decode cL_law_ 826 = .ok (.istore 5, 2) := by decide +kernel
theorem dL_law__828 : decode cL_law_ 828 = .ok (.aload_n 2, 1) := by decide +kernel
theorem dL_law__829 : decode cL_law_ 829 = .ok (.aload_n 0, 1) := by decide +kernel
theorem dL_law__830 : decode cL_law_ 830 = .ok (.iload 4, 2) := by decide +kernel
theorem dL_law__832 : decode cL_law_ 832 = .ok (.iconst 1, 1) := by decide +kernel
theorem dL_law__833 : decode cL_law_ 833 = .ok (.iadd, 1) := by decide +kernel
theorem dL_law__834 : decode cL_law_ 834 = .ok (.iaload, 1) := by decide +kernel
theorem dL_law__835 : decode cL_law_ 835 = .ok (.invokevirtual 144, 3) := by decide +kernel
theorem dL_law__838 : decode cL_law_ 838 = .ok (.istore 6, 2) := by decide +kernel
theorem dL_law__840 : decode cL_law_ 840 = .ok (.aload_n 2, 1) := by decide +kernel
theorem dL_law__841 : decode cL_law_ 841 = .ok (.invokevirtual 112, 3) := by decide +kernel
theorem dL_law__844 : decode cL_law_ 844 = .ok (.iload 5, 2) := by decide +kernel
theorem dL_law__846 : decode cL_law_ 846 = .ok (.if_icmp .eq 5, 3) := by decide +kernel
theorem dL_law__849 : decode cL_law_ 849 = .ok (.iconst 0, 1) := by decide +kernel
theorem dL_law__850 : decode cL_law_ 850 = .ok (.ireturn, 1) := by decide +kernel
theorem dL_law__851 : decode cL_law_ 851 = .ok (.iload 5, 2) := by decide +kernel
theorem dL_law__853 : decode cL_law_ 853 = .ok (.ifCond .ne 15, 3) := by decide +kernel
theorem dL_law__856 : decode cL_law_ 856 = .ok (.aload_n 3, 1) := by decide +kernel
theorem dL_law__857 : decode cL_law_ 857 = .ok (.iconst 0, 1) := by decide +kernel
theorem dL_law__858 : decode cL_law_ 858 = .ok (.laload, 1) := by decide +kernel
theorem dL_law__859 : decode cL_law_ 859 = .ok (.iload 6, 2) := by decide +kernel
theorem dL_law__861 : decode cL_law_ 861 = .ok (.i2l, 1) := by decide +kernel
theorem dL_law__862 : decode cL_law_ 862 = .ok (.lcmp, 1) := by decide +kernel
theorem dL_law__863 : decode cL_law_ 863 = .ok (.ifCond .eq 5, 3) := by decide +kernel
theorem dL_law__866 : decode cL_law_ 866 = .ok (.iconst 0, 1) := by decide +kernel
theorem dL_law__867 : decode cL_law_ 867 = .ok (.ireturn, 1) := by decide +kernel
theorem dL_law__868 : decode cL_law_ 868 = .ok (.goto 1158, 3) := by decide +kernel
theorem dL_law__871 : decode cL_law_ 871 = .ok (.aload_n 1, 1) := by decide +kernel
theorem dL_law__872 : decode cL_law_ 872 = .ok (.aload_n 0, 1) := by decide +kernel
theorem dL_law__873 : decode cL_law_ 873 = .ok (.iload 4, 2) := by decide +kernel
theorem dL_law__875 : decode cL_law_ 875 = .ok (.iconst 1, 1) := by decide +kernel
theorem dL_law__876 : decode cL_law_ 876 = .ok (.iadd, 1) := by decide +kernel
theorem dL_law__877 : decode cL_law_ 877 = .ok (.iaload, 1) := by decide +kernel
theorem dL_law__878 : decode cL_law_ 878 = .ok (.aload_n 0, 1) := by decide +kernel
theorem dL_law__879 : decode cL_law_ 879 = .ok (.iload 4, 2) := by decide +kernel
theorem dL_law__881 : decode cL_law_ 881 = .ok (.iconst 2, 1) := by decide +kernel
theorem dL_law__882 : decode cL_law_ 882 = .ok (.iadd, 1) := by decide +kernel
theorem dL_law__883 : decode cL_law_ 883 = .ok (.iaload, 1) := by decide +kernel
theorem dL_law__884 : decode cL_law_ 884 = .ok (.aload_n 3, 1) := by decide +kernel
theorem dL_law__885 : decode cL_law_ 885 = .ok (.invokestatic 145, 3) := by decide +kernel
theorem dL_law__888 : decode cL_law_ 888 = .ok (.istore 5, 2) := by decide +kernel
theorem dL_law__890 : decode cL_law_ 890 = .ok (.aload_n 2, 1) := by decide +kernel
theorem dL_law__891 : decode cL_law_ 891 = .ok (.aload_n 0, 1) := by decide +kernel
theorem dL_law__892 : decode cL_law_ 892 = .ok (.iload 4, 2) := by decide +kernel
theorem dL_law__894 : decode cL_law_ 894 = .ok (.iconst 1, 1) := by decide +kernel
theorem dL_law__895 : decode cL_law_ 895 = .ok (.iadd, 1) := by decide +kernel
theorem dL_law__896 : decode cL_law_ 896 = .ok (.iaload, 1) := by decide +kernel
theorem dL_law__897 : decode cL_law_ 897 = .ok (.aload_n 0, 1) := by decide +kernel
theorem dL_law__898 : decode cL_law_ 898 = .ok (.iload 4, 2) := by decide +kernel
theorem dL_law__900 : decode cL_law_ 900 = .ok (.iconst 2, 1) := by decide +kernel
theorem dL_law__901 : decode cL_law_ 901 = .ok (.iadd, 1) := by decide +kernel
theorem dL_law__902 : decode cL_law_ 902 = .ok (.iaload, 1) := by decide +kernel
theorem dL_law__903 : decode cL_law_ 903 = .ok (.invokevirtual 147, 3) := by decide +kernel
theorem dL_law__906 : decode cL_law_ 906 = .ok (.istore 6, 2) := by decide +kernel
theorem dL_law__908 : decode cL_law_ 908 = .ok (.aload_n 2, 1) := by decide +kernel
theorem dL_law__909 : decode cL_law_ 909 = .ok (.invokevirtual 112, 3) := by decide +kernel
theorem dL_law__912 : decode cL_law_ 912 = .ok (.iload 5, 2) := by decide +kernel
theorem dL_law__914 : decode cL_law_ 914 = .ok (.if_icmp .eq 5, 3) := by decide +kernel
theorem dL_law__917 : decode cL_law_ 917 = .ok (.iconst 0, 1) := by decide +kernel
theorem dL_law__918 : decode cL_law_ 918 = .ok (.ireturn, 1) := by decide +kernel
theorem dL_law__919 : decode cL_law_ 919 = .ok (.iload 5, 2) := by decide +kernel
theorem dL_law__921 : decode cL_law_ 921 = .ok (.ifCond .ne 15, 3) := by decide +kernel
theorem dL_law__924 : decode cL_law_ 924 = .ok (.aload_n 3, 1) := by decide +kernel
theorem dL_law__925 : decode cL_law_ 925 = .ok (.iconst 0, 1) := by decide +kernel
theorem dL_law__926 : decode cL_law_ 926 = .ok (.laload, 1) := by decide +kernel
theorem dL_law__927 : decode cL_law_ 927 = .ok (.iload 6, 2) := by decide +kernel
theorem dL_law__929 : decode cL_law_ 929 = .ok (.i2l, 1) := by decide +kernel
theorem dL_law__930 : decode cL_law_ 930 = .ok (.lcmp, 1) := by decide +kernel
theorem dL_law__931 : decode cL_law_ 931 = .ok (.ifCond .eq 5, 3) := by decide +kernel
theorem dL_law__934 : decode cL_law_ 934 = .ok (.iconst 0, 1) := by decide +kernel
theorem dL_law__935 : decode cL_law_ 935 = .ok (.ireturn, 1) := by decide +kernel
theorem dL_law__936 : decode cL_law_ 936 = .ok (.goto 1090, 3) := by decide +kernel
theorem dL_law__939 : decode cL_law_ 939 = .ok (.aload_n 1, 1) := by decide +kernel
theorem dL_law__940 : decode cL_law_ 940 = .ok (.aload_n 0, 1) := by decide +kernel
theorem dL_law__941 : decode cL_law_ 941 = .ok (.iload 4, 2) := by decide +kernel
theorem dL_law__943 : decode cL_law_ 943 = .ok (.iconst 1, 1) := by decide +kernel
theorem dL_law__944 : decode cL_law_ 944 = .ok (.iadd, 1) := by decide +kernel
theorem dL_law__945 : decode cL_law_ 945 = .ok (.iaload, 1) := by decide +kernel
theorem dL_law__946 : decode cL_law_ 946 = .ok (.aload_n 0, 1) := by decide +kernel
theorem dL_law__947 : decode cL_law_ 947 = .ok (.iload 4, 2) := by decide +kernel
theorem dL_law__949 : decode cL_law_ 949 = .ok (.iconst 2, 1) := by decide +kernel
theorem dL_law__950 : decode cL_law_ 950 = .ok (.iadd, 1) := by decide +kernel
theorem dL_law__951 : decode cL_law_ 951 = .ok (.iaload, 1) := by decide +kernel
theorem dL_law__952 : decode cL_law_ 952 = .ok (.aload_n 0, 1) := by decide +kernel
theorem dL_law__953 : decode cL_law_ 953 = .ok (.iload 4, 2) := by decide +kernel
theorem dL_law__955 : decode cL_law_ 955 = .ok (.iconst 3, 1) := by decide +kernel
theorem dL_law__956 : decode cL_law_ 956 = .ok (.iadd, 1) := by decide +kernel
theorem dL_law__957 : decode cL_law_ 957 = .ok (.iaload, 1) := by decide +kernel
theorem dL_law__958 : decode cL_law_ 958 = .ok (.aload_n 3, 1) := by decide +kernel
theorem dL_law__959 : decode cL_law_ 959 = .ok (.invokestatic 148, 3) := by decide +kernel
theorem dL_law__962 : decode cL_law_ 962 = .ok (.istore 5, 2) := by decide +kernel
theorem dL_law__964 : decode cL_law_ 964 = .ok (.aload_n 2, 1) := by decide +kernel
theorem dL_law__965 : decode cL_law_ 965 = .ok (.aload_n 0, 1) := by decide +kernel
theorem dL_law__966 : decode cL_law_ 966 = .ok (.iload 4, 2) := by decide +kernel
theorem dL_law__968 : decode cL_law_ 968 = .ok (.iconst 1, 1) := by decide +kernel
theorem dL_law__969 : decode cL_law_ 969 = .ok (.iadd, 1) := by decide +kernel
theorem dL_law__970 : decode cL_law_ 970 = .ok (.iaload, 1) := by decide +kernel
theorem dL_law__971 : decode cL_law_ 971 = .ok (.aload_n 0, 1) := by decide +kernel
theorem dL_law__972 : decode cL_law_ 972 = .ok (.iload 4, 2) := by decide +kernel
theorem dL_law__974 : decode cL_law_ 974 = .ok (.iconst 2, 1) := by decide +kernel
theorem dL_law__975 : decode cL_law_ 975 = .ok (.iadd, 1) := by decide +kernel
theorem dL_law__976 : decode cL_law_ 976 = .ok (.iaload, 1) := by decide +kernel
theorem dL_law__977 : decode cL_law_ 977 = .ok (.aload_n 0, 1) := by decide +kernel
theorem dL_law__978 : decode cL_law_ 978 = .ok (.iload 4, 2) := by decide +kernel
theorem dL_law__980 : decode cL_law_ 980 = .ok (.iconst 3, 1) := by decide +kernel
theorem dL_law__981 : decode cL_law_ 981 = .ok (.iadd, 1) := by decide +kernel
theorem dL_law__982 : decode cL_law_ 982 = .ok (.iaload, 1) := by decide +kernel
theorem dL_law__983 : decode cL_law_ 983 = .ok (.invokevirtual 150, 3) := by decide +kernel
theorem dL_law__986 : decode cL_law_ 986 = .ok (.istore 6, 2) := by decide +kernel
theorem dL_law__988 : decode cL_law_ 988 = .ok (.aload_n 2, 1) := by decide +kernel
theorem dL_law__989 : decode cL_law_ 989 = .ok (.invokevirtual 112, 3) := by decide +kernel
theorem dL_law__992 : decode cL_law_ 992 = .ok (.iload 5, 2) := by decide +kernel
theorem dL_law__994 : decode cL_law_ 994 = .ok (.if_icmp .eq 5, 3) := by decide +kernel
theorem dL_law__997 : decode cL_law_ 997 = .ok (.iconst 0, 1) := by decide +kernel
theorem dL_law__998 : decode cL_law_ 998 = .ok (.ireturn, 1) := by decide +kernel
theorem dL_law__999 : decode cL_law_ 999 = .ok (.iload 5, 2) := by decide +kernel
theorem dL_law__1001 : decode cL_law_ 1001 = .ok (.ifCond .ne 15, 3) := by decide +kernel
theorem dL_law__1004 : decode cL_law_ 1004 = .ok (.aload_n 3, 1) := by decide +kernel
theorem dL_law__1005 : decode cL_law_ 1005 = .ok (.iconst 0, 1) := by decide +kernel
theorem dL_law__1006 : decode cL_law_ 1006 = .ok (.laload, 1) := by decide +kernel
theorem dL_law__1007 : decode cL_law_ 1007 = .ok (.iload 6, 2) := by decide +kernel
theorem dL_law__1009 : decode cL_law_ 1009 = .ok (.i2l, 1) := by decide +kernel
theorem dL_law__1010 : decode cL_law_ 1010 = .ok (.lcmp, 1) := by decide +kernel
theorem dL_law__1011 : decode cL_law_ 1011 = .ok (.ifCond .eq 5, 3) := by decide +kernel
theorem dL_law__1014 : decode cL_law_ 1014 = .ok (.iconst 0, 1) := by decide +kernel
theorem dL_law__1015 : decode cL_law_ 1015 = .ok (.ireturn, 1) := by decide +kernel
theorem dL_law__1016 : decode cL_law_ 1016 = .ok (.goto 1010, 3) := by decide +kernel
theorem dL_law__1019 : decode cL_law_ 1019 = .ok (.aload_n 1, 1) := by decide +kernel
theorem dL_law__1020 : decode cL_law_ 1020 = .ok (.aload_n 0, 1) := by decide +kernel
theorem dL_law__1021 : decode cL_law_ 1021 = .ok (.iload 4, 2) := by decide +kernel
theorem dL_law__1023 : decode cL_law_ 1023 = .ok (.iconst 1, 1) := by decide +kernel
theorem dL_law__1024 : decode cL_law_ 1024 = .ok (.iadd, 1) := by decide +kernel
theorem dL_law__1025 : decode cL_law_ 1025 = .ok (.iaload, 1) := by decide +kernel
theorem dL_law__1026 : decode cL_law_ 1026 = .ok (.aload_n 0, 1) := by decide +kernel
theorem dL_law__1027 : decode cL_law_ 1027 = .ok (.iload 4, 2) := by decide +kernel
theorem dL_law__1029 : decode cL_law_ 1029 = .ok (.iconst 2, 1) := by decide +kernel
theorem dL_law__1030 : decode cL_law_ 1030 = .ok (.iadd, 1) := by decide +kernel
theorem dL_law__1031 : decode cL_law_ 1031 = .ok (.iaload, 1) := by decide +kernel
theorem dL_law__1032 : decode cL_law_ 1032 = .ok (.ifCond .eq 7, 3) := by decide +kernel
theorem dL_law__1035 : decode cL_law_ 1035 = .ok (.iconst 1, 1) := by decide +kernel
theorem dL_law__1036 : decode cL_law_ 1036 = .ok (.goto 4, 3) := by decide +kernel
theorem dL_law__1039 : decode cL_law_ 1039 = .ok (.iconst 0, 1) := by decide +kernel
theorem dL_law__1040 : decode cL_law_ 1040 = .ok (.aload_n 3, 1) := by decide +kernel
theorem dL_law__1041 : decode cL_law_ 1041 = .ok (.invokestatic 151, 3) := by decide +kernel
theorem dL_law__1044 : decode cL_law_ 1044 = .ok (.istore 5, 2) := by decide +kernel
theorem dL_law__1046 : decode cL_law_ 1046 = .ok (.aload_n 2, 1) := by decide +kernel
theorem dL_law__1047 : decode cL_law_ 1047 = .ok (.aload_n 0, 1) := by decide +kernel
theorem dL_law__1048 : decode cL_law_ 1048 = .ok (.iload 4, 2) := by decide +kernel
theorem dL_law__1050 : decode cL_law_ 1050 = .ok (.iconst 1, 1) := by decide +kernel
theorem dL_law__1051 : decode cL_law_ 1051 = .ok (.iadd, 1) := by decide +kernel
theorem dL_law__1052 : decode cL_law_ 1052 = .ok (.iaload, 1) := by decide +kernel
theorem dL_law__1053 : decode cL_law_ 1053 = .ok (.aload_n 0, 1) := by decide +kernel
theorem dL_law__1054 : decode cL_law_ 1054 = .ok (.iload 4, 2) := by decide +kernel
theorem dL_law__1056 : decode cL_law_ 1056 = .ok (.iconst 2, 1) := by decide +kernel
theorem dL_law__1057 : decode cL_law_ 1057 = .ok (.iadd, 1) := by decide +kernel
theorem dL_law__1058 : decode cL_law_ 1058 = .ok (.iaload, 1) := by decide +kernel
theorem dL_law__1059 : decode cL_law_ 1059 = .ok (.ifCond .eq 7, 3) := by decide +kernel
theorem dL_law__1062 : decode cL_law_ 1062 = .ok (.iconst 1, 1) := by decide +kernel
theorem dL_law__1063 : decode cL_law_ 1063 = .ok (.goto 4, 3) := by decide +kernel
theorem dL_law__1066 : decode cL_law_ 1066 = .ok (.iconst 0, 1) := by decide +kernel
theorem dL_law__1067 : decode cL_law_ 1067 = .ok (.invokevirtual 153, 3) := by decide +kernel
theorem dL_law__1070 : decode cL_law_ 1070 = .ok (.istore 6, 2) := by decide +kernel
theorem dL_law__1072 : decode cL_law_ 1072 = .ok (.aload_n 2, 1) := by decide +kernel
theorem dL_law__1073 : decode cL_law_ 1073 = .ok (.invokevirtual 112, 3) := by decide +kernel
theorem dL_law__1076 : decode cL_law_ 1076 = .ok (.iload 5, 2) := by decide +kernel
theorem dL_law__1078 : decode cL_law_ 1078 = .ok (.if_icmp .eq 5, 3) := by decide +kernel
theorem dL_law__1081 : decode cL_law_ 1081 = .ok (.iconst 0, 1) := by decide +kernel
theorem dL_law__1082 : decode cL_law_ 1082 = .ok (.ireturn, 1) := by decide +kernel
theorem dL_law__1083 : decode cL_law_ 1083 = .ok (.iload 5, 2) := by decide +kernel
theorem dL_law__1085 : decode cL_law_ 1085 = .ok (.ifCond .ne 22, 3) := by decide +kernel
theorem dL_law__1088 : decode cL_law_ 1088 = .ok (.aload_n 3, 1) := by decide +kernel
theorem dL_law__1089 : decode cL_law_ 1089 = .ok (.iconst 0, 1) := by decide +kernel
theorem dL_law__1090 : decode cL_law_ 1090 = .ok (.laload, 1) := by decide +kernel
theorem dL_law__1091 : decode cL_law_ 1091 = .ok (.iload 6, 2) := by decide +kernel
theorem dL_law__1093 : decode cL_law_ 1093 = .ok (.ifCond .eq 7, 3) := by decide +kernel
theorem dL_law__1096 : decode cL_law_ 1096 = .ok (.lconst 1, 1) := by decide +kernel
theorem dL_law__1097 : decode cL_law_ 1097 = .ok (.goto 4, 3) := by decide +kernel
theorem dL_law__1100 : decode cL_law_ 1100 = .ok (.lconst 0, 1) := by decide +kernel
theorem dL_law__1101 : decode cL_law_ 1101 = .ok (.lcmp, 1) := by decide +kernel
theorem dL_law__1102 : decode cL_law_ 1102 = .ok (.ifCond .eq 5, 3) := by decide +kernel
theorem dL_law__1105 : decode cL_law_ 1105 = .ok (.iconst 0, 1) := by decide +kernel
theorem dL_law__1106 : decode cL_law_ 1106 = .ok (.ireturn, 1) := by decide +kernel
theorem dL_law__1107 : decode cL_law_ 1107 = .ok (.goto 919, 3) := by decide +kernel
theorem dL_law__1110 : decode cL_law_ 1110 = .ok (.aload_n 1, 1) := by decide +kernel
theorem dL_law__1111 : decode cL_law_ 1111 = .ok (.aload_n 0, 1) := by decide +kernel
theorem dL_law__1112 : decode cL_law_ 1112 = .ok (.iload 4, 2) := by decide +kernel
theorem dL_law__1114 : decode cL_law_ 1114 = .ok (.iconst 1, 1) := by decide +kernel
theorem dL_law__1115 : decode cL_law_ 1115 = .ok (.iadd, 1) := by decide +kernel
theorem dL_law__1116 : decode cL_law_ 1116 = .ok (.iaload, 1) := by decide +kernel
theorem dL_law__1117 : decode cL_law_ 1117 = .ok (.aload_n 0, 1) := by decide +kernel
theorem dL_law__1118 : decode cL_law_ 1118 = .ok (.iload 4, 2) := by decide +kernel
theorem dL_law__1120 : decode cL_law_ 1120 = .ok (.iconst 2, 1) := by decide +kernel
theorem dL_law__1121 : decode cL_law_ 1121 = .ok (.iadd, 1) := by decide +kernel
theorem dL_law__1122 : decode cL_law_ 1122 = .ok (.iaload, 1) := by decide +kernel
theorem dL_law__1123 : decode cL_law_ 1123 = .ok (.aload_n 3, 1) := by decide +kernel
theorem dL_law__1124 : decode cL_law_ 1124 = .ok (.invokestatic 154, 3) := by decide +kernel
theorem dL_law__1127 : decode cL_law_ 1127 = .ok (.istore 5, 2) := by decide +kernel
theorem dL_law__1129 : decode cL_law_ 1129 = .ok (.aload_n 2, 1) := by decide +kernel
theorem dL_law__1130 : decode cL_law_ 1130 = .ok (.aload_n 0, 1) := by decide +kernel
theorem dL_law__1131 : decode cL_law_ 1131 = .ok (.iload 4, 2) := by decide +kernel
theorem dL_law__1133 : decode cL_law_ 1133 = .ok (.iconst 1, 1) := by decide +kernel
theorem dL_law__1134 : decode cL_law_ 1134 = .ok (.iadd, 1) := by decide +kernel
theorem dL_law__1135 : decode cL_law_ 1135 = .ok (.iaload, 1) := by decide +kernel
theorem dL_law__1136 : decode cL_law_ 1136 = .ok (.aload_n 0, 1) := by decide +kernel
theorem dL_law__1137 : decode cL_law_ 1137 = .ok (.iload 4, 2) := by decide +kernel
theorem dL_law__1139 : decode cL_law_ 1139 = .ok (.iconst 2, 1) := by decide +kernel
theorem dL_law__1140 : decode cL_law_ 1140 = .ok (.iadd, 1) := by decide +kernel
theorem dL_law__1141 : decode cL_law_ 1141 = .ok (.iaload, 1) := by decide +kernel
theorem dL_law__1142 : decode cL_law_ 1142 = .ok (.invokevirtual 156, 3) := by decide +kernel
theorem dL_law__1145 : decode cL_law_ 1145 = .ok (.lstore 6, 2) := by decide +kernel
theorem dL_law__1147 : decode cL_law_ 1147 = .ok (.aload_n 2, 1) := by decide +kernel
theorem dL_law__1148 : decode cL_law_ 1148 = .ok (.invokevirtual 112, 3) := by decide +kernel
theorem dL_law__1151 : decode cL_law_ 1151 = .ok (.iload 5, 2) := by decide +kernel
theorem dL_law__1153 : decode cL_law_ 1153 = .ok (.if_icmp .eq 5, 3) := by decide +kernel
theorem dL_law__1156 : decode cL_law_ 1156 = .ok (.iconst 0, 1) := by decide +kernel
theorem dL_law__1157 : decode cL_law_ 1157 = .ok (.ireturn, 1) := by decide +kernel
theorem dL_law__1158 : decode cL_law_ 1158 = .ok (.iload 5, 2) := by decide +kernel
theorem dL_law__1160 : decode cL_law_ 1160 = .ok (.ifCond .ne 14, 3) := by decide +kernel
theorem dL_law__1163 : decode cL_law_ 1163 = .ok (.aload_n 3, 1) := by decide +kernel
theorem dL_law__1164 : decode cL_law_ 1164 = .ok (.iconst 0, 1) := by decide +kernel
theorem dL_law__1165 : decode cL_law_ 1165 = .ok (.laload, 1) := by decide +kernel
theorem dL_law__1166 : decode cL_law_ 1166 = .ok (.lload 6, 2) := by decide +kernel
theorem dL_law__1168 : decode cL_law_ 1168 = .ok (.lcmp, 1) := by decide +kernel
theorem dL_law__1169 : decode cL_law_ 1169 = .ok (.ifCond .eq 5, 3) := by decide +kernel
theorem dL_law__1172 : decode cL_law_ 1172 = .ok (.iconst 0, 1) := by decide +kernel
theorem dL_law__1173 : decode cL_law_ 1173 = .ok (.ireturn, 1) := by decide +kernel
theorem dL_law__1174 : decode cL_law_ 1174 = .ok (.goto 852, 3) := by decide +kernel
theorem dL_law__1177 : decode cL_law_ 1177 = .ok (.aload_n 1, 1) := by decide +kernel
theorem dL_law__1178 : decode cL_law_ 1178 = .ok (.aload_n 0, 1) := by decide +kernel
theorem dL_law__1179 : decode cL_law_ 1179 = .ok (.iload 4, 2) := by decide +kernel
theorem dL_law__1181 : decode cL_law_ 1181 = .ok (.iconst 1, 1) := by decide +kernel
theorem dL_law__1182 : decode cL_law_ 1182 = .ok (.iadd, 1) := by decide +kernel
theorem dL_law__1183 : decode cL_law_ 1183 = .ok (.iaload, 1) := by decide +kernel
theorem dL_law__1184 : decode cL_law_ 1184 = .ok (.aload_n 3, 1) := by decide +kernel
theorem dL_law__1185 : decode cL_law_ 1185 = .ok (.invokestatic 157, 3) := by decide +kernel
theorem dL_law__1188 : decode cL_law_ 1188 = .ok (.istore 5, 2) := by decide +kernel
theorem dL_law__1190 : decode cL_law_ 1190 = .ok (.aload_n 2, 1) := by decide +kernel
theorem dL_law__1191 : decode cL_law_ 1191 = .ok (.aload_n 0, 1) := by decide +kernel
theorem dL_law__1192 : decode cL_law_ 1192 = .ok (.iload 4, 2) := by decide +kernel
theorem dL_law__1194 : decode cL_law_ 1194 = .ok (.iconst 1, 1) := by decide +kernel
theorem dL_law__1195 : decode cL_law_ 1195 = .ok (.iadd, 1) := by decide +kernel
theorem dL_law__1196 : decode cL_law_ 1196 = .ok (.iaload, 1) := by decide +kernel
theorem dL_law__1197 : decode cL_law_ 1197 = .ok (.invokevirtual 159, 3) := by decide +kernel
theorem dL_law__1200 : decode cL_law_ 1200 = .ok (.lstore 6, 2) := by decide +kernel
theorem dL_law__1202 : decode cL_law_ 1202 = .ok (.aload_n 2, 1) := by decide +kernel
theorem dL_law__1203 : decode cL_law_ 1203 = .ok (.invokevirtual 112, 3) := by decide +kernel
theorem dL_law__1206 : decode cL_law_ 1206 = .ok (.iload 5, 2) := by decide +kernel
theorem dL_law__1208 : decode cL_law_ 1208 = .ok (.if_icmp .eq 5, 3) := by decide +kernel
theorem dL_law__1211 : decode cL_law_ 1211 = .ok (.iconst 0, 1) := by decide +kernel
theorem dL_law__1212 : decode cL_law_ 1212 = .ok (.ireturn, 1) := by decide +kernel
theorem dL_law__1213 : decode cL_law_ 1213 = .ok (.iload 5, 2) := by decide +kernel
theorem dL_law__1215 : decode cL_law_ 1215 = .ok (.ifCond .ne 14, 3) := by decide +kernel
theorem dL_law__1218 : decode cL_law_ 1218 = .ok (.aload_n 3, 1) := by decide +kernel
theorem dL_law__1219 : decode cL_law_ 1219 = .ok (.iconst 0, 1) := by decide +kernel
theorem dL_law__1220 : decode cL_law_ 1220 = .ok (.laload, 1) := by decide +kernel
theorem dL_law__1221 : decode cL_law_ 1221 = .ok (.lload 6, 2) := by decide +kernel
theorem dL_law__1223 : decode cL_law_ 1223 = .ok (.lcmp, 1) := by decide +kernel
theorem dL_law__1224 : decode cL_law_ 1224 = .ok (.ifCond .eq 5, 3) := by decide +kernel
theorem dL_law__1227 : decode cL_law_ 1227 = .ok (.iconst 0, 1) := by decide +kernel
theorem dL_law__1228 : decode cL_law_ 1228 = .ok (.ireturn, 1) := by decide +kernel
theorem dL_law__1229 : decode cL_law_ 1229 = .ok (.goto 797, 3) := by decide +kernel
theorem dL_law__1232 : decode cL_law_ 1232 = .ok (.aload_n 1, 1) := by decide +kernel
theorem dL_law__1233 : decode cL_law_ 1233 = .ok (.aload_n 0, 1) := by decide +kernel
theorem dL_law__1234 : decode cL_law_ 1234 = .ok (.iload 4, 2) := by decide +kernel
theorem dL_law__1236 : decode cL_law_ 1236 = .ok (.iconst 1, 1) := by decide +kernel
theorem dL_law__1237 : decode cL_law_ 1237 = .ok (.iadd, 1) := by decide +kernel
theorem dL_law__1238 : decode cL_law_ 1238 = .ok (.iaload, 1) := by decide +kernel
theorem dL_law__1239 : decode cL_law_ 1239 = .ok (.aload_n 0, 1) := by decide +kernel
theorem dL_law__1240 : decode cL_law_ 1240 = .ok (.iload 4, 2) := by decide +kernel
theorem dL_law__1242 : decode cL_law_ 1242 = .ok (.iconst 2, 1) := by decide +kernel
theorem dL_law__1243 : decode cL_law_ 1243 = .ok (.iadd, 1) := by decide +kernel
theorem dL_law__1244 : decode cL_law_ 1244 = .ok (.iaload, 1) := by decide +kernel
theorem dL_law__1245 : decode cL_law_ 1245 = .ok (.aload_n 0, 1) := by decide +kernel
theorem dL_law__1246 : decode cL_law_ 1246 = .ok (.iload 4, 2) := by decide +kernel
theorem dL_law__1248 : decode cL_law_ 1248 = .ok (.iconst 3, 1) := by decide +kernel
theorem dL_law__1249 : decode cL_law_ 1249 = .ok (.iadd, 1) := by decide +kernel
theorem dL_law__1250 : decode cL_law_ 1250 = .ok (.iaload, 1) := by decide +kernel
theorem dL_law__1251 : decode cL_law_ 1251 = .ok (.aload_n 0, 1) := by decide +kernel
theorem dL_law__1252 : decode cL_law_ 1252 = .ok (.iload 4, 2) := by decide +kernel
theorem dL_law__1254 : decode cL_law_ 1254 = .ok (.iconst 4, 1) := by decide +kernel
theorem dL_law__1255 : decode cL_law_ 1255 = .ok (.iadd, 1) := by decide +kernel
theorem dL_law__1256 : decode cL_law_ 1256 = .ok (.iaload, 1) := by decide +kernel
theorem dL_law__1257 : decode cL_law_ 1257 = .ok (.aload_n 3, 1) := by decide +kernel
theorem dL_law__1258 : decode cL_law_ 1258 = .ok (.invokestatic 160, 3) := by decide +kernel
theorem dL_law__1261 : decode cL_law_ 1261 = .ok (.istore 5, 2) := by decide +kernel
theorem dL_law__1263 : decode cL_law_ 1263 = .ok (.aload_n 2, 1) := by decide +kernel
theorem dL_law__1264 : decode cL_law_ 1264 = .ok (.aload_n 0, 1) := by decide +kernel
theorem dL_law__1265 : decode cL_law_ 1265 = .ok (.iload 4, 2) := by decide +kernel
theorem dL_law__1267 : decode cL_law_ 1267 = .ok (.iconst 1, 1) := by decide +kernel
theorem dL_law__1268 : decode cL_law_ 1268 = .ok (.iadd, 1) := by decide +kernel
theorem dL_law__1269 : decode cL_law_ 1269 = .ok (.iaload, 1) := by decide +kernel
theorem dL_law__1270 : decode cL_law_ 1270 = .ok (.aload_n 0, 1) := by decide +kernel
theorem dL_law__1271 : decode cL_law_ 1271 = .ok (.iload 4, 2) := by decide +kernel
theorem dL_law__1273 : decode cL_law_ 1273 = .ok (.iconst 2, 1) := by decide +kernel
theorem dL_law__1274 : decode cL_law_ 1274 = .ok (.iadd, 1) := by decide +kernel
theorem dL_law__1275 : decode cL_law_ 1275 = .ok (.iaload, 1) := by decide +kernel
theorem dL_law__1276 : decode cL_law_ 1276 = .ok (.aload_n 0, 1) := by decide +kernel
theorem dL_law__1277 : decode cL_law_ 1277 = .ok (.iload 4, 2) := by decide +kernel
theorem dL_law__1279 : decode cL_law_ 1279 = .ok (.iconst 3, 1) := by decide +kernel
theorem dL_law__1280 : decode cL_law_ 1280 = .ok (.iadd, 1) := by decide +kernel
theorem dL_law__1281 : decode cL_law_ 1281 = .ok (.iaload, 1) := by decide +kernel
theorem dL_law__1282 : decode cL_law_ 1282 = .ok (.aload_n 0, 1) := by decide +kernel
theorem dL_law__1283 : decode cL_law_ 1283 = .ok (.iload 4, 2) := by decide +kernel
theorem dL_law__1285 : decode cL_law_ 1285 = .ok (.iconst 4, 1) := by decide +kernel
theorem dL_law__1286 : decode cL_law_ 1286 = .ok (.iadd, 1) := by decide +kernel
theorem dL_law__1287 : decode cL_law_ 1287 = .ok (.iaload, 1) := by decide +kernel
theorem dL_law__1288 : decode cL_law_ 1288 = .ok (.invokevirtual 162, 3) := by decide +kernel
theorem dL_law__1291 : decode cL_law_ 1291 = .ok (.istore 6, 2) := by decide +kernel
theorem dL_law__1293 : decode cL_law_ 1293 = .ok (.aload_n 2, 1) := by decide +kernel
theorem dL_law__1294 : decode cL_law_ 1294 = .ok (.invokevirtual 112, 3) := by decide +kernel
theorem dL_law__1297 : decode cL_law_ 1297 = .ok (.iload 5, 2) := by decide +kernel
theorem dL_law__1299 : decode cL_law_ 1299 = .ok (.if_icmp .eq 5, 3) := by decide +kernel
theorem dL_law__1302 : decode cL_law_ 1302 = .ok (.iconst 0, 1) := by decide +kernel
theorem dL_law__1303 : decode cL_law_ 1303 = .ok (.ireturn, 1) := by decide +kernel
theorem dL_law__1304 : decode cL_law_ 1304 = .ok (.iload 5, 2) := by decide +kernel
theorem dL_law__1306 : decode cL_law_ 1306 = .ok (.ifCond .ne 15, 3) := by decide +kernel
theorem dL_law__1309 : decode cL_law_ 1309 = .ok (.aload_n 3, 1) := by decide +kernel
theorem dL_law__1310 : decode cL_law_ 1310 = .ok (.iconst 0, 1) := by decide +kernel
theorem dL_law__1311 : decode cL_law_ 1311 = .ok (.laload, 1) := by decide +kernel
theorem dL_law__1312 : decode cL_law_ 1312 = .ok (.iload 6, 2) := by decide +kernel
theorem dL_law__1314 : decode cL_law_ 1314 = .ok (.i2l, 1) := by decide +kernel
theorem dL_law__1315 : decode cL_law_ 1315 = .ok (.lcmp, 1) := by decide +kernel
theorem dL_law__1316 : decode cL_law_ 1316 = .ok (.ifCond .eq 5, 3) := by decide +kernel
theorem dL_law__1319 : decode cL_law_ 1319 = .ok (.iconst 0, 1) := by decide +kernel
theorem dL_law__1320 : decode cL_law_ 1320 = .ok (.ireturn, 1) := by decide +kernel
theorem dL_law__1321 : decode cL_law_ 1321 = .ok (.goto 705, 3) := by decide +kernel
theorem dL_law__1324 : decode cL_law_ 1324 = .ok (.aload_n 1, 1) := by decide +kernel
theorem dL_law__1325 : decode cL_law_ 1325 = .ok (.aload_n 0, 1) := by decide +kernel
theorem dL_law__1326 : decode cL_law_ 1326 = .ok (.iload 4, 2) := by decide +kernel
theorem dL_law__1328 : decode cL_law_ 1328 = .ok (.iconst 1, 1) := by decide +kernel
theorem dL_law__1329 : decode cL_law_ 1329 = .ok (.iadd, 1) := by decide +kernel
theorem dL_law__1330 : decode cL_law_ 1330 = .ok (.iaload, 1) := by decide +kernel
theorem dL_law__1331 : decode cL_law_ 1331 = .ok (.aload_n 3, 1) := by decide +kernel
theorem dL_law__1332 : decode cL_law_ 1332 = .ok (.invokestatic 163, 3) := by decide +kernel
theorem dL_law__1335 : decode cL_law_ 1335 = .ok (.istore 5, 2) := by decide +kernel
theorem dL_law__1337 : decode cL_law_ 1337 = .ok (.aload_n 2, 1) := by decide +kernel
theorem dL_law__1338 : decode cL_law_ 1338 = .ok (.aload_n 0, 1) := by decide +kernel
theorem dL_law__1339 : decode cL_law_ 1339 = .ok (.iload 4, 2) := by decide +kernel
theorem dL_law__1341 : decode cL_law_ 1341 = .ok (.iconst 1, 1) := by decide +kernel
theorem dL_law__1342 : decode cL_law_ 1342 = .ok (.iadd, 1) := by decide +kernel
theorem dL_law__1343 : decode cL_law_ 1343 = .ok (.iaload, 1) := by decide +kernel
theorem dL_law__1344 : decode cL_law_ 1344 = .ok (.invokevirtual 165, 3) := by decide +kernel
theorem dL_law__1347 : decode cL_law_ 1347 = .ok (.istore 6, 2) := by decide +kernel
theorem dL_law__1349 : decode cL_law_ 1349 = .ok (.aload_n 2, 1) := by decide +kernel
theorem dL_law__1350 : decode cL_law_ 1350 = .ok (.invokevirtual 112, 3) := by decide +kernel
theorem dL_law__1353 : decode cL_law_ 1353 = .ok (.iload 5, 2) := by decide +kernel
theorem dL_law__1355 : decode cL_law_ 1355 = .ok (.if_icmp .eq 5, 3) := by decide +kernel
theorem dL_law__1358 : decode cL_law_ 1358 = .ok (.iconst 0, 1) := by decide +kernel
theorem dL_law__1359 : decode cL_law_ 1359 = .ok (.ireturn, 1) := by decide +kernel
theorem dL_law__1360 : decode cL_law_ 1360 = .ok (.iload 5, 2) := by decide +kernel
theorem dL_law__1362 : decode cL_law_ 1362 = .ok (.ifCond .ne 22, 3) := by decide +kernel
theorem dL_law__1365 : decode cL_law_ 1365 = .ok (.aload_n 3, 1) := by decide +kernel
theorem dL_law__1366 : decode cL_law_ 1366 = .ok (.iconst 0, 1) := by decide +kernel
theorem dL_law__1367 : decode cL_law_ 1367 = .ok (.laload, 1) := by decide +kernel
theorem dL_law__1368 : decode cL_law_ 1368 = .ok (.iload 6, 2) := by decide +kernel
theorem dL_law__1370 : decode cL_law_ 1370 = .ok (.ifCond .eq 7, 3) := by decide +kernel
theorem dL_law__1373 : decode cL_law_ 1373 = .ok (.lconst 1, 1) := by decide +kernel
theorem dL_law__1374 : decode cL_law_ 1374 = .ok (.goto 4, 3) := by decide +kernel
theorem dL_law__1377 : decode cL_law_ 1377 = .ok (.lconst 0, 1) := by decide +kernel
theorem dL_law__1378 : decode cL_law_ 1378 = .ok (.lcmp, 1) := by decide +kernel
theorem dL_law__1379 : decode cL_law_ 1379 = .ok (.ifCond .eq 5, 3) := by decide +kernel
theorem dL_law__1382 : decode cL_law_ 1382 = .ok (.iconst 0, 1) := by decide +kernel
theorem dL_law__1383 : decode cL_law_ 1383 = .ok (.ireturn, 1) := by decide +kernel
theorem dL_law__1384 : decode cL_law_ 1384 = .ok (.goto 642, 3) := by decide +kernel
theorem dL_law__1387 : decode cL_law_ 1387 = .ok (.aload_n 1, 1) := by decide +kernel
theorem dL_law__1388 : decode cL_law_ 1388 = .ok (.aload_n 0, 1) := by decide +kernel
theorem dL_law__1389 : decode cL_law_ 1389 = .ok (.iload 4, 2) := by decide +kernel
theorem dL_law__1391 : decode cL_law_ 1391 = .ok (.iconst 1, 1) := by decide +kernel
theorem dL_law__1392 : decode cL_law_ 1392 = .ok (.iadd, 1) := by decide +kernel
theorem dL_law__1393 : decode cL_law_ 1393 = .ok (.iaload, 1) := by decide +kernel
theorem dL_law__1394 : decode cL_law_ 1394 = .ok (.aload_n 0, 1) := by decide +kernel
theorem dL_law__1395 : decode cL_law_ 1395 = .ok (.iload 4, 2) := by decide +kernel
theorem dL_law__1397 : decode cL_law_ 1397 = .ok (.iconst 2, 1) := by decide +kernel
theorem dL_law__1398 : decode cL_law_ 1398 = .ok (.iadd, 1) := by decide +kernel
theorem dL_law__1399 : decode cL_law_ 1399 = .ok (.iaload, 1) := by decide +kernel
theorem dL_law__1400 : decode cL_law_ 1400 = .ok (.aload_n 0, 1) := by decide +kernel
theorem dL_law__1401 : decode cL_law_ 1401 = .ok (.iload 4, 2) := by decide +kernel
theorem dL_law__1403 : decode cL_law_ 1403 = .ok (.iconst 3, 1) := by decide +kernel
theorem dL_law__1404 : decode cL_law_ 1404 = .ok (.iadd, 1) := by decide +kernel
theorem dL_law__1405 : decode cL_law_ 1405 = .ok (.iaload, 1) := by decide +kernel
theorem dL_law__1406 : decode cL_law_ 1406 = .ok (.ifCond .eq 7, 3) := by decide +kernel
theorem dL_law__1409 : decode cL_law_ 1409 = .ok (.iconst 1, 1) := by decide +kernel
theorem dL_law__1410 : decode cL_law_ 1410 = .ok (.goto 4, 3) := by decide +kernel
theorem dL_law__1413 : decode cL_law_ 1413 = .ok (.iconst 0, 1) := by decide +kernel
theorem dL_law__1414 : decode cL_law_ 1414 = .ok (.aload_n 3, 1) := by decide +kernel
theorem dL_law__1415 : decode cL_law_ 1415 = .ok (.invokestatic 166, 3) := by decide +kernel
theorem dL_law__1418 : decode cL_law_ 1418 = .ok (.istore 5, 2) := by decide +kernel
theorem dL_law__1420 : decode cL_law_ 1420 = .ok (.aload_n 2, 1) := by decide +kernel
theorem dL_law__1421 : decode cL_law_ 1421 = .ok (.aload_n 0, 1) := by decide +kernel
theorem dL_law__1422 : decode cL_law_ 1422 = .ok (.iload 4, 2) := by decide +kernel
theorem dL_law__1424 : decode cL_law_ 1424 = .ok (.iconst 1, 1) := by decide +kernel
theorem dL_law__1425 : decode cL_law_ 1425 = .ok (.iadd, 1) := by decide +kernel
theorem dL_law__1426 : decode cL_law_ 1426 = .ok (.iaload, 1) := by decide +kernel
theorem dL_law__1427 : decode cL_law_ 1427 = .ok (.aload_n 0, 1) := by decide +kernel
theorem dL_law__1428 : decode cL_law_ 1428 = .ok (.iload 4, 2) := by decide +kernel
theorem dL_law__1430 : decode cL_law_ 1430 = .ok (.iconst 2, 1) := by decide +kernel
theorem dL_law__1431 : decode cL_law_ 1431 = .ok (.iadd, 1) := by decide +kernel
theorem dL_law__1432 : decode cL_law_ 1432 = .ok (.iaload, 1) := by decide +kernel
theorem dL_law__1433 : decode cL_law_ 1433 = .ok (.aload_n 0, 1) := by decide +kernel
theorem dL_law__1434 : decode cL_law_ 1434 = .ok (.iload 4, 2) := by decide +kernel
theorem dL_law__1436 : decode cL_law_ 1436 = .ok (.iconst 3, 1) := by decide +kernel
theorem dL_law__1437 : decode cL_law_ 1437 = .ok (.iadd, 1) := by decide +kernel
theorem dL_law__1438 : decode cL_law_ 1438 = .ok (.iaload, 1) := by decide +kernel
theorem dL_law__1439 : decode cL_law_ 1439 = .ok (.ifCond .eq 7, 3) := by decide +kernel
theorem dL_law__1442 : decode cL_law_ 1442 = .ok (.iconst 1, 1) := by decide +kernel
theorem dL_law__1443 : decode cL_law_ 1443 = .ok (.goto 4, 3) := by decide +kernel
theorem dL_law__1446 : decode cL_law_ 1446 = .ok (.iconst 0, 1) := by decide +kernel
theorem dL_law__1447 : decode cL_law_ 1447 = .ok (.invokevirtual 169, 3) := by decide +kernel
theorem dL_law__1450 : decode cL_law_ 1450 = .ok (.istore 6, 2) := by decide +kernel
theorem dL_law__1452 : decode cL_law_ 1452 = .ok (.aload_n 2, 1) := by decide +kernel
theorem dL_law__1453 : decode cL_law_ 1453 = .ok (.invokevirtual 112, 3) := by decide +kernel
theorem dL_law__1456 : decode cL_law_ 1456 = .ok (.iload 5, 2) := by decide +kernel
theorem dL_law__1458 : decode cL_law_ 1458 = .ok (.if_icmp .eq 5, 3) := by decide +kernel
theorem dL_law__1461 : decode cL_law_ 1461 = .ok (.iconst 0, 1) := by decide +kernel
theorem dL_law__1462 : decode cL_law_ 1462 = .ok (.ireturn, 1) := by decide +kernel
theorem dL_law__1463 : decode cL_law_ 1463 = .ok (.iload 5, 2) := by decide +kernel
theorem dL_law__1465 : decode cL_law_ 1465 = .ok (.ifCond .ne 15, 3) := by decide +kernel
theorem dL_law__1468 : decode cL_law_ 1468 = .ok (.aload_n 3, 1) := by decide +kernel
theorem dL_law__1469 : decode cL_law_ 1469 = .ok (.iconst 0, 1) := by decide +kernel
theorem dL_law__1470 : decode cL_law_ 1470 = .ok (.laload, 1) := by decide +kernel
theorem dL_law__1471 : decode cL_law_ 1471 = .ok (.iload 6, 2) := by decide +kernel
theorem dL_law__1473 : decode cL_law_ 1473 = .ok (.i2l, 1) := by decide +kernel
theorem dL_law__1474 : decode cL_law_ 1474 = .ok (.lcmp, 1) := by decide +kernel
theorem dL_law__1475 : decode cL_law_ 1475 = .ok (.ifCond .eq 5, 3) := by decide +kernel
theorem dL_law__1478 : decode cL_law_ 1478 = .ok (.iconst 0, 1) := by decide +kernel
theorem dL_law__1479 : decode cL_law_ 1479 = .ok (.ireturn, 1) := by decide +kernel
theorem dL_law__1480 : decode cL_law_ 1480 = .ok (.goto 546, 3) := by decide +kernel
theorem dL_law__1483 : decode cL_law_ 1483 = .ok (.aload_n 1, 1) := by decide +kernel
theorem dL_law__1484 : decode cL_law_ 1484 = .ok (.aload_n 0, 1) := by decide +kernel
theorem dL_law__1485 : decode cL_law_ 1485 = .ok (.iload 4, 2) := by decide +kernel
theorem dL_law__1487 : decode cL_law_ 1487 = .ok (.iconst 1, 1) := by decide +kernel
theorem dL_law__1488 : decode cL_law_ 1488 = .ok (.iadd, 1) := by decide +kernel
theorem dL_law__1489 : decode cL_law_ 1489 = .ok (.iaload, 1) := by decide +kernel
theorem dL_law__1490 : decode cL_law_ 1490 = .ok (.aload_n 3, 1) := by decide +kernel
theorem dL_law__1491 : decode cL_law_ 1491 = .ok (.invokestatic 170, 3) := by decide +kernel
theorem dL_law__1494 : decode cL_law_ 1494 = .ok (.istore 5, 2) := by decide +kernel
theorem dL_law__1496 : decode cL_law_ 1496 = .ok (.aload_n 2, 1) := by decide +kernel
theorem dL_law__1497 : decode cL_law_ 1497 = .ok (.aload_n 0, 1) := by decide +kernel
theorem dL_law__1498 : decode cL_law_ 1498 = .ok (.iload 4, 2) := by decide +kernel
theorem dL_law__1500 : decode cL_law_ 1500 = .ok (.iconst 1, 1) := by decide +kernel
theorem dL_law__1501 : decode cL_law_ 1501 = .ok (.iadd, 1) := by decide +kernel
theorem dL_law__1502 : decode cL_law_ 1502 = .ok (.iaload, 1) := by decide +kernel
theorem dL_law__1503 : decode cL_law_ 1503 = .ok (.invokevirtual 172, 3) := by decide +kernel
theorem dL_law__1506 : decode cL_law_ 1506 = .ok (.istore 6, 2) := by decide +kernel
theorem dL_law__1508 : decode cL_law_ 1508 = .ok (.aload_n 2, 1) := by decide +kernel
theorem dL_law__1509 : decode cL_law_ 1509 = .ok (.invokevirtual 112, 3) := by decide +kernel
theorem dL_law__1512 : decode cL_law_ 1512 = .ok (.iload 5, 2) := by decide +kernel
theorem dL_law__1514 : decode cL_law_ 1514 = .ok (.if_icmp .eq 5, 3) := by decide +kernel
theorem dL_law__1517 : decode cL_law_ 1517 = .ok (.iconst 0, 1) := by decide +kernel
theorem dL_law__1518 : decode cL_law_ 1518 = .ok (.ireturn, 1) := by decide +kernel
theorem dL_law__1519 : decode cL_law_ 1519 = .ok (.iload 5, 2) := by decide +kernel
theorem dL_law__1521 : decode cL_law_ 1521 = .ok (.ifCond .ne 22, 3) := by decide +kernel
theorem dL_law__1524 : decode cL_law_ 1524 = .ok (.aload_n 3, 1) := by decide +kernel
theorem dL_law__1525 : decode cL_law_ 1525 = .ok (.iconst 0, 1) := by decide +kernel
theorem dL_law__1526 : decode cL_law_ 1526 = .ok (.laload, 1) := by decide +kernel
theorem dL_law__1527 : decode cL_law_ 1527 = .ok (.iload 6, 2) := by decide +kernel
theorem dL_law__1529 : decode cL_law_ 1529 = .ok (.ifCond .eq 7, 3) := by decide +kernel
theorem dL_law__1532 : decode cL_law_ 1532 = .ok (.lconst 1, 1) := by decide +kernel
theorem dL_law__1533 : decode cL_law_ 1533 = .ok (.goto 4, 3) := by decide +kernel
theorem dL_law__1536 : decode cL_law_ 1536 = .ok (.lconst 0, 1) := by decide +kernel
theorem dL_law__1537 : decode cL_law_ 1537 = .ok (.lcmp, 1) := by decide +kernel
theorem dL_law__1538 : decode cL_law_ 1538 = .ok (.ifCond .eq 5, 3) := by decide +kernel
theorem dL_law__1541 : decode cL_law_ 1541 = .ok (.iconst 0, 1) := by decide +kernel
theorem dL_law__1542 : decode cL_law_ 1542 = .ok (.ireturn, 1) := by decide +kernel
theorem dL_law__1543 : decode cL_law_ 1543 = .ok (.goto 483, 3) := by decide +kernel
theorem dL_law__1546 : decode cL_law_ 1546 = .ok (.aload_n 1, 1) := by decide +kernel
theorem dL_law__1547 : decode cL_law_ 1547 = .ok (.aload_n 0, 1) := by decide +kernel
theorem dL_law__1548 : decode cL_law_ 1548 = .ok (.iload 4, 2) := by decide +kernel
theorem dL_law__1550 : decode cL_law_ 1550 = .ok (.iconst 1, 1) := by decide +kernel
theorem dL_law__1551 : decode cL_law_ 1551 = .ok (.iadd, 1) := by decide +kernel
theorem dL_law__1552 : decode cL_law_ 1552 = .ok (.iaload, 1) := by decide +kernel
theorem dL_law__1553 : decode cL_law_ 1553 = .ok (.aload_n 3, 1) := by decide +kernel
theorem dL_law__1554 : decode cL_law_ 1554 = .ok (.invokestatic 173, 3) := by decide +kernel
theorem dL_law__1557 : decode cL_law_ 1557 = .ok (.istore 5, 2) := by decide +kernel
theorem dL_law__1559 : decode cL_law_ 1559 = .ok (.aload_n 2, 1) := by decide +kernel
theorem dL_law__1560 : decode cL_law_ 1560 = .ok (.aload_n 0, 1) := by decide +kernel
theorem dL_law__1561 : decode cL_law_ 1561 = .ok (.iload 4, 2) := by decide +kernel
theorem dL_law__1563 : decode cL_law_ 1563 = .ok (.iconst 1, 1) := by decide +kernel
theorem dL_law__1564 : decode cL_law_ 1564 = .ok (.iadd, 1) := by decide +kernel
theorem dL_law__1565 : decode cL_law_ 1565 = .ok (.iaload, 1) := by decide +kernel
theorem dL_law__1566 : decode cL_law_ 1566 = .ok (.invokevirtual 175, 3) := by decide +kernel
theorem dL_law__1569 : decode cL_law_ 1569 = .ok (.istore 6, 2) := by decide +kernel
theorem dL_law__1571 : decode cL_law_ 1571 = .ok (.aload_n 2, 1) := by decide +kernel
theorem dL_law__1572 : decode cL_law_ 1572 = .ok (.invokevirtual 112, 3) := by decide +kernel
theorem dL_law__1575 : decode cL_law_ 1575 = .ok (.iload 5, 2) := by decide +kernel
theorem dL_law__1577 : decode cL_law_ 1577 = .ok (.if_icmp .eq 5, 3) := by decide +kernel
theorem dL_law__1580 : decode cL_law_ 1580 = .ok (.iconst 0, 1) := by decide +kernel
theorem dL_law__1581 : decode cL_law_ 1581 = .ok (.ireturn, 1) := by decide +kernel
theorem dL_law__1582 : decode cL_law_ 1582 = .ok (.iload 5, 2) := by decide +kernel
theorem dL_law__1584 : decode cL_law_ 1584 = .ok (.ifCond .ne 22, 3) := by decide +kernel
theorem dL_law__1587 : decode cL_law_ 1587 = .ok (.aload_n 3, 1) := by decide +kernel
theorem dL_law__1588 : decode cL_law_ 1588 = .ok (.iconst 0, 1) := by decide +kernel
theorem dL_law__1589 : decode cL_law_ 1589 = .ok (.laload, 1) := by decide +kernel
theorem dL_law__1590 : decode cL_law_ 1590 = .ok (.iload 6, 2) := by decide +kernel
theorem dL_law__1592 : decode cL_law_ 1592 = .ok (.ifCond .eq 7, 3) := by decide +kernel
theorem dL_law__1595 : decode cL_law_ 1595 = .ok (.lconst 1, 1) := by decide +kernel
theorem dL_law__1596 : decode cL_law_ 1596 = .ok (.goto 4, 3) := by decide +kernel
theorem dL_law__1599 : decode cL_law_ 1599 = .ok (.lconst 0, 1) := by decide +kernel
theorem dL_law__1600 : decode cL_law_ 1600 = .ok (.lcmp, 1) := by decide +kernel
theorem dL_law__1601 : decode cL_law_ 1601 = .ok (.ifCond .eq 5, 3) := by decide +kernel
theorem dL_law__1604 : decode cL_law_ 1604 = .ok (.iconst 0, 1) := by decide +kernel
theorem dL_law__1605 : decode cL_law_ 1605 = .ok (.ireturn, 1) := by decide +kernel
theorem dL_law__1606 : decode cL_law_ 1606 = .ok (.goto 420, 3) := by decide +kernel
theorem dL_law__1609 : decode cL_law_ 1609 = .ok (.aload_n 1, 1) := by decide +kernel
theorem dL_law__1610 : decode cL_law_ 1610 = .ok (.aload_n 0, 1) := by decide +kernel
theorem dL_law__1611 : decode cL_law_ 1611 = .ok (.iload 4, 2) := by decide +kernel
theorem dL_law__1613 : decode cL_law_ 1613 = .ok (.iconst 1, 1) := by decide +kernel
theorem dL_law__1614 : decode cL_law_ 1614 = .ok (.iadd, 1) := by decide +kernel
theorem dL_law__1615 : decode cL_law_ 1615 = .ok (.iaload, 1) := by decide +kernel
theorem dL_law__1616 : decode cL_law_ 1616 = .ok (.aload_n 3, 1) := by decide +kernel
theorem dL_law__1617 : decode cL_law_ 1617 = .ok (.invokestatic 176, 3) := by decide +kernel
theorem dL_law__1620 : decode cL_law_ 1620 = .ok (.istore 5, 2) := by decide +kernel
theorem dL_law__1622 : decode cL_law_ 1622 = .ok (.aload_n 2, 1) := by decide +kernel
theorem dL_law__1623 : decode cL_law_ 1623 = .ok (.aload_n 0, 1) := by decide +kernel
theorem dL_law__1624 : decode cL_law_ 1624 = .ok (.iload 4, 2) := by decide +kernel
theorem dL_law__1626 : decode cL_law_ 1626 = .ok (.iconst 1, 1) := by decide +kernel
theorem dL_law__1627 : decode cL_law_ 1627 = .ok (.iadd, 1) := by decide +kernel
theorem dL_law__1628 : decode cL_law_ 1628 = .ok (.iaload, 1) := by decide +kernel
theorem dL_law__1629 : decode cL_law_ 1629 = .ok (.invokevirtual 178, 3) := by decide +kernel
theorem dL_law__1632 : decode cL_law_ 1632 = .ok (.lstore 6, 2) := by decide +kernel
theorem dL_law__1634 : decode cL_law_ 1634 = .ok (.aload_n 2, 1) := by decide +kernel
theorem dL_law__1635 : decode cL_law_ 1635 = .ok (.invokevirtual 112, 3) := by decide +kernel
theorem dL_law__1638 : decode cL_law_ 1638 = .ok (.iload 5, 2) := by decide +kernel
theorem dL_law__1640 : decode cL_law_ 1640 = .ok (.if_icmp .eq 5, 3) := by decide +kernel
theorem dL_law__1643 : decode cL_law_ 1643 = .ok (.iconst 0, 1) := by decide +kernel
theorem dL_law__1644 : decode cL_law_ 1644 = .ok (.ireturn, 1) := by decide +kernel
theorem dL_law__1645 : decode cL_law_ 1645 = .ok (.iload 5, 2) := by decide +kernel
theorem dL_law__1647 : decode cL_law_ 1647 = .ok (.ifCond .ne 14, 3) := by decide +kernel
theorem dL_law__1650 : decode cL_law_ 1650 = .ok (.aload_n 3, 1) := by decide +kernel
theorem dL_law__1651 : decode cL_law_ 1651 = .ok (.iconst 0, 1) := by decide +kernel
theorem dL_law__1652 : decode cL_law_ 1652 = .ok (.laload, 1) := by decide +kernel
theorem dL_law__1653 : decode cL_law_ 1653 = .ok (.lload 6, 2) := by decide +kernel
theorem dL_law__1655 : decode cL_law_ 1655 = .ok (.lcmp, 1) := by decide +kernel
theorem dL_law__1656 : decode cL_law_ 1656 = .ok (.ifCond .eq 5, 3) := by decide +kernel
theorem dL_law__1659 : decode cL_law_ 1659 = .ok (.iconst 0, 1) := by decide +kernel
theorem dL_law__1660 : decode cL_law_ 1660 = .ok (.ireturn, 1) := by decide +kernel
theorem dL_law__1661 : decode cL_law_ 1661 = .ok (.goto 365, 3) := by decide +kernel
theorem dL_law__1664 : decode cL_law_ 1664 = .ok (.aload_n 1, 1) := by decide +kernel
theorem dL_law__1665 : decode cL_law_ 1665 = .ok (.aload_n 0, 1) := by decide +kernel
theorem dL_law__1666 : decode cL_law_ 1666 = .ok (.iload 4, 2) := by decide +kernel
theorem dL_law__1668 : decode cL_law_ 1668 = .ok (.iconst 1, 1) := by decide +kernel
theorem dL_law__1669 : decode cL_law_ 1669 = .ok (.iadd, 1) := by decide +kernel
theorem dL_law__1670 : decode cL_law_ 1670 = .ok (.iaload, 1) := by decide +kernel
theorem dL_law__1671 : decode cL_law_ 1671 = .ok (.aload_n 0, 1) := by decide +kernel
theorem dL_law__1672 : decode cL_law_ 1672 = .ok (.iload 4, 2) := by decide +kernel
theorem dL_law__1674 : decode cL_law_ 1674 = .ok (.iconst 2, 1) := by decide +kernel
theorem dL_law__1675 : decode cL_law_ 1675 = .ok (.iadd, 1) := by decide +kernel
theorem dL_law__1676 : decode cL_law_ 1676 = .ok (.iaload, 1) := by decide +kernel
theorem dL_law__1677 : decode cL_law_ 1677 = .ok (.aload_n 3, 1) := by decide +kernel
theorem dL_law__1678 : decode cL_law_ 1678 = .ok (.invokestatic 179, 3) := by decide +kernel
theorem dL_law__1681 : decode cL_law_ 1681 = .ok (.istore 5, 2) := by decide +kernel
theorem dL_law__1683 : decode cL_law_ 1683 = .ok (.aload_n 2, 1) := by decide +kernel
theorem dL_law__1684 : decode cL_law_ 1684 = .ok (.aload_n 0, 1) := by decide +kernel
theorem dL_law__1685 : decode cL_law_ 1685 = .ok (.iload 4, 2) := by decide +kernel
theorem dL_law__1687 : decode cL_law_ 1687 = .ok (.iconst 1, 1) := by decide +kernel
theorem dL_law__1688 : decode cL_law_ 1688 = .ok (.iadd, 1) := by decide +kernel
theorem dL_law__1689 : decode cL_law_ 1689 = .ok (.iaload, 1) := by decide +kernel
theorem dL_law__1690 : decode cL_law_ 1690 = .ok (.aload_n 0, 1) := by decide +kernel
theorem dL_law__1691 : decode cL_law_ 1691 = .ok (.iload 4, 2) := by decide +kernel
theorem dL_law__1693 : decode cL_law_ 1693 = .ok (.iconst 2, 1) := by decide +kernel
theorem dL_law__1694 : decode cL_law_ 1694 = .ok (.iadd, 1) := by decide +kernel
theorem dL_law__1695 : decode cL_law_ 1695 = .ok (.iaload, 1) := by decide +kernel
theorem dL_law__1696 : decode cL_law_ 1696 = .ok (.invokevirtual 181, 3) := by decide +kernel
theorem dL_law__1699 : decode cL_law_ 1699 = .ok (.istore 6, 2) := by decide +kernel
theorem dL_law__1701 : decode cL_law_ 1701 = .ok (.aload_n 2, 1) := by decide +kernel
theorem dL_law__1702 : decode cL_law_ 1702 = .ok (.invokevirtual 112, 3) := by decide +kernel
theorem dL_law__1705 : decode cL_law_ 1705 = .ok (.iload 5, 2) := by decide +kernel
theorem dL_law__1707 : decode cL_law_ 1707 = .ok (.if_icmp .eq 5, 3) := by decide +kernel
theorem dL_law__1710 : decode cL_law_ 1710 = .ok (.iconst 0, 1) := by decide +kernel
theorem dL_law__1711 : decode cL_law_ 1711 = .ok (.ireturn, 1) := by decide +kernel
theorem dL_law__1712 : decode cL_law_ 1712 = .ok (.iload 5, 2) := by decide +kernel
theorem dL_law__1714 : decode cL_law_ 1714 = .ok (.ifCond .ne 22, 3) := by decide +kernel
theorem dL_law__1717 : decode cL_law_ 1717 = .ok (.aload_n 3, 1) := by decide +kernel
theorem dL_law__1718 : decode cL_law_ 1718 = .ok (.iconst 0, 1) := by decide +kernel
theorem dL_law__1719 : decode cL_law_ 1719 = .ok (.laload, 1) := by decide +kernel
theorem dL_law__1720 : decode cL_law_ 1720 = .ok (.iload 6, 2) := by decide +kernel
theorem dL_law__1722 : decode cL_law_ 1722 = .ok (.ifCond .eq 7, 3) := by decide +kernel
theorem dL_law__1725 : decode cL_law_ 1725 = .ok (.lconst 1, 1) := by decide +kernel
theorem dL_law__1726 : decode cL_law_ 1726 = .ok (.goto 4, 3) := by decide +kernel
theorem dL_law__1729 : decode cL_law_ 1729 = .ok (.lconst 0, 1) := by decide +kernel
theorem dL_law__1730 : decode cL_law_ 1730 = .ok (.lcmp, 1) := by decide +kernel
theorem dL_law__1731 : decode cL_law_ 1731 = .ok (.ifCond .eq 5, 3) := by decide +kernel
theorem dL_law__1734 : decode cL_law_ 1734 = .ok (.iconst 0, 1) := by decide +kernel
theorem dL_law__1735 : decode cL_law_ 1735 = .ok (.ireturn, 1) := by decide +kernel
theorem dL_law__1736 : decode cL_law_ 1736 = .ok (.goto 290, 3) := by decide +kernel
theorem dL_law__1739 : decode cL_law_ 1739 = .ok (.aload_n 1, 1) := by decide +kernel
theorem dL_law__1740 : decode cL_law_ 1740 = .ok (.aload_n 0, 1) := by decide +kernel
theorem dL_law__1741 : decode cL_law_ 1741 = .ok (.iload 4, 2) := by decide +kernel
theorem dL_law__1743 : decode cL_law_ 1743 = .ok (.iconst 1, 1) := by decide +kernel
theorem dL_law__1744 : decode cL_law_ 1744 = .ok (.iadd, 1) := by decide +kernel
theorem dL_law__1745 : decode cL_law_ 1745 = .ok (.iaload, 1) := by decide +kernel
theorem dL_law__1746 : decode cL_law_ 1746 = .ok (.aload_n 0, 1) := by decide +kernel
theorem dL_law__1747 : decode cL_law_ 1747 = .ok (.iload 4, 2) := by decide +kernel
theorem dL_law__1749 : decode cL_law_ 1749 = .ok (.iconst 2, 1) := by decide +kernel
theorem dL_law__1750 : decode cL_law_ 1750 = .ok (.iadd, 1) := by decide +kernel
theorem dL_law__1751 : decode cL_law_ 1751 = .ok (.iaload, 1) := by decide +kernel
theorem dL_law__1752 : decode cL_law_ 1752 = .ok (.aload_n 3, 1) := by decide +kernel
theorem dL_law__1753 : decode cL_law_ 1753 = .ok (.invokestatic 182, 3) := by decide +kernel
theorem dL_law__1756 : decode cL_law_ 1756 = .ok (.istore 5, 2) := by decide +kernel
theorem dL_law__1758 : decode cL_law_ 1758 = .ok (.aload_n 2, 1) := by decide +kernel
theorem dL_law__1759 : decode cL_law_ 1759 = .ok (.aload_n 0, 1) := by decide +kernel
theorem dL_law__1760 : decode cL_law_ 1760 = .ok (.iload 4, 2) := by decide +kernel
theorem dL_law__1762 : decode cL_law_ 1762 = .ok (.iconst 1, 1) := by decide +kernel
theorem dL_law__1763 : decode cL_law_ 1763 = .ok (.iadd, 1) := by decide +kernel
theorem dL_law__1764 : decode cL_law_ 1764 = .ok (.iaload, 1) := by decide +kernel
theorem dL_law__1765 : decode cL_law_ 1765 = .ok (.aload_n 0, 1) := by decide +kernel
theorem dL_law__1766 : decode cL_law_ 1766 = .ok (.iload 4, 2) := by decide +kernel
theorem dL_law__1768 : decode cL_law_ 1768 = .ok (.iconst 2, 1) := by decide +kernel
theorem dL_law__1769 : decode cL_law_ 1769 = .ok (.iadd, 1) := by decide +kernel
theorem dL_law__1770 : decode cL_law_ 1770 = .ok (.iaload, 1) := by decide +kernel
theorem dL_law__1771 : decode cL_law_ 1771 = .ok (.invokevirtual 184, 3) := by decide +kernel
theorem dL_law__1774 : decode cL_law_ 1774 = .ok (.lstore 6, 2) := by decide +kernel
theorem dL_law__1776 : decode cL_law_ 1776 = .ok (.aload_n 2, 1) := by decide +kernel
theorem dL_law__1777 : decode cL_law_ 1777 = .ok (.invokevirtual 112, 3) := by decide +kernel
theorem dL_law__1780 : decode cL_law_ 1780 = .ok (.iload 5, 2) := by decide +kernel
theorem dL_law__1782 : decode cL_law_ 1782 = .ok (.if_icmp .eq 5, 3) := by decide +kernel
theorem dL_law__1785 : decode cL_law_ 1785 = .ok (.iconst 0, 1) := by decide +kernel
theorem dL_law__1786 : decode cL_law_ 1786 = .ok (.ireturn, 1) := by decide +kernel
theorem dL_law__1787 : decode cL_law_ 1787 = .ok (.iload 5, 2) := by decide +kernel
theorem dL_law__1789 : decode cL_law_ 1789 = .ok (.ifCond .ne 14, 3) := by decide +kernel
theorem dL_law__1792 : decode cL_law_ 1792 = .ok (.aload_n 3, 1) := by decide +kernel
theorem dL_law__1793 : decode cL_law_ 1793 = .ok (.iconst 0, 1) := by decide +kernel
theorem dL_law__1794 : decode cL_law_ 1794 = .ok (.laload, 1) := by decide +kernel
theorem dL_law__1795 : decode cL_law_ 1795 = .ok (.lload 6, 2) := by decide +kernel
theorem dL_law__1797 : decode cL_law_ 1797 = .ok (.lcmp, 1) := by decide +kernel
theorem dL_law__1798 : decode cL_law_ 1798 = .ok (.ifCond .eq 5, 3) := by decide +kernel
theorem dL_law__1801 : decode cL_law_ 1801 = .ok (.iconst 0, 1) := by decide +kernel
theorem dL_law__1802 : decode cL_law_ 1802 = .ok (.ireturn, 1) := by decide +kernel
theorem dL_law__1803 : decode cL_law_ 1803 = .ok (.goto 223, 3) := by decide +kernel
theorem dL_law__1806 : decode cL_law_ 1806 = .ok (.aload_n 1, 1) := by decide +kernel
theorem dL_law__1807 : decode cL_law_ 1807 = .ok (.aload_n 0, 1) := by decide +kernel
theorem dL_law__1808 : decode cL_law_ 1808 = .ok (.iload 4, 2) := by decide +kernel
theorem dL_law__1810 : decode cL_law_ 1810 = .ok (.iconst 1, 1) := by decide +kernel
theorem dL_law__1811 : decode cL_law_ 1811 = .ok (.iadd, 1) := by decide +kernel
theorem dL_law__1812 : decode cL_law_ 1812 = .ok (.iaload, 1) := by decide +kernel
theorem dL_law__1813 : decode cL_law_ 1813 = .ok (.aload_n 0, 1) := by decide +kernel
theorem dL_law__1814 : decode cL_law_ 1814 = .ok (.iload 4, 2) := by decide +kernel
theorem dL_law__1816 : decode cL_law_ 1816 = .ok (.iconst 2, 1) := by decide +kernel
theorem dL_law__1817 : decode cL_law_ 1817 = .ok (.iadd, 1) := by decide +kernel
theorem dL_law__1818 : decode cL_law_ 1818 = .ok (.iaload, 1) := by decide +kernel
theorem dL_law__1819 : decode cL_law_ 1819 = .ok (.aload_n 3, 1) := by decide +kernel
theorem dL_law__1820 : decode cL_law_ 1820 = .ok (.invokestatic 185, 3) := by decide +kernel
theorem dL_law__1823 : decode cL_law_ 1823 = .ok (.istore 5, 2) := by decide +kernel
theorem dL_law__1825 : decode cL_law_ 1825 = .ok (.aload_n 2, 1) := by decide +kernel
theorem dL_law__1826 : decode cL_law_ 1826 = .ok (.aload_n 0, 1) := by decide +kernel
theorem dL_law__1827 : decode cL_law_ 1827 = .ok (.iload 4, 2) := by decide +kernel
theorem dL_law__1829 : decode cL_law_ 1829 = .ok (.iconst 1, 1) := by decide +kernel
theorem dL_law__1830 : decode cL_law_ 1830 = .ok (.iadd, 1) := by decide +kernel
theorem dL_law__1831 : decode cL_law_ 1831 = .ok (.iaload, 1) := by decide +kernel
theorem dL_law__1832 : decode cL_law_ 1832 = .ok (.aload_n 0, 1) := by decide +kernel
theorem dL_law__1833 : decode cL_law_ 1833 = .ok (.iload 4, 2) := by decide +kernel
theorem dL_law__1835 : decode cL_law_ 1835 = .ok (.iconst 2, 1) := by decide +kernel
theorem dL_law__1836 : decode cL_law_ 1836 = .ok (.iadd, 1) := by decide +kernel
theorem dL_law__1837 : decode cL_law_ 1837 = .ok (.iaload, 1) := by decide +kernel
theorem dL_law__1838 : decode cL_law_ 1838 = .ok (.invokevirtual 187, 3) := by decide +kernel
theorem dL_law__1841 : decode cL_law_ 1841 = .ok (.istore 6, 2) := by decide +kernel
theorem dL_law__1843 : decode cL_law_ 1843 = .ok (.aload_n 2, 1) := by decide +kernel
theorem dL_law__1844 : decode cL_law_ 1844 = .ok (.invokevirtual 112, 3) := by decide +kernel
theorem dL_law__1847 : decode cL_law_ 1847 = .ok (.iload 5, 2) := by decide +kernel
theorem dL_law__1849 : decode cL_law_ 1849 = .ok (.if_icmp .eq 5, 3) := by decide +kernel
theorem dL_law__1852 : decode cL_law_ 1852 = .ok (.iconst 0, 1) := by decide +kernel
theorem dL_law__1853 : decode cL_law_ 1853 = .ok (.ireturn, 1) := by decide +kernel
theorem dL_law__1854 : decode cL_law_ 1854 = .ok (.iload 5, 2) := by decide +kernel
theorem dL_law__1856 : decode cL_law_ 1856 = .ok (.ifCond .ne 15, 3) := by decide +kernel
theorem dL_law__1859 : decode cL_law_ 1859 = .ok (.aload_n 3, 1) := by decide +kernel
theorem dL_law__1860 : decode cL_law_ 1860 = .ok (.iconst 0, 1) := by decide +kernel
theorem dL_law__1861 : decode cL_law_ 1861 = .ok (.laload, 1) := by decide +kernel
theorem dL_law__1862 : decode cL_law_ 1862 = .ok (.iload 6, 2) := by decide +kernel
theorem dL_law__1864 : decode cL_law_ 1864 = .ok (.i2l, 1) := by decide +kernel
theorem dL_law__1865 : decode cL_law_ 1865 = .ok (.lcmp, 1) := by decide +kernel
theorem dL_law__1866 : decode cL_law_ 1866 = .ok (.ifCond .eq 5, 3) := by decide +kernel
theorem dL_law__1869 : decode cL_law_ 1869 = .ok (.iconst 0, 1) := by decide +kernel
theorem dL_law__1870 : decode cL_law_ 1870 = .ok (.ireturn, 1) := by decide +kernel
theorem dL_law__1871 : decode cL_law_ 1871 = .ok (.goto 155, 3) := by decide +kernel
theorem dL_law__1874 : decode cL_law_ 1874 = .ok (.aload_n 1, 1) := by decide +kernel
theorem dL_law__1875 : decode cL_law_ 1875 = .ok (.aload_n 0, 1) := by decide +kernel
theorem dL_law__1876 : decode cL_law_ 1876 = .ok (.iload 4, 2) := by decide +kernel
theorem dL_law__1878 : decode cL_law_ 1878 = .ok (.iconst 1, 1) := by decide +kernel
theorem dL_law__1879 : decode cL_law_ 1879 = .ok (.iadd, 1) := by decide +kernel
theorem dL_law__1880 : decode cL_law_ 1880 = .ok (.iaload, 1) := by decide +kernel
theorem dL_law__1881 : decode cL_law_ 1881 = .ok (.aload_n 0, 1) := by decide +kernel
theorem dL_law__1882 : decode cL_law_ 1882 = .ok (.iload 4, 2) := by decide +kernel
theorem dL_law__1884 : decode cL_law_ 1884 = .ok (.iconst 2, 1) := by decide +kernel
theorem dL_law__1885 : decode cL_law_ 1885 = .ok (.iadd, 1) := by decide +kernel
theorem dL_law__1886 : decode cL_law_ 1886 = .ok (.iaload, 1) := by decide +kernel
theorem dL_law__1887 : decode cL_law_ 1887 = .ok (.aload_n 3, 1) := by decide +kernel
theorem dL_law__1888 : decode cL_law_ 1888 = .ok (.invokestatic 188, 3) := by decide +kernel
theorem dL_law__1891 : decode cL_law_ 1891 = .ok (.istore 5, 2) := by decide +kernel
theorem dL_law__1893 : decode cL_law_ 1893 = .ok (.aload_n 2, 1) := by decide +kernel
theorem dL_law__1894 : decode cL_law_ 1894 = .ok (.aload_n 0, 1) := by decide +kernel
theorem dL_law__1895 : decode cL_law_ 1895 = .ok (.iload 4, 2) := by decide +kernel
theorem dL_law__1897 : decode cL_law_ 1897 = .ok (.iconst 1, 1) := by decide +kernel
theorem dL_law__1898 : decode cL_law_ 1898 = .ok (.iadd, 1) := by decide +kernel
theorem dL_law__1899 : decode cL_law_ 1899 = .ok (.iaload, 1) := by decide +kernel
theorem dL_law__1900 : decode cL_law_ 1900 = .ok (.aload_n 0, 1) := by decide +kernel
theorem dL_law__1901 : decode cL_law_ 1901 = .ok (.iload 4, 2) := by decide +kernel
theorem dL_law__1903 : decode cL_law_ 1903 = .ok (.iconst 2, 1) := by decide +kernel
theorem dL_law__1904 : decode cL_law_ 1904 = .ok (.iadd, 1) := by decide +kernel
theorem dL_law__1905 : decode cL_law_ 1905 = .ok (.iaload, 1) := by decide +kernel
theorem dL_law__1906 : decode cL_law_ 1906 = .ok (.invokevirtual 190, 3) := by decide +kernel
theorem dL_law__1909 : decode cL_law_ 1909 = .ok (.istore 6, 2) := by decide +kernel
theorem dL_law__1911 : decode cL_law_ 1911 = .ok (.aload_n 2, 1) := by decide +kernel
theorem dL_law__1912 : decode cL_law_ 1912 = .ok (.invokevirtual 112, 3) := by decide +kernel
theorem dL_law__1915 : decode cL_law_ 1915 = .ok (.iload 5, 2) := by decide +kernel
theorem dL_law__1917 : decode cL_law_ 1917 = .ok (.if_icmp .eq 5, 3) := by decide +kernel
theorem dL_law__1920 : decode cL_law_ 1920 = .ok (.iconst 0, 1) := by decide +kernel
theorem dL_law__1921 : decode cL_law_ 1921 = .ok (.ireturn, 1) := by decide +kernel
theorem dL_law__1922 : decode cL_law_ 1922 = .ok (.iload 5, 2) := by decide +kernel
theorem dL_law__1924 : decode cL_law_ 1924 = .ok (.ifCond .ne 15, 3) := by decide +kernel
theorem dL_law__1927 : decode cL_law_ 1927 = .ok (.aload_n 3, 1) := by decide +kernel
theorem dL_law__1928 : decode cL_law_ 1928 = .ok (.iconst 0, 1) := by decide +kernel
theorem dL_law__1929 : decode cL_law_ 1929 = .ok (.laload, 1) := by decide +kernel
theorem dL_law__1930 : decode cL_law_ 1930 = .ok (.iload 6, 2) := by decide +kernel
theorem dL_law__1932 : decode cL_law_ 1932 = .ok (.i2l, 1) := by decide +kernel
theorem dL_law__1933 : decode cL_law_ 1933 = .ok (.lcmp, 1) := by decide +kernel
theorem dL_law__1934 : decode cL_law_ 1934 = .ok (.ifCond .eq 5, 3) := by decide +kernel
theorem dL_law__1937 : decode cL_law_ 1937 = .ok (.iconst 0, 1) := by decide +kernel
theorem dL_law__1938 : decode cL_law_ 1938 = .ok (.ireturn, 1) := by decide +kernel
theorem dL_law__1939 : decode cL_law_ 1939 = .ok (.goto 87, 3) := by decide +kernel
theorem dL_law__1942 : decode cL_law_ 1942 = .ok (.aload_n 1, 1) := by decide +kernel
theorem dL_law__1943 : decode cL_law_ 1943 = .ok (.invokevirtual 191, 3) := by decide +kernel
theorem dL_law__1946 : decode cL_law_ 1946 = .ok (.aload_n 2, 1) := by decide +kernel
theorem dL_law__1947 : decode cL_law_ 1947 = .ok (.invokevirtual 195, 3) := by decide +kernel
theorem dL_law__1950 : decode cL_law_ 1950 = .ok (.lcmp, 1) := by decide +kernel
theorem dL_law__1951 : decode cL_law_ 1951 = .ok (.ifCond .eq 75, 3) := by decide +kernel
theorem dL_law__1954 : decode cL_law_ 1954 = .ok (.iconst 0, 1) := by decide +kernel
theorem dL_law__1955 : decode cL_law_ 1955 = .ok (.ireturn, 1) := by decide +kernel
theorem dL_law__1956 : decode cL_law_ 1956 = .ok (.aload_n 1, 1) := by decide +kernel
theorem dL_law__1957 : decode cL_law_ 1957 = .ok (.invokevirtual 196, 3) := by decide +kernel
theorem dL_law__1960 : decode cL_law_ 1960 = .ok (.aload_n 2, 1) := by decide +kernel
theorem dL_law__1961 : decode cL_law_ 1961 = .ok (.invokevirtual 199, 3) := by decide +kernel
theorem dL_law__1964 : decode cL_law_ 1964 = .ok (.lcmp, 1) := by decide +kernel
theorem dL_law__1965 : decode cL_law_ 1965 = .ok (.ifCond .eq 61, 3) := by decide +kernel
theorem dL_law__1968 : decode cL_law_ 1968 = .ok (.iconst 0, 1) := by decide +kernel
theorem dL_law__1969 : decode cL_law_ 1969 = .ok (.ireturn, 1) := by decide +kernel
theorem dL_law__1970 : decode cL_law_ 1970 = .ok (.aload_n 1, 1) := by decide +kernel
theorem dL_law__1971 : decode cL_law_ 1971 = .ok (.aload_n 0, 1) := by decide +kernel
theorem dL_law__1972 : decode cL_law_ 1972 = .ok (.iload 4, 2) := by decide +kernel
theorem dL_law__1974 : decode cL_law_ 1974 = .ok (.iconst 1, 1) := by decide +kernel
theorem dL_law__1975 : decode cL_law_ 1975 = .ok (.iadd, 1) := by decide +kernel
theorem dL_law__1976 : decode cL_law_ 1976 = .ok (.iaload, 1) := by decide +kernel
theorem dL_law__1977 : decode cL_law_ 1977 = .ok (.aload_n 3, 1) := by decide +kernel
theorem dL_law__1978 : decode cL_law_ 1978 = .ok (.invokestatic 200, 3) := by decide +kernel
theorem dL_law__1981 : decode cL_law_ 1981 = .ok (.istore 5, 2) := by decide +kernel
theorem dL_law__1983 : decode cL_law_ 1983 = .ok (.aload_n 2, 1) := by decide +kernel
theorem dL_law__1984 : decode cL_law_ 1984 = .ok (.aload_n 0, 1) := by decide +kernel
theorem dL_law__1985 : decode cL_law_ 1985 = .ok (.iload 4, 2) := by decide +kernel
theorem dL_law__1987 : decode cL_law_ 1987 = .ok (.iconst 1, 1) := by decide +kernel
theorem dL_law__1988 : decode cL_law_ 1988 = .ok (.iadd, 1) := by decide +kernel
theorem dL_law__1989 : decode cL_law_ 1989 = .ok (.iaload, 1) := by decide +kernel
theorem dL_law__1990 : decode cL_law_ 1990 = .ok (.invokevirtual 202, 3) := by decide +kernel
theorem dL_law__1993 : decode cL_law_ 1993 = .ok (.istore 6, 2) := by decide +kernel
theorem dL_law__1995 : decode cL_law_ 1995 = .ok (.aload_n 2, 1) := by decide +kernel
theorem dL_law__1996 : decode cL_law_ 1996 = .ok (.invokevirtual 112, 3) := by decide +kernel
theorem dL_law__1999 : decode cL_law_ 1999 = .ok (.iload 5, 2) := by decide +kernel
theorem dL_law__2001 : decode cL_law_ 2001 = .ok (.if_icmp .eq 5, 3) := by decide +kernel
theorem dL_law__2004 : decode cL_law_ 2004 = .ok (.iconst 0, 1) := by decide +kernel
theorem dL_law__2005 : decode cL_law_ 2005 = .ok (.ireturn, 1) := by decide +kernel
theorem dL_law__2006 : decode cL_law_ 2006 = .ok (.iload 5, 2) := by decide +kernel
theorem dL_law__2008 : decode cL_law_ 2008 = .ok (.ifCond .ne 15, 3) := by decide +kernel
theorem dL_law__2011 : decode cL_law_ 2011 = .ok (.aload_n 3, 1) := by decide +kernel
theorem dL_law__2012 : decode cL_law_ 2012 = .ok (.iconst 0, 1) := by decide +kernel
theorem dL_law__2013 : decode cL_law_ 2013 = .ok (.laload, 1) := by decide +kernel
theorem dL_law__2014 : decode cL_law_ 2014 = .ok (.iload 6, 2) := by decide +kernel
theorem dL_law__2016 : decode cL_law_ 2016 = .ok (.i2l, 1) := by decide +kernel
theorem dL_law__2017 : decode cL_law_ 2017 = .ok (.lcmp, 1) := by decide +kernel
theorem dL_law__2018 : decode cL_law_ 2018 = .ok (.ifCond .eq 5, 3) := by decide +kernel
theorem dL_law__2021 : decode cL_law_ 2021 = .ok (.iconst 0, 1) := by decide +kernel
theorem dL_law__2022 : decode cL_law_ 2022 = .ok (.ireturn, 1) := by decide +kernel
theorem dL_law__2023 : decode cL_law_ 2023 = .ok (.goto 3, 3) := by decide +kernel
theorem dL_law__2026 : decode cL_law_ 2026 = .ok (.iinc 4 5, 3) := by decide +kernel
theorem dL_law__2029 : decode cL_law_ 2029 = .ok (.goto (-2006), 3) := by decide +kernel
theorem dL_law__2032 : decode cL_law_ 2032 = .ok (.iconst 1, 1) := by decide +kernel
theorem dL_law__2033 : decode cL_law_ 2033 = .ok (.ireturn, 1) := by decide +kernel
end
section
def zKW (w : Cond) : Bool := match w with
  | .castable .. => true
  | .declares _ => true
  | .methodLinkNest .. => true
  | .fieldLinkNest .. => true
  | _ => false
def zNW (s : State) : Prop := ∀ w ∈ lw_tbl, zKW w = true → va_Nw w s
theorem zNW.warm {s U : State} (hW : s.WarmedH U.vm) (h : zNW s) : zNW U := by
  intro w hw hk
  have h1 := h w hw hk
  cases w <;> first | exact va_Nw.warmC hW h1 | exact va_Nw.warmD hW h1 | exact va_Nw.warmM hW h1 | exact va_Nw.warmF hW h1 | (exact absurd hk (by simp [zKW]))
theorem zNW.same {u U : State} (hv : u.vm = U.vm) (h : zNW u) : zNW U := by
  intro w hw hk
  have h1 := h w hw hk
  cases w <;> first | exact va_Nw.same rfl hv h1 | (exact absurd hk (by simp [zKW]))
def zLF : Nat → Int32 := fun j => [0, 2, 1, 25, 1, 0, 63].getD j 0
def zLL : Nat → Int32 := fun j => [0, 0, 1, 0, 0, 0, 0].getD j 0
def zLH : Nat → Int32 := fun j => [2, 3, 4, 100, 1, 1, 63].getD j 0
def zRF : Nat → Int32 := fun j => [0, 0, 0, 1].getD j 0
abbrev zA (g : zGh) : Nat → Prop := fun q => g.1 ≤ q
/-- the statics: where they lie and what they hold -/
def zSA (g : zGh) (s : State) (H : Heap) (nm : String) (i n : Nat) (f : Nat → Int32) : Prop := va_Z "Milletcourt" nm "[I" (.ref (g.2.2.2.1 i)) (zA g) s H ∧ va_T .int (g.2.2.2.1 i) n (fun j => .int (f j)) (zA g) s H
def zSF (g : zGh) (s : State) (H : Heap) : Prop :=
  (vx_Zq Bundle.tN "UNASSIGNED_STACK" Bundle.steD (zA g) s H ∧ vx_Zq Bundle.tN "SUPPRESSED_SENTINEL" Bundle.listD (zA g) s H) ∧
  (zSA g s H "LAWS_AT_FIRST" 0 7 zLF ∧ zSA g s H "LAWS_LOWEST" 1 7 zLL ∧ zSA g s H "LAWS_HIGHEST" 2 7 zLH ∧ zSA g s H "RULES_AT_FIRST" 3 4 zRF) ∧
  (va_Z "java/util/ArrayList" "DEFAULTCAPACITY_EMPTY_ELEMENTDATA" "[Ljava/lang/Object;" (.ref (g.2.2.2.1 4)) (zA g) s H ∧ va_T (.object "java/lang/Object") (g.2.2.2.1 4) 0 (fun _ => .null) (zA g) s H)
theorem zSF.moved {g : zGh} {u U : State} {H : Heap} (hv : u.vm.Alike U.vm) (h : zSF g u H) : zSF g U H := by
  obtain ⟨⟨h1, h2⟩, ⟨⟨a1, b1⟩, ⟨a2, b2⟩, ⟨a3, b3⟩, a4, b4⟩, h7, h8⟩ := h
  exact ⟨⟨h1.moved hv, h2.moved hv⟩, ⟨⟨a1.moved hv, b1.moved hv⟩, ⟨a2.moved hv, b2.moved hv⟩, ⟨a3.moved hv, b3.moved hv⟩, a4.moved hv, b4.moved hv⟩, h7.moved hv, h8.moved hv⟩
theorem zSF.kept {g : zGh} {U : State} {H H1 : Heap} (hq : ∀ a : Nat, a < H.size → ¬ zA g a → H1[a]? = H[a]?) (h : zSF g U H) : zSF g U H1 := by
  obtain ⟨⟨h1, h2⟩, ⟨⟨a1, b1⟩, ⟨a2, b2⟩, ⟨a3, b3⟩, a4, b4⟩, h7, h8⟩ := h
  exact ⟨⟨h1.kept hq, h2.kept hq⟩, ⟨⟨a1.kept hq, b1.kept hq⟩, ⟨a2.kept hq, b2.kept hq⟩, ⟨a3.kept hq, b3.kept hq⟩, a4.kept hq, b4.kept hq⟩, h7.kept hq, h8.kept hq⟩
abbrev zT (g : zGh) : List (ClassId × FieldType) := [(g.2.2.1 0, .int), (g.2.2.1 1, .boolean), (g.2.2.1 2, .long), (g.2.2.1 3, .object "java/lang/Object"), (g.2.2.1 4, .object "Milletcourt$Chronicle")]
/-- what holds of classes and statics at any time -/
def zTS (g : zGh) (s : State) (H : Heap) : Prop := va_K g.2.1 vwCl (zT g) s ∧ zNW s ∧ zSF g s H ∧ g.2.2.2.2.stackTraces = false ∧ va_Mi "[Ljava/lang/Object;" (g.2.2.2.1 5) s ∧ (va_AO "java/lang/Object" s ∧ va_AO "Milletcourt$Chronicle" s) ∧ ∀ q ∈ zTX, ∃ a, vk_R q.1 q.2.1 q.2.2 a s
theorem zTS.warm {g : zGh} {s U : State} {H : Heap} (hW : s.WarmedH U.vm) (h : zTS g s H) : zTS g U H := by
  obtain ⟨h1, h2, h3, h4, h5, ⟨h6, h7⟩, h8⟩ := h
  exact ⟨va_K.moved hW.alike h1, h2.warm hW, h3.moved hW.alike, h4, h5.moved hW.alike, ⟨h6.moved hW.alike, h7.moved hW.alike⟩, fun q hq => (h8 q hq).elim fun a h => ⟨a, h.warm hW⟩⟩
theorem zTS.same {g : zGh} {u U : State} {H : Heap} (hv : U.vm = u.vm) (h : zTS g u H) : zTS g U H := by
  obtain ⟨h1, h2, h3, h4, h5, ⟨h6, h7⟩, h8⟩ := h
  have hA : u.vm.Alike U.vm := by rw [hv]; exact Vm.Alike.refl _
  exact ⟨va_K.moved hA h1, h2.same hv.symm, h3.moved hA, h4, h5.moved hA, ⟨h6.moved hA, h7.moved hA⟩, fun q hq => (h8 q hq).elim fun a h => ⟨a, h.same hv⟩⟩
theorem zTS.kept {g : zGh} {U : State} {H H1 : Heap} (hq : ∀ a : Nat, a < H.size → ¬ zA g a → H1[a]? = H[a]?) (h : zTS g U H) : zTS g U H1 := by
  obtain ⟨h1, h2, h3, h4⟩ := h
  exact ⟨h1, h2, h3.kept hq, h4⟩
abbrev zX : Type := (Program × Env × Room × State) × (MethodId × Array Value × List Frame × Method × Code) × (State → Prop)
def zG (g : zGh) (X : zX) (M : zM) (k n pc : Nat) (L : List (Option Value)) (st : List Value) : Prop :=
  ∀ (H : Heap) (locs : List Loc) (ls : Array Slot), zH vwCl g M H → va_S (zA g) X.1.2.2.2.heap H locs → lv_has ls L.length (zas 0 L) → W X.1.1 g.2.2.2.2 X.1.2.1 X.1.2.2.1 X.1.2.2.2 X.2.1.1 X.2.1.2.1 X.2.1.2.2.1 X.2.1.2.2.2.1 X.2.1.2.2.2.2 H locs k n X.2.2 (F0 X.2.1.1 pc ls st)
/-- .. with an exception thrown over it -/
def zGx (g : zGh) (X : zX) (M : zM) (k n pc : Nat) (L : List (Option Value)) (E : String) : Prop :=
  ∀ (H : Heap) (locs : List Loc) (ls : Array Slot) (st : List Value) (q : Nat) (ce : Cell), zH vwCl g M H → va_S (zA g) X.1.2.2.2.heap H locs → lv_has ls L.length (zas 0 L) → H[q]? = some ce → ce.vm = .none → X.1.2.2.2.vm.findClass E = some ce.cls → vx_W X.1.1 g.2.2.2.2 X.1.2.1 X.1.2.2.1 X.1.2.2.2 X.2.1.1 X.2.1.2.1 X.2.1.2.2.1 X.2.1.2.2.2.1 X.2.1.2.2.2.2 H locs k n X.2.2 (F0 X.2.1.1 pc ls st) q
def zC (g : zGh) (X : zX) (own : String) (cc : ByteArray) (nL fr lc mc ms : Nat) : Prop :=
  X.1.1.tables.exec = Jvm.exec ∧ X.2.1.2.2.2.2.code = cc ∧ X.2.1.2.2.2.2.maxLocals = nL ∧ X.1.2.2.2.vm.findClass own = some X.2.1.1.cls ∧ (∀ w ∈ GW, w.before X.2.1.2.1 X.1.2.2.2 = true) ∧ zTS g X.1.2.2.2 X.1.2.2.2.heap ∧ X.2.1.2.2.2.1.locks = false ∧ g.1 ≤ X.1.2.2.2.heap.size ∧ X.1.2.2.1.frames = fr ∧ X.1.2.2.1.locals = lc ∧ X.1.2.2.1.cells = mc ∧ X.1.2.2.1.slots = ms
def zWW (g : zGh) (M : zM) (U : State) : Prop := zH vwCl g M U.heap ∧ zTS g U U.heap ∧ g.1 ≤ U.heap.size
def zQ {α : Type} (g : zGh) (mk : α → Option Value) (Post : α → zM → Prop) : Array Value → State → Outcome → State → Prop := fun _ st oc t => (∃ (v : α) (M1 : zM), oc = .returned (mk v) ∧ Post v M1 ∧ zH vwCl g M1 t.heap) ∧ va_F (zA g) st t
def zXQ (g : zGh) (PX : String → zM → Prop) : String → State → State → Prop := fun E st t => ∃ M1 : zM, PX E M1 ∧ zH vwCl g M1 t.heap ∧ va_F (zA g) st t
def zCt {α : Type} (g : zGh) (y : MethodName) (cc : ByteArray) (maxL : Nat) (ret : Option FieldType) (fr lc : Nat) (mk : α → Option Value) (As : List Value) (M : zM) (mc ms : Nat) (Post : α → zM → Prop) (PX : String → zM → Prop) : Prop :=
  vx_Met g.2.2.2.2 y (Cond.code y cc maxL ret :: GW) { frames := fr, cells := mc, slots := ms, locals := lc } (va_Pc As (zWW g M)) (zQ g mk Post) (zXQ g PX) mc ms (zA g)
def zE {α : Type} (g : zGh) (X : zX) (ret : Option FieldType) (mk : α → Option Value) (mc ms : Nat) (Post : α → zM → Prop) (PX : String → zM → Prop) : Prop :=
  X.2.1.2.2.2.1.sig.returnType = ret ∧ X.2.2 = vx_MQ X.2.1.2.2.1 (zQ g mk Post) (zXQ g PX) X.2.1.2.1 X.1.2.2.2 mc ms (zA g) ∧ (∀ x ∈ X.2.1.2.2.2.2.exceptionTable.toList, False)
def zNm (X : zX) (nm : String) : Prop := X.2.1.2.2.2.1.name = nm
abbrev mkI : Int32 → Option Value := fun v => some (.int v)
abbrev mkL : Int64 → Option Value := fun v => some (.long v)
abbrev mkR : Nat → Option Value := fun a => some (.ref a)
abbrev mkV : Unit → Option Value := fun _ => none
abbrev noX : String → zM → Prop := fun _ _ => False
theorem zof {α : Type} {g : zGh} {y : MethodName} {cc : ByteArray} {maxL : Nat} {ret : Option FieldType} {fr lc mc ms : Nat} {mk : α → Option Value} {As : List Value} {M : zM} {Post : α → zM → Prop} {PX : String → zM → Prop} (L : List (Option Value)) (hy : plainName y.cls = true) (hL : zas 0 L = lv_args 0 As) (hn : L.length = maxL) (hA : (lg_sl As).length ≤ maxL)
    (body : ∀ X : zX, zC g X y.cls cc maxL fr lc mc ms → zE g X ret mk mc ms Post PX → zNm X y.name → zG g X M 0 0 0 L []) : zCt g y cc maxL ret fr lc mk As M mc ms Post PX := by
  refine vx_ofW (cc := cc) (maxL := maxL) (ret := ret) hy rfl ?_
  intro p e s m args below meth c s₁ B hml ht hv
  obtain ⟨rfl, hH, hT, hlo⟩ := hv
  have hts := atoms_spec (ws := Cond.code y cc maxL ret :: GW) B.pre
  have K := body ((p, e, { frames := fr, cells := mc, slots := ms, locals := lc }, s), (m, As.toArray, below, meth, c), vx_MQ below (zQ g mk Post) (zXQ g PX) As.toArray s mc ms (zA g))
    ⟨B.exec, B.bytes, hml, findClass_of_methodNamed B.named, fun w hw => hts w (List.mem_cons_of_mem _ hw), hT, B.notSynchronized, hlo, rfl, rfl, rfl, rfl⟩ ⟨B.returns, rfl, ht⟩ (name_of_methodNamed B.named B.method).1
  rw [lg_entry_eq]
  refine K s.heap [] _ hH va_S.rf ?_
  rw [hn, hL]
  exact lv_entry As hA
section ZR
variable {g : zGh} {X : zX} {own : String} {cc : ByteArray} {nL fr lc mc ms : Nat} {M : zM} {k n pc : Nat} {L L1 : List (Option Value)} {st : List Value}

theorem zconst (C : zC g X own cc nL fr lc mc ms) {i : Int} {v : Int32} (hd : decode cc pc = .ok (.iconst i, 1)) (hv : Int32.ofInt i = v) (kk : zG g X M k n (pc + 1) L (.int v :: st)) : zG g X M k n pc L (st) := fun H locs ls hH hS hL => lv_iconst C.1 C.2.1 hd hv (kk H locs ls hH hS hL)
theorem zbipush (C : zC g X own cc nL fr lc mc ms) {i : Int} {v : Int32} (hd : decode cc pc = .ok (.bipush i, 2)) (hv : (Int8.ofInt i).toInt32 = v) (kk : zG g X M k n (pc + 2) L (.int v :: st)) : zG g X M k n pc L (st) := fun H locs ls hH hS hL => lv_bipush C.1 C.2.1 hd hv (kk H locs ls hH hS hL)
theorem zsipush (C : zC g X own cc nL fr lc mc ms) {i : Int} {v : Int32} (hd : decode cc pc = .ok (.sipush i, 3)) (hv : (Int16.ofInt i).toInt32 = v) (kk : zG g X M k n (pc + 3) L (.int v :: st)) : zG g X M k n pc L (st) := fun H locs ls hH hS hL => lv_sipush C.1 C.2.1 hd hv (kk H locs ls hH hS hL)
theorem zlconst (C : zC g X own cc nL fr lc mc ms) {i : Fin 2} {v : Int64} (hd : decode cc pc = .ok (.lconst i, 1)) (hv : Int64.ofNat (i : Nat) = v) (kk : zG g X M k n (pc + 1) L (.long v :: st)) : zG g X M k n pc L (st) := fun H locs ls hH hS hL => lv_lconst C.1 C.2.1 hd hv (kk H locs ls hH hS hL)
theorem znull (C : zC g X own cc nL fr lc mc ms) (hd : decode cc pc = .ok (.aconst_null, 1)) (kk : zG g X M k n (pc + 1) L (.null :: st)) : zG g X M k n pc L (st) := fun H locs ls hH hS hL => lv_null C.1 C.2.1 hd (kk H locs ls hH hS hL)
theorem ziload_n (C : zC g X own cc nL fr lc mc ms) {i : Fin 4} {x : Int32} (hd : decode cc pc = .ok (.iload_n i, 1)) (hl : L[(i : Nat)]? = some (some (.int x))) (kk : zG g X M k n (pc + 1) L (.int x :: st)) : zG g X M k n pc L (st) := fun H locs ls hH hS hL => lv_iload_n C.1 C.2.1 hd rfl (zhas_get hL hl) (kk H locs ls hH hS hL)
theorem ziload (C : zC g X own cc nL fr lc mc ms) {i : Nat} {x : Int32} (hd : decode cc pc = .ok (.iload i, 2)) (hl : L[i]? = some (some (.int x))) (kk : zG g X M k n (pc + 2) L (.int x :: st)) : zG g X M k n pc L (st) := fun H locs ls hH hS hL => lv_iload C.1 C.2.1 hd (zhas_get hL hl) (kk H locs ls hH hS hL)
theorem zlload_n (C : zC g X own cc nL fr lc mc ms) {i : Fin 4} {x : Int64} (hd : decode cc pc = .ok (.lload_n i, 1)) (hl : L[(i : Nat)]? = some (some (.long x))) (kk : zG g X M k n (pc + 1) L (.long x :: st)) : zG g X M k n pc L (st) := fun H locs ls hH hS hL => lv_lload_n C.1 C.2.1 hd rfl (zhas_get hL hl) (kk H locs ls hH hS hL)
theorem zlload (C : zC g X own cc nL fr lc mc ms) {i : Nat} {x : Int64} (hd : decode cc pc = .ok (.lload i, 2)) (hl : L[i]? = some (some (.long x))) (kk : zG g X M k n (pc + 2) L (.long x :: st)) : zG g X M k n pc L (st) := fun H locs ls hH hS hL => lv_lload C.1 C.2.1 hd (zhas_get hL hl) (kk H locs ls hH hS hL)
theorem zaload_n (C : zC g X own cc nL fr lc mc ms) {i : Fin 4} {x : Nat} (hd : decode cc pc = .ok (.aload_n i, 1)) (hl : L[(i : Nat)]? = some (some (.ref x))) (kk : zG g X M k n (pc + 1) L (.ref x :: st)) : zG g X M k n pc L (st) := fun H locs ls hH hS hL => lv_aload_n C.1 C.2.1 hd rfl (zhas_get hL hl) (kk H locs ls hH hS hL)
theorem zaload (C : zC g X own cc nL fr lc mc ms) {i : Nat} {x : Nat} (hd : decode cc pc = .ok (.aload i, 2)) (hl : L[i]? = some (some (.ref x))) (kk : zG g X M k n (pc + 2) L (.ref x :: st)) : zG g X M k n pc L (st) := fun H locs ls hH hS hL => lv_aload C.1 C.2.1 hd (zhas_get hL hl) (kk H locs ls hH hS hL)
theorem ziadd (C : zC g X own cc nL fr lc mc ms) {x y : Int32} (hd : decode cc pc = .ok (.iadd, 1)) (kk : zG g X M k n (pc + 1) L (.int (x + y) :: st)) : zG g X M k n pc L (.int y :: .int x :: st) := fun H locs ls hH hS hL => lv_iadd C.1 C.2.1 hd (kk H locs ls hH hS hL)
theorem zisub (C : zC g X own cc nL fr lc mc ms) {x y : Int32} (hd : decode cc pc = .ok (.isub, 1)) (kk : zG g X M k n (pc + 1) L (.int (x - y) :: st)) : zG g X M k n pc L (.int y :: .int x :: st) := fun H locs ls hH hS hL => lv_isub C.1 C.2.1 hd (kk H locs ls hH hS hL)
theorem zimul (C : zC g X own cc nL fr lc mc ms) {x y : Int32} (hd : decode cc pc = .ok (.imul, 1)) (kk : zG g X M k n (pc + 1) L (.int (x * y) :: st)) : zG g X M k n pc L (.int y :: .int x :: st) := fun H locs ls hH hS hL => lv_imul C.1 C.2.1 hd (kk H locs ls hH hS hL)
theorem ziand (C : zC g X own cc nL fr lc mc ms) {x y : Int32} (hd : decode cc pc = .ok (.iand, 1)) (kk : zG g X M k n (pc + 1) L (.int (x &&& y) :: st)) : zG g X M k n pc L (.int y :: .int x :: st) := fun H locs ls hH hS hL => lv_iand C.1 C.2.1 hd (kk H locs ls hH hS hL)
theorem zior (C : zC g X own cc nL fr lc mc ms) {x y : Int32} (hd : decode cc pc = .ok (.ior, 1)) (kk : zG g X M k n (pc + 1) L (.int (x ||| y) :: st)) : zG g X M k n pc L (.int y :: .int x :: st) := fun H locs ls hH hS hL => lv_ior C.1 C.2.1 hd (kk H locs ls hH hS hL)
theorem zixor (C : zC g X own cc nL fr lc mc ms) {x y : Int32} (hd : decode cc pc = .ok (.ixor, 1)) (kk : zG g X M k n (pc + 1) L (.int (x ^^^ y) :: st)) : zG g X M k n pc L (.int y :: .int x :: st) := fun H locs ls hH hS hL => lv_ixor C.1 C.2.1 hd (kk H locs ls hH hS hL)
theorem zishl (C : zC g X own cc nL fr lc mc ms) {x y : Int32} (hd : decode cc pc = .ok (.ishl, 1)) (kk : zG g X M k n (pc + 1) L (.int (x <<< (y &&& 31)) :: st)) : zG g X M k n pc L (.int y :: .int x :: st) := fun H locs ls hH hS hL => lv_ishl C.1 C.2.1 hd (kk H locs ls hH hS hL)
theorem zishr (C : zC g X own cc nL fr lc mc ms) {x y : Int32} (hd : decode cc pc = .ok (.ishr, 1)) (kk : zG g X M k n (pc + 1) L (.int (x >>> (y &&& 31)) :: st)) : zG g X M k n pc L (.int y :: .int x :: st) := fun H locs ls hH hS hL => lv_ishr C.1 C.2.1 hd (kk H locs ls hH hS hL)
theorem zidiv (C : zC g X own cc nL fr lc mc ms) {x y : Int32} (hd : decode cc pc = .ok (.idiv, 1)) (hne : ¬ y = 0) (kk : zG g X M k n (pc + 1) L (.int (x / y) :: st)) : zG g X M k n pc L (.int y :: .int x :: st) := fun H locs ls hH hS hL => lv_idiv C.1 C.2.1 hd hne (kk H locs ls hH hS hL)
theorem zirem (C : zC g X own cc nL fr lc mc ms) {x y : Int32} (hd : decode cc pc = .ok (.irem, 1)) (hne : ¬ y = 0) (kk : zG g X M k n (pc + 1) L (.int (x - x / y * y) :: st)) : zG g X M k n pc L (.int y :: .int x :: st) := fun H locs ls hH hS hL => lv_irem C.1 C.2.1 hd hne (kk H locs ls hH hS hL)
theorem zladd (C : zC g X own cc nL fr lc mc ms) {x y : Int64} (hd : decode cc pc = .ok (.ladd, 1)) (kk : zG g X M k n (pc + 1) L (.long (x + y) :: st)) : zG g X M k n pc L (.long y :: .long x :: st) := fun H locs ls hH hS hL => lv_ladd C.1 C.2.1 hd (kk H locs ls hH hS hL)
theorem zlsub (C : zC g X own cc nL fr lc mc ms) {x y : Int64} (hd : decode cc pc = .ok (.lsub, 1)) (kk : zG g X M k n (pc + 1) L (.long (x - y) :: st)) : zG g X M k n pc L (.long y :: .long x :: st) := fun H locs ls hH hS hL => lv_lsub C.1 C.2.1 hd (kk H locs ls hH hS hL)
theorem zlmul (C : zC g X own cc nL fr lc mc ms) {x y : Int64} (hd : decode cc pc = .ok (.lmul, 1)) (kk : zG g X M k n (pc + 1) L (.long (x * y) :: st)) : zG g X M k n pc L (.long y :: .long x :: st) := fun H locs ls hH hS hL => lv_lmul C.1 C.2.1 hd (kk H locs ls hH hS hL)
theorem zldiv (C : zC g X own cc nL fr lc mc ms) {x y : Int64} (hd : decode cc pc = .ok (.ldiv, 1)) (hne : ¬ y = 0) (kk : zG g X M k n (pc + 1) L (.long (x / y) :: st)) : zG g X M k n pc L (.long y :: .long x :: st) := fun H locs ls hH hS hL => lv_ldiv C.1 C.2.1 hd hne (kk H locs ls hH hS hL)
theorem zi2l (C : zC g X own cc nL fr lc mc ms) {x : Int32} (hd : decode cc pc = .ok (.i2l, 1)) (kk : zG g X M k n (pc + 1) L (.long x.toInt64 :: st)) : zG g X M k n pc L (.int x :: st) := fun H locs ls hH hS hL => lv_i2l C.1 C.2.1 hd rfl (kk H locs ls hH hS hL)
theorem zl2i (C : zC g X own cc nL fr lc mc ms) {x : Int64} (hd : decode cc pc = .ok (.l2i, 1)) (kk : zG g X M k n (pc + 1) L (.int x.toInt32 :: st)) : zG g X M k n pc L (.long x :: st) := fun H locs ls hH hS hL => lv_l2i C.1 C.2.1 hd rfl (kk H locs ls hH hS hL)
theorem zlcmp (C : zC g X own cc nL fr lc mc ms) {x y : Int64} (hd : decode cc pc = .ok (.lcmp, 1)) (kk : zG g X M k n (pc + 1) L (.int (lg_cmp x y) :: st)) : zG g X M k n pc L (.long y :: .long x :: st) := fun H locs ls hH hS hL => W.lcmp C.1 C.2.1 hd (kk H locs ls hH hS hL)
theorem zdup (C : zC g X own cc nL fr lc mc ms) {a : Value} (hd : decode cc pc = .ok (.dup, 1)) (ha : a.category = 1) (kk : zG g X M k n (pc + 1) L (a :: a :: st)) : zG g X M k n pc L (a :: st) := fun H locs ls hH hS hL => lv_dup C.1 C.2.1 hd ha (kk H locs ls hH hS hL)
theorem zdup2_11 (C : zC g X own cc nL fr lc mc ms) {a b : Value} (hd : decode cc pc = .ok (.dup2, 1)) (ha : a.category = 1) (hb : b.category = 1) (kk : zG g X M k n (pc + 1) L (a :: b :: a :: b :: st)) : zG g X M k n pc L (a :: b :: st) := fun H locs ls hH hS hL => lv_dup2_11 C.1 C.2.1 hd ha hb (kk H locs ls hH hS hL)
theorem zdup2_2 (C : zC g X own cc nL fr lc mc ms) {a : Value} (hd : decode cc pc = .ok (.dup2, 1)) (ha : a.category = 2) (kk : zG g X M k n (pc + 1) L (a :: a :: st)) : zG g X M k n pc L (a :: st) := fun H locs ls hH hS hL => lv_dup2_2 C.1 C.2.1 hd ha (kk H locs ls hH hS hL)
theorem zdup_x1 (C : zC g X own cc nL fr lc mc ms) {a b : Value} (hd : decode cc pc = .ok (.dup_x1, 1)) (ha : a.category = 1) (hb : b.category = 1) (kk : zG g X M k n (pc + 1) L (a :: b :: a :: st)) : zG g X M k n pc L (a :: b :: st) := fun H locs ls hH hS hL => lv_dup_x1 C.1 C.2.1 hd ha hb (kk H locs ls hH hS hL)
theorem zpop (C : zC g X own cc nL fr lc mc ms) {a : Value} (hd : decode cc pc = .ok (.pop, 1)) (ha : a.category = 1) (kk : zG g X M k n (pc + 1) L (st)) : zG g X M k n pc L (a :: st) := fun H locs ls hH hS hL => lv_pop C.1 C.2.1 hd ha (kk H locs ls hH hS hL)
theorem zldc (C : zC g X own cc nL fr lc mc ms) {i : Nat} {v : Int32} (hw : Cond.constant own i v ∈ GW) (hd : decode cc pc = .ok (.ldc i, 2)) (kk : zG g X M k n (pc + 2) L (.int v :: st)) : zG g X M k n pc L (st) := fun H locs ls hH hS hL => lv_ldc C.1 C.2.1 C.2.2.2.1 (C.2.2.2.2.1 _ hw) hd (kk H locs ls hH hS hL)
theorem zldc2 (C : zC g X own cc nL fr lc mc ms) {i : Nat} {v : Int64} (hw : Cond.constantLong own i v ∈ GW) (hd : decode cc pc = .ok (.ldc2_w i, 3)) (kk : zG g X M k n (pc + 3) L (.long v :: st)) : zG g X M k n pc L (st) := fun H locs ls hH hS hL => lv_ldc2 C.1 C.2.1 C.2.2.2.1 (C.2.2.2.2.1 _ hw) hd (kk H locs ls hH hS hL)
theorem zistore_n (C : zC g X own cc nL fr lc mc ms) {i : Fin 4} {x : Int32} (hd : decode cc pc = .ok (.istore_n i, 1)) (hz : zst L (i : Nat) (.int x) = L1) (hi : (i : Nat) + 0 < L.length) (kk : zG g X M k n (pc + 1) L1 st) : zG g X M k n pc L (.int x :: st) := fun H locs ls hH hS hL => lv_istore_n C.1 C.2.1 hd rfl hL (by omega) rfl (fun ls1 h1 => kk H locs ls1 hH hS (by rw [show L1.length = L.length from by rw [← hz]; exact zst_len _ _ _ (fun h => by cases h)]; exact zst1 rfl hz h1))
theorem zistore (C : zC g X own cc nL fr lc mc ms) {i : Nat} {x : Int32} (hd : decode cc pc = .ok (.istore i, 2)) (hz : zst L i (.int x) = L1) (hi : i + 0 < L.length) (kk : zG g X M k n (pc + 2) L1 st) : zG g X M k n pc L (.int x :: st) := fun H locs ls hH hS hL => lv_istore C.1 C.2.1 hd hL (by omega) rfl (fun ls1 h1 => kk H locs ls1 hH hS (by rw [show L1.length = L.length from by rw [← hz]; exact zst_len _ _ _ (fun h => by cases h)]; exact zst1 rfl hz h1))
theorem zastore_n (C : zC g X own cc nL fr lc mc ms) {i : Fin 4} {x : Nat} (hd : decode cc pc = .ok (.astore_n i, 1)) (hz : zst L (i : Nat) (.ref x) = L1) (hi : (i : Nat) + 0 < L.length) (kk : zG g X M k n (pc + 1) L1 st) : zG g X M k n pc L (.ref x :: st) := fun H locs ls hH hS hL => lv_astore_n C.1 C.2.1 hd rfl hL (by omega) rfl (fun ls1 h1 => kk H locs ls1 hH hS (by rw [show L1.length = L.length from by rw [← hz]; exact zst_len _ _ _ (fun h => by cases h)]; exact zst1 rfl hz h1))
theorem zastore (C : zC g X own cc nL fr lc mc ms) {i : Nat} {x : Nat} (hd : decode cc pc = .ok (.astore i, 2)) (hz : zst L i (.ref x) = L1) (hi : i + 0 < L.length) (kk : zG g X M k n (pc + 2) L1 st) : zG g X M k n pc L (.ref x :: st) := fun H locs ls hH hS hL => lv_astore C.1 C.2.1 hd hL (by omega) rfl (fun ls1 h1 => kk H locs ls1 hH hS (by rw [show L1.length = L.length from by rw [← hz]; exact zst_len _ _ _ (fun h => by cases h)]; exact zst1 rfl hz h1))
theorem zlstore_n (C : zC g X own cc nL fr lc mc ms) {i : Fin 4} {x : Int64} (hd : decode cc pc = .ok (.lstore_n i, 1)) (hz : zst L (i : Nat) (.long x) = L1) (hi : (i : Nat) + 1 < L.length) (kk : zG g X M k n (pc + 1) L1 st) : zG g X M k n pc L (.long x :: st) := fun H locs ls hH hS hL => lv_lstore_n C.1 C.2.1 hd rfl hL (by omega) rfl (fun ls1 h1 => kk H locs ls1 hH hS (by rw [show L1.length = L.length from by rw [← hz]; exact zst_len _ _ _ (by intro _; omega)]; exact zst2 rfl hz h1))
theorem zlstore (C : zC g X own cc nL fr lc mc ms) {i : Nat} {x : Int64} (hd : decode cc pc = .ok (.lstore i, 2)) (hz : zst L i (.long x) = L1) (hi : i + 1 < L.length) (kk : zG g X M k n (pc + 2) L1 st) : zG g X M k n pc L (.long x :: st) := fun H locs ls hH hS hL => lv_lstore C.1 C.2.1 hd hL (by omega) rfl (fun ls1 h1 => kk H locs ls1 hH hS (by rw [show L1.length = L.length from by rw [← hz]; exact zst_len _ _ _ (by intro _; omega)]; exact zst2 rfl hz h1))
theorem ziinc (C : zC g X own cc nL fr lc mc ms) {i : Nat} {j : Int} {x v : Int32} (hd : decode cc pc = .ok (.iinc i j, 3)) (hl : L[i]? = some (some (.int x))) (hv : x + Int32.ofInt j = v) (hz : zst L i (.int v) = L1) (kk : zG g X M k n (pc + 3) L1 st) : zG g X M k n pc L st := fun H locs ls hH hS hL => by
  obtain ⟨q, hq⟩ := List.getElem?_of_mem (by have := zas_get L 0 i _ hl; rw [Nat.zero_add] at this; exact this)
  have hi : i < L.length := (List.getElem?_eq_some_iff.mp hl).1
  exact lv_iinc C.1 C.2.1 hd hL hq hv hi rfl (fun ls1 h1 => kk H locs ls1 hH hS (by rw [show L1.length = L.length from by rw [← hz]; exact zst_len _ _ _ (fun h => by cases h)]; exact zst1 rfl hz h1))
theorem zgoto (C : zC g X own cc nL fr lc mc ms) {off : Int} {tgt : Nat} (hd : decode cc pc = .ok (.goto off, 3)) (ht : (pc : Int) + off = (tgt : Int)) (kk : zG g X M k n tgt L st) : zG g X M k n pc L st := fun H locs ls hH hS hL => lv_goto C.1 C.2.1 hd ht (kk H locs ls hH hS hL)
theorem zif_eq (C : zC g X own cc nL fr lc mc ms) {x : Int32} {off : Int} {tgt : Nat} (hd : decode cc pc = .ok (.ifCond .eq off, 3)) (ht : (pc : Int) + off = (tgt : Int)) (kt : x = 0 → zG g X M k n tgt L st) (kf : ¬ x = 0 → zG g X M k n (pc + 3) L st) : zG g X M k n pc L (.int x :: st) := fun H locs ls hH hS hL => lv_if_eq C.1 C.2.1 hd ht (fun h => kt h H locs ls hH hS hL) (fun h => kf h H locs ls hH hS hL)
theorem zicmp_eq (C : zC g X own cc nL fr lc mc ms) {x y : Int32} {off : Int} {tgt : Nat} (hd : decode cc pc = .ok (.if_icmp .eq off, 3)) (ht : (pc : Int) + off = (tgt : Int)) (kt : x = y → zG g X M k n tgt L st) (kf : ¬ x = y → zG g X M k n (pc + 3) L st) : zG g X M k n pc L (.int y :: .int x :: st) := fun H locs ls hH hS hL => lv_icmp_eq C.1 C.2.1 hd ht (fun h => kt h H locs ls hH hS hL) (fun h => kf h H locs ls hH hS hL)
theorem zif_eq_t (C : zC g X own cc nL fr lc mc ms) {x : Int32} {off : Int} {tgt : Nat} (hd : decode cc pc = .ok (.ifCond .eq off, 3)) (ht : (pc : Int) + off = (tgt : Int)) (hc : x = 0) (kt : zG g X M k n tgt L st) : zG g X M k n pc L (.int x :: st) := zif_eq C hd ht (fun _ => kt) (fun h => absurd hc (by first | exact h | exact not_not_intro h))
theorem zif_eq_f (C : zC g X own cc nL fr lc mc ms) {x : Int32} {off : Int} {tgt : Nat} (hd : decode cc pc = .ok (.ifCond .eq off, 3)) (ht : (pc : Int) + off = (tgt : Int)) (hc : ¬ x = 0) (kf : zG g X M k n (pc + 3) L st) : zG g X M k n pc L (.int x :: st) := zif_eq C hd ht (fun h => absurd hc (by first | exact h | exact not_not_intro h)) (fun _ => kf)
theorem zif_ne (C : zC g X own cc nL fr lc mc ms) {x : Int32} {off : Int} {tgt : Nat} (hd : decode cc pc = .ok (.ifCond .ne off, 3)) (ht : (pc : Int) + off = (tgt : Int)) (kt : ¬ x = 0 → zG g X M k n tgt L st) (kf : x = 0 → zG g X M k n (pc + 3) L st) : zG g X M k n pc L (.int x :: st) := fun H locs ls hH hS hL => lv_if_ne C.1 C.2.1 hd ht (fun h => kt h H locs ls hH hS hL) (fun h => kf h H locs ls hH hS hL)
theorem zicmp_ne (C : zC g X own cc nL fr lc mc ms) {x y : Int32} {off : Int} {tgt : Nat} (hd : decode cc pc = .ok (.if_icmp .ne off, 3)) (ht : (pc : Int) + off = (tgt : Int)) (kt : ¬ x = y → zG g X M k n tgt L st) (kf : x = y → zG g X M k n (pc + 3) L st) : zG g X M k n pc L (.int y :: .int x :: st) := fun H locs ls hH hS hL => lv_icmp_ne C.1 C.2.1 hd ht (fun h => kt h H locs ls hH hS hL) (fun h => kf h H locs ls hH hS hL)
theorem zif_ne_t (C : zC g X own cc nL fr lc mc ms) {x : Int32} {off : Int} {tgt : Nat} (hd : decode cc pc = .ok (.ifCond .ne off, 3)) (ht : (pc : Int) + off = (tgt : Int)) (hc : ¬ x = 0) (kt : zG g X M k n tgt L st) : zG g X M k n pc L (.int x :: st) := zif_ne C hd ht (fun _ => kt) (fun h => absurd hc (by first | exact h | exact not_not_intro h))
theorem zif_ne_f (C : zC g X own cc nL fr lc mc ms) {x : Int32} {off : Int} {tgt : Nat} (hd : decode cc pc = .ok (.ifCond .ne off, 3)) (ht : (pc : Int) + off = (tgt : Int)) (hc : x = 0) (kf : zG g X M k n (pc + 3) L st) : zG g X M k n pc L (.int x :: st) := zif_ne C hd ht (fun h => absurd hc (by first | exact h | exact not_not_intro h)) (fun _ => kf)
theorem zif_lt (C : zC g X own cc nL fr lc mc ms) {x : Int32} {off : Int} {tgt : Nat} (hd : decode cc pc = .ok (.ifCond .lt off, 3)) (ht : (pc : Int) + off = (tgt : Int)) (kt : x < 0 → zG g X M k n tgt L st) (kf : ¬ x < 0 → zG g X M k n (pc + 3) L st) : zG g X M k n pc L (.int x :: st) := fun H locs ls hH hS hL => lv_if_lt C.1 C.2.1 hd ht (fun h => kt h H locs ls hH hS hL) (fun h => kf h H locs ls hH hS hL)
theorem zicmp_lt (C : zC g X own cc nL fr lc mc ms) {x y : Int32} {off : Int} {tgt : Nat} (hd : decode cc pc = .ok (.if_icmp .lt off, 3)) (ht : (pc : Int) + off = (tgt : Int)) (kt : x < y → zG g X M k n tgt L st) (kf : ¬ x < y → zG g X M k n (pc + 3) L st) : zG g X M k n pc L (.int y :: .int x :: st) := fun H locs ls hH hS hL => lv_icmp_lt C.1 C.2.1 hd ht (fun h => kt h H locs ls hH hS hL) (fun h => kf h H locs ls hH hS hL)
theorem zif_lt_t (C : zC g X own cc nL fr lc mc ms) {x : Int32} {off : Int} {tgt : Nat} (hd : decode cc pc = .ok (.ifCond .lt off, 3)) (ht : (pc : Int) + off = (tgt : Int)) (hc : x < 0) (kt : zG g X M k n tgt L st) : zG g X M k n pc L (.int x :: st) := zif_lt C hd ht (fun _ => kt) (fun h => absurd hc (by first | exact h | exact not_not_intro h))
theorem zif_lt_f (C : zC g X own cc nL fr lc mc ms) {x : Int32} {off : Int} {tgt : Nat} (hd : decode cc pc = .ok (.ifCond .lt off, 3)) (ht : (pc : Int) + off = (tgt : Int)) (hc : ¬ x < 0) (kf : zG g X M k n (pc + 3) L st) : zG g X M k n pc L (.int x :: st) := zif_lt C hd ht (fun h => absurd hc (by first | exact h | exact not_not_intro h)) (fun _ => kf)
theorem zif_ge (C : zC g X own cc nL fr lc mc ms) {x : Int32} {off : Int} {tgt : Nat} (hd : decode cc pc = .ok (.ifCond .ge off, 3)) (ht : (pc : Int) + off = (tgt : Int)) (kt : 0 ≤ x → zG g X M k n tgt L st) (kf : ¬ 0 ≤ x → zG g X M k n (pc + 3) L st) : zG g X M k n pc L (.int x :: st) := fun H locs ls hH hS hL => lv_if_ge C.1 C.2.1 hd ht (fun h => kt h H locs ls hH hS hL) (fun h => kf h H locs ls hH hS hL)
theorem zicmp_ge (C : zC g X own cc nL fr lc mc ms) {x y : Int32} {off : Int} {tgt : Nat} (hd : decode cc pc = .ok (.if_icmp .ge off, 3)) (ht : (pc : Int) + off = (tgt : Int)) (kt : y ≤ x → zG g X M k n tgt L st) (kf : ¬ y ≤ x → zG g X M k n (pc + 3) L st) : zG g X M k n pc L (.int y :: .int x :: st) := fun H locs ls hH hS hL => lv_icmp_ge C.1 C.2.1 hd ht (fun h => kt h H locs ls hH hS hL) (fun h => kf h H locs ls hH hS hL)
theorem zif_ge_t (C : zC g X own cc nL fr lc mc ms) {x : Int32} {off : Int} {tgt : Nat} (hd : decode cc pc = .ok (.ifCond .ge off, 3)) (ht : (pc : Int) + off = (tgt : Int)) (hc : 0 ≤ x) (kt : zG g X M k n tgt L st) : zG g X M k n pc L (.int x :: st) := zif_ge C hd ht (fun _ => kt) (fun h => absurd hc (by first | exact h | exact not_not_intro h))
theorem zif_ge_f (C : zC g X own cc nL fr lc mc ms) {x : Int32} {off : Int} {tgt : Nat} (hd : decode cc pc = .ok (.ifCond .ge off, 3)) (ht : (pc : Int) + off = (tgt : Int)) (hc : ¬ 0 ≤ x) (kf : zG g X M k n (pc + 3) L st) : zG g X M k n pc L (.int x :: st) := zif_ge C hd ht (fun h => absurd hc (by first | exact h | exact not_not_intro h)) (fun _ => kf)
theorem zif_gt (C : zC g X own cc nL fr lc mc ms) {x : Int32} {off : Int} {tgt : Nat} (hd : decode cc pc = .ok (.ifCond .gt off, 3)) (ht : (pc : Int) + off = (tgt : Int)) (kt : 0 < x → zG g X M k n tgt L st) (kf : ¬ 0 < x → zG g X M k n (pc + 3) L st) : zG g X M k n pc L (.int x :: st) := fun H locs ls hH hS hL => lv_if_gt C.1 C.2.1 hd ht (fun h => kt h H locs ls hH hS hL) (fun h => kf h H locs ls hH hS hL)
theorem zicmp_gt (C : zC g X own cc nL fr lc mc ms) {x y : Int32} {off : Int} {tgt : Nat} (hd : decode cc pc = .ok (.if_icmp .gt off, 3)) (ht : (pc : Int) + off = (tgt : Int)) (kt : y < x → zG g X M k n tgt L st) (kf : ¬ y < x → zG g X M k n (pc + 3) L st) : zG g X M k n pc L (.int y :: .int x :: st) := fun H locs ls hH hS hL => lv_icmp_gt C.1 C.2.1 hd ht (fun h => kt h H locs ls hH hS hL) (fun h => kf h H locs ls hH hS hL)
theorem zif_gt_t (C : zC g X own cc nL fr lc mc ms) {x : Int32} {off : Int} {tgt : Nat} (hd : decode cc pc = .ok (.ifCond .gt off, 3)) (ht : (pc : Int) + off = (tgt : Int)) (hc : 0 < x) (kt : zG g X M k n tgt L st) : zG g X M k n pc L (.int x :: st) := zif_gt C hd ht (fun _ => kt) (fun h => absurd hc (by first | exact h | exact not_not_intro h))
theorem zif_gt_f (C : zC g X own cc nL fr lc mc ms) {x : Int32} {off : Int} {tgt : Nat} (hd : decode cc pc = .ok (.ifCond .gt off, 3)) (ht : (pc : Int) + off = (tgt : Int)) (hc : ¬ 0 < x) (kf : zG g X M k n (pc + 3) L st) : zG g X M k n pc L (.int x :: st) := zif_gt C hd ht (fun h => absurd hc (by first | exact h | exact not_not_intro h)) (fun _ => kf)
theorem zif_le (C : zC g X own cc nL fr lc mc ms) {x : Int32} {off : Int} {tgt : Nat} (hd : decode cc pc = .ok (.ifCond .le off, 3)) (ht : (pc : Int) + off = (tgt : Int)) (kt : x ≤ 0 → zG g X M k n tgt L st) (kf : ¬ x ≤ 0 → zG g X M k n (pc + 3) L st) : zG g X M k n pc L (.int x :: st) := fun H locs ls hH hS hL => lv_if_le C.1 C.2.1 hd ht (fun h => kt h H locs ls hH hS hL) (fun h => kf h H locs ls hH hS hL)
theorem zicmp_le (C : zC g X own cc nL fr lc mc ms) {x y : Int32} {off : Int} {tgt : Nat} (hd : decode cc pc = .ok (.if_icmp .le off, 3)) (ht : (pc : Int) + off = (tgt : Int)) (kt : x ≤ y → zG g X M k n tgt L st) (kf : ¬ x ≤ y → zG g X M k n (pc + 3) L st) : zG g X M k n pc L (.int y :: .int x :: st) := fun H locs ls hH hS hL => lv_icmp_le C.1 C.2.1 hd ht (fun h => kt h H locs ls hH hS hL) (fun h => kf h H locs ls hH hS hL)
theorem zif_le_t (C : zC g X own cc nL fr lc mc ms) {x : Int32} {off : Int} {tgt : Nat} (hd : decode cc pc = .ok (.ifCond .le off, 3)) (ht : (pc : Int) + off = (tgt : Int)) (hc : x ≤ 0) (kt : zG g X M k n tgt L st) : zG g X M k n pc L (.int x :: st) := zif_le C hd ht (fun _ => kt) (fun h => absurd hc (by first | exact h | exact not_not_intro h))
theorem zif_le_f (C : zC g X own cc nL fr lc mc ms) {x : Int32} {off : Int} {tgt : Nat} (hd : decode cc pc = .ok (.ifCond .le off, 3)) (ht : (pc : Int) + off = (tgt : Int)) (hc : ¬ x ≤ 0) (kf : zG g X M k n (pc + 3) L st) : zG g X M k n pc L (.int x :: st) := zif_le C hd ht (fun h => absurd hc (by first | exact h | exact not_not_intro h)) (fun _ => kf)
theorem zacmp_eq (C : zC g X own cc nL fr lc mc ms) {rx ry : Option Nat} {a b : Value} {off : Int} {tgt : Nat} (hd : decode cc pc = .ok (.if_acmp .eq off, 3)) (ht : (pc : Int) + off = (tgt : Int)) (ha : va_rf rx = a) (hb : va_rf ry = b) (kt : rx = ry → zG g X M k n tgt L st) (kf : ¬ rx = ry → zG g X M k n (pc + 3) L st) : zG g X M k n pc L (b :: a :: st) := fun H locs ls hH hS hL => by
  subst ha; subst hb
  exact lv_acmp_eq C.1 C.2.1 hd ht (fun h => kt h H locs ls hH hS hL) (fun h => kf h H locs ls hH hS hL)
theorem zacmp_ne (C : zC g X own cc nL fr lc mc ms) {rx ry : Option Nat} {a b : Value} {off : Int} {tgt : Nat} (hd : decode cc pc = .ok (.if_acmp .ne off, 3)) (ht : (pc : Int) + off = (tgt : Int)) (ha : va_rf rx = a) (hb : va_rf ry = b) (kt : ¬ rx = ry → zG g X M k n tgt L st) (kf : rx = ry → zG g X M k n (pc + 3) L st) : zG g X M k n pc L (b :: a :: st) := fun H locs ls hH hS hL => by
  subst ha; subst hb
  exact lv_acmp_ne C.1 C.2.1 hd ht (fun h => kt h H locs ls hH hS hL) (fun h => kf h H locs ls hH hS hL)
theorem zifnonnull (C : zC g X own cc nL fr lc mc ms) {x : Nat} {off : Int} {tgt : Nat} (hd : decode cc pc = .ok (.ifnonnull off, 3)) (ht : (pc : Int) + off = (tgt : Int)) (kk : zG g X M k n tgt L st) : zG g X M k n pc L (.ref x :: st) := fun H locs ls hH hS hL => lv_ifnonnull C.1 C.2.1 hd ht (kk H locs ls hH hS hL)
theorem zifnull (C : zC g X own cc nL fr lc mc ms) {x : Nat} {off : Int} (hd : decode cc pc = .ok (.ifnull off, 3)) (kk : zG g X M k n (pc + 3) L st) : zG g X M k n pc L (.ref x :: st) := fun H locs ls hH hS hL => lv_ifnull C.1 C.2.1 hd (kk H locs ls hH hS hL)
theorem zifnullN (C : zC g X own cc nL fr lc mc ms) {off : Int} {tgt : Nat} (hd : decode cc pc = .ok (.ifnull off, 3)) (ht : (pc : Int) + off = (tgt : Int)) (kk : zG g X M k n tgt L st) : zG g X M k n pc L (.null :: st) := fun H locs ls hH hS hL => lv_ifnullN C.1 C.2.1 hd ht (kk H locs ls hH hS hL)
theorem zifnonnullN (C : zC g X own cc nL fr lc mc ms) {off : Int} (hd : decode cc pc = .ok (.ifnonnull off, 3)) (kk : zG g X M k n (pc + 3) L st) : zG g X M k n pc L (.null :: st) := fun H locs ls hH hS hL => lv_ifnonnullN C.1 C.2.1 hd (kk H locs ls hH hS hL)
theorem zts_in (C : zC g X own cc nL fr lc mc ms) {dflt lo hi : Int} {offs : Array Int} {len : Nat} {x : Int32} {off : Int} {tgt : Nat} (hd : decode cc pc = .ok (.tableswitch dflt lo hi offs, len)) (h1 : ¬ x.toInt < lo) (h2 : ¬ hi < x.toInt) (ho : offs[(x.toInt - lo).toNat]? = some off) (ht : (pc : Int) + off = (tgt : Int)) (kk : zG g X M k n tgt L st) : zG g X M k n pc L (.int x :: st) := fun H locs ls hH hS hL => lv_tableIn C.1 C.2.1 hd h1 h2 ho ht (kk H locs ls hH hS hL)
theorem zts_out (C : zC g X own cc nL fr lc mc ms) {dflt lo hi : Int} {offs : Array Int} {len : Nat} {x : Int32} {tgt : Nat} (hd : decode cc pc = .ok (.tableswitch dflt lo hi offs, len)) (h : x.toInt < lo ∨ hi < x.toInt) (ht : (pc : Int) + dflt = (tgt : Int)) (kk : zG g X M k n tgt L st) : zG g X M k n pc L (.int x :: st) := fun H locs ls hH hS hL => lv_tableOut C.1 C.2.1 hd h ht (kk H locs ls hH hS hL)
theorem zwid {k1 n1 : Nat} (h1 : k ≤ k1) (h2 : n ≤ n1) (kk : zG g X M k1 n1 pc L st) : zG g X M k n pc L st := fun H locs ls hH hS hL => W.widen h1 h2 (kk H locs ls hH hS hL)
end ZR
end
section
/-- an object; rows of ints, booleans, longs, references to Object, to Chronicle -/
def zob (ci : Nat) (fs : List Value) : va_E := .inr (ci, fs)
def zai (g : zGh) (n : Nat) (f : Nat → Int32) : va_E := .inl (g.2.2.1 0, n, .inl f)
def zaz (g : zGh) (n : Nat) (f : Nat → Int32) : va_E := .inl (g.2.2.1 1, n, .inl f)
def zaj (g : zGh) (n : Nat) (f : Nat → Int64) : va_E := .inl (g.2.2.1 2, n, .inr (.inl f))
def zao (g : zGh) (n : Nat) (f : Nat → Option Nat) : va_E := .inl (g.2.2.1 3, n, .inr (.inr (.inr (.inr f))))
def zac (g : zGh) (n : Nat) (f : Nat → Option Nat) : va_E := .inl (g.2.2.1 4, n, .inr (.inr (.inr (.inr f))))
/-- a field's place as one class's constant pool has it -/
def zF (own : String) (idx ci j : Nat) (C : String) (T : u_T) (N : Nat) (ref : String) : Prop :=
  vwCl[ci]? = some (C, T, N) ∧ j < N ∧ Cond.fieldLink own idx ref (T j).2.1 (T j).2.2.1 ∈ GW ∧ (∀ w ∈ u_ws C T N, w ∈ GW) ∧ (ref = (T j).1 ∨ Cond.sameField ref (T j).1 (T j).2.1 (T j).2.2.1 ∈ GW)
/-- .. a field that is written -/
def zFp (C : String) (T : u_T) (N : Nat) (ty : Nat → FieldType) : Prop :=
  (∀ k, k < N → parseFieldDescriptor (T k).2.2.1 = some (ty k)) ∧ (∀ a, a < N → ∀ b, b < N → a ≠ b → (T a).2.1 ≠ (T b).2.1)
section ZM
variable {g : zGh} {X : zX} {own : String} {cc : ByteArray} {nL fr lc mc ms : Nat} {M : zM} {k n pc : Nat} {L L1 : List (Option Value)} {st : List Value}
theorem zF.same {idx ci j N : Nat} {C ref : String} {T : u_T} {args : Array Value} {s : State} (hF : zF own idx ci j C T N ref) (hts : ∀ w ∈ GW, w.before args s = true) : ∀ x, s.fieldFound? (T j).1 (T j).2.1 (T j).2.2.1 = some x → s.fieldFound? ref (T j).2.1 (T j).2.2.1 = some x := by
  rcases hF.2.2.2.2 with h | h
  · rw [h]; exact fun _ h => h
  · exact fun x hx => u_same (hts _ h) x hx
theorem zget (C : zC g X own cc nL fr lc mc ms) {idx ci j N a : Nat} {Cn ref : String} {T : u_T} {fs : List Value} {v : Value} (hF : zF own idx ci j Cn T N ref) (hM : M a = some (zob ci fs)) (hv : fs[j]? = some v) (hd : decode cc pc = .ok (.getfield idx, 3)) (kk : zG g X M k n (pc + 3) L (v :: st)) : zG g X M k n pc L (.ref a :: st) := by
  intro H locs ls hH hS hL
  have hP : va_P g.2.1 vwCl [(a, zob ci fs)] H := fun i q hq => by
    have hz : i < 1 := (List.getElem?_eq_some_iff.mp hq).1
    rw [show i = 0 by omega] at hq
    cases hq
    exact hH.at hM
  exact va_get C.1 C.2.1 C.2.2.2.2.1 hF.2.2.2.1 C.2.2.2.1 C.2.2.2.2.2.1.1 hP 0 rfl hF.1 j hF.2.1 (C.2.2.2.2.1 _ hF.2.2.1) (hF.same C.2.2.2.2.1) hv hd (kk H locs ls hH hS hL)
theorem zput (C : zC g X own cc nL fr lc mc ms) {idx ci j N a : Nat} {Cn ref : String} {T : u_T} {ty : Nat → FieldType} {fs fs1 : List Value} {v : Value} (hF : zF own idx ci j Cn T N ref) (hp : zFp Cn T N ty) (hfin : (T j).2.2.2 = false) (hM : M a = some (zob ci fs)) (hn : narrow (ty j) v = v) (hfit : fits (ty j) v = true) (hl : j < fs.length) (hs : fs.set j v = fs1) (hd : decode cc pc = .ok (.putfield idx, 3)) (kk : zG g X (zup M a (zob ci fs1)) k n (pc + 3) L st) : zG g X M k n pc L (v :: .ref a :: st) := by
  intro H locs ls hH hS hL
  subst hs
  obtain ⟨ws, hP, hD, hi⟩ := hH
  obtain ⟨q, hq⟩ := List.getElem?_of_mem ((hi _ _).mp hM)
  exact va_put C.1 C.2.1 C.2.2.2.2.1 hF.2.2.2.1 ty hp.1 hp.2 C.2.2.2.1 C.2.2.2.2.2.1.1 hP hD hS q hq hF.1 j hF.2.1 (C.2.2.2.2.1 _ hF.2.2.1) (hF.same C.2.2.2.2.1) hfin (hp.1 j hF.2.1) hn hfit hl hd
    (fun H1 locs1 hP1 hD1 hS1 => kk H1 locs1 ls ⟨_, hP1, hD1, zset_iff hP hD hi hq⟩ hS1 hL)
theorem zputF (C : zC g X own cc nL fr lc mc ms) (hnm : zNm X "<init>") {idx ci j N a : Nat} {Cn ref : String} {T : u_T} {ty : Nat → FieldType} {fs fs1 : List Value} {v : Value} (hF : zF own idx ci j Cn T N ref) (hp : zFp Cn T N ty) (hfin : (T j).2.2.2 = true) (hdecl : (T j).1 = own) (hM : M a = some (zob ci fs)) (hn : narrow (ty j) v = v) (hfit : fits (ty j) v = true) (hl : j < fs.length) (hs : fs.set j v = fs1) (hd : decode cc pc = .ok (.putfield idx, 3)) (kk : zG g X (zup M a (zob ci fs1)) k n (pc + 3) L st) : zG g X M k n pc L (v :: .ref a :: st) := by
  intro H locs ls hH hS hL
  subst hs
  obtain ⟨ws, hP, hD, hi⟩ := hH
  obtain ⟨q, hq⟩ := List.getElem?_of_mem ((hi _ _).mp hM)
  exact va_putF C.1 C.2.1 C.2.2.2.2.1 hF.2.2.2.1 ty hp.1 hp.2 C.2.2.2.1 C.2.2.2.2.2.1.1 hP hD hS q hq hF.1 j hF.2.1 (C.2.2.2.2.1 _ hF.2.2.1) (hF.same C.2.2.2.2.1) hfin hnm hdecl (hp.1 j hF.2.1) hn hfit hl hd
    (fun H1 locs1 hP1 hD1 hS1 => kk H1 locs1 ls ⟨_, hP1, hD1, zset_iff hP hD hi hq⟩ hS1 hL)
/-- one cell of a memory, alone -/
theorem zH.one {H : Heap} (hH : zH vwCl g M H) {a : Nat} {e : va_E} (hM : M a = some e) : va_P g.2.1 vwCl [(a, e)] H := fun i q hq => by
  have hz : i < 1 := (List.getElem?_eq_some_iff.mp hq).1
  rw [show i = 0 by omega] at hq
  cases hq
  exact hH.at hM
theorem ziald (C : zC g X own cc nL fr lc mc ms) {a N : Nat} {f : Nat → Int32} {i : Int32} (hM : M a = some (zai g N f)) (hin : vp_in i N) (hd : decode cc pc = .ok (.iaload, 1)) (kk : zG g X M k n (pc + 1) L (.int (f i.toNatClampNeg) :: st)) : zG g X M k n pc L (.int i :: .ref a :: st) :=
  fun H locs ls hH hS hL => va_iald (tys := zT g) C.1 C.2.1 C.2.2.2.2.2.1.1 (hH.one hM) 0 0 rfl rfl hin hd (kk H locs ls hH hS hL)
theorem zzald (C : zC g X own cc nL fr lc mc ms) {a N : Nat} {f : Nat → Int32} {i : Int32} (hM : M a = some (zaz g N f)) (hin : vp_in i N) (hd : decode cc pc = .ok (.baload, 1)) (kk : zG g X M k n (pc + 1) L (.int (f i.toNatClampNeg) :: st)) : zG g X M k n pc L (.int i :: .ref a :: st) :=
  fun H locs ls hH hS hL => va_zald (tys := zT g) C.1 C.2.1 C.2.2.2.2.2.1.1 (hH.one hM) 0 1 rfl rfl hin hd (kk H locs ls hH hS hL)
theorem zlald (C : zC g X own cc nL fr lc mc ms) {a N : Nat} {f : Nat → Int64} {i : Int32} (hM : M a = some (zaj g N f)) (hin : vp_in i N) (hd : decode cc pc = .ok (.laload, 1)) (kk : zG g X M k n (pc + 1) L (.long (f i.toNatClampNeg) :: st)) : zG g X M k n pc L (.int i :: .ref a :: st) :=
  fun H locs ls hH hS hL => va_lald (tys := zT g) C.1 C.2.1 C.2.2.2.2.2.1.1 (hH.one hM) 0 2 rfl rfl hin hd (kk H locs ls hH hS hL)
theorem zoald (C : zC g X own cc nL fr lc mc ms) {a N : Nat} {f : Nat → Option Nat} {i : Int32} (hM : M a = some (zao g N f)) (hin : vp_in i N) (hd : decode cc pc = .ok (.aaload, 1)) (kk : zG g X M k n (pc + 1) L (va_rf (f i.toNatClampNeg) :: st)) : zG g X M k n pc L (.int i :: .ref a :: st) :=
  fun H locs ls hH hS hL => va_aldq (tys := zT g) C.1 C.2.1 C.2.2.2.2.2.1.1 (hH.one hM) 0 3 rfl rfl hin hd (kk H locs ls hH hS hL)
theorem zcald (C : zC g X own cc nL fr lc mc ms) {a N : Nat} {f : Nat → Option Nat} {i : Int32} (hM : M a = some (zac g N f)) (hin : vp_in i N) (hd : decode cc pc = .ok (.aaload, 1)) (kk : zG g X M k n (pc + 1) L (va_rf (f i.toNatClampNeg) :: st)) : zG g X M k n pc L (.int i :: .ref a :: st) :=
  fun H locs ls hH hS hL => va_aldq (tys := zT g) C.1 C.2.1 C.2.2.2.2.2.1.1 (hH.one hM) 0 4 rfl rfl hin hd (kk H locs ls hH hS hL)
theorem ziast (C : zC g X own cc nL fr lc mc ms) {a N : Nat} {f : Nat → Int32} {i x : Int32} (hM : M a = some (zai g N f)) (hin : vp_in i N) (hd : decode cc pc = .ok (.iastore, 1)) (kk : zG g X (zup M a (zai g N (upd f i.toNatClampNeg x))) k n (pc + 1) L st) : zG g X M k n pc L (.int x :: .int i :: .ref a :: st) := by
  intro H locs ls hH hS hL
  obtain ⟨ws, hP, hD, hi⟩ := hH
  obtain ⟨q, hq⟩ := List.getElem?_of_mem ((hi _ _).mp hM)
  exact va_iast (tys := zT g) C.1 C.2.1 C.2.2.2.2.2.1.1 hP hD hS q 0 hq rfl hin hd (fun H1 locs1 hP1 hD1 hS1 => kk H1 locs1 ls ⟨_, hP1, hD1, zset_iff hP hD hi hq⟩ hS1 hL)
theorem zzast (C : zC g X own cc nL fr lc mc ms) {a N : Nat} {f : Nat → Int32} {i x : Int32} (hM : M a = some (zaz g N f)) (hin : vp_in i N) (hx : vp_nar .boolean x = x) (hd : decode cc pc = .ok (.bastore, 1)) (kk : zG g X (zup M a (zaz g N (upd f i.toNatClampNeg x))) k n (pc + 1) L st) : zG g X M k n pc L (.int x :: .int i :: .ref a :: st) := by
  intro H locs ls hH hS hL
  obtain ⟨ws, hP, hD, hi⟩ := hH
  obtain ⟨q, hq⟩ := List.getElem?_of_mem ((hi _ _).mp hM)
  exact va_zast (tys := zT g) C.1 C.2.1 C.2.2.2.2.2.1.1 hP hD hS q 1 hq rfl hin hd (fun H1 locs1 hP1 hD1 hS1 => by rw [hx] at hP1 hD1; exact kk H1 locs1 ls ⟨_, hP1, hD1, zset_iff hP hD hi hq⟩ hS1 hL)
theorem zlast (C : zC g X own cc nL fr lc mc ms) {a N : Nat} {f : Nat → Int64} {i : Int32} {x : Int64} (hM : M a = some (zaj g N f)) (hin : vp_in i N) (hd : decode cc pc = .ok (.lastore, 1)) (kk : zG g X (zup M a (zaj g N (vp_updL f i.toNatClampNeg x))) k n (pc + 1) L st) : zG g X M k n pc L (.long x :: .int i :: .ref a :: st) := by
  intro H locs ls hH hS hL
  obtain ⟨ws, hP, hD, hi⟩ := hH
  obtain ⟨q, hq⟩ := List.getElem?_of_mem ((hi _ _).mp hM)
  exact va_last (tys := zT g) C.1 C.2.1 C.2.2.2.2.2.1.1 hP hD hS q 2 hq rfl hin hd (fun H1 locs1 hP1 hD1 hS1 => kk H1 locs1 ls ⟨_, hP1, hD1, zset_iff hP hD hi hq⟩ hS1 hL)
theorem zcast (C : zC g X own cc nL fr lc mc ms) {a v N : Nat} {vs : List Value} {f : Nat → Option Nat} {i : Int32} (hM : M a = some (zac g N f)) (hv : M v = some (zob 1 vs)) (hin : vp_in i N) (hd : decode cc pc = .ok (.aastore, 1)) (kk : zG g X (zup M a (zac g N (va_up f i.toNatClampNeg (some v)))) k n (pc + 1) L st) : zG g X M k n pc L (.ref v :: .int i :: .ref a :: st) := by
  intro H locs ls hH hS hL
  obtain ⟨ws, hP, hD, hi⟩ := hH
  obtain ⟨q, hq⟩ := List.getElem?_of_mem ((hi _ _).mp hM)
  obtain ⟨qv, hqv⟩ := List.getElem?_of_mem ((hi _ _).mp hv)
  exact va_astq (tys := zT g) C.1 C.2.1 C.2.2.2.2.2.1.1 hP hD hS q 4 qv 1 hq rfl hqv rfl hin hd (fun H1 locs1 hP1 hD1 hS1 => kk H1 locs1 ls ⟨_, hP1, hD1, zset_iff hP hD hi hq⟩ hS1 hL)
theorem zalen (C : zC g X own cc nL fr lc mc ms) {a N : Nat} {f : Nat → Int32} {v : Int32} (hM : M a = some (zai g N f)) (hv : Int32.ofNat N = v) (hd : decode cc pc = .ok (.arraylength, 1)) (kk : zG g X M k n (pc + 1) L (.int v :: st)) : zG g X M k n pc L (.ref a :: st) :=
  fun H locs ls hH hS hL => va_alen (tys := zT g) (ty := .int) C.1 C.2.1 C.2.2.2.2.2.1.1 (hH.one hM) 0 0 rfl rfl hv hd (kk H locs ls hH hS hL)
theorem zaleno (C : zC g X own cc nL fr lc mc ms) {a N : Nat} {f : Nat → Option Nat} {v : Int32} (hM : M a = some (zao g N f)) (hv : Int32.ofNat N = v) (hd : decode cc pc = .ok (.arraylength, 1)) (kk : zG g X M k n (pc + 1) L (.int v :: st)) : zG g X M k n pc L (.ref a :: st) :=
  fun H locs ls hH hS hL => va_alen (tys := zT g) (ty := .object "java/lang/Object") C.1 C.2.1 C.2.2.2.2.2.1.1 (hH.one hM) 0 3 rfl rfl hv hd (kk H locs ls hH hS hL)
/-- a class's facts for 'new' -/
def zNwC (own : String) (idx ci N : Nat) (Cn : String) (T : u_T) (ty : Nat → FieldType) : Prop :=
  vwCl[ci]? = some (Cn, T, N) ∧ (∀ w ∈ u_ws Cn T N, w ∈ GW) ∧ (∀ k, k < N → parseFieldDescriptor (T k).2.2.1 = some (ty k)) ∧ Cond.classLink own idx Cn ∈ GW ∧ Cond.instantiable Cn N ∈ GW ∧ Cond.initialized Cn ∈ GW
theorem znew (C : zC g X own cc nL fr lc mc ms) {idx ci N : Nat} {Cn : String} {T : u_T} {ty : Nat → FieldType} {fs : List Value} (hN : zNwC own idx ci N Cn T ty) (hfs : (List.range N).map (fun j => defaultValue (ty j)) = fs) (hc : k + 1 ≤ mc) (hs : n + N ≤ ms) (hd : decode cc pc = .ok (.new idx, 3)) (kk : ∀ q : Nat, M q = none → zG g X (zup M q (zob ci fs)) (k + 1) (n + N) (pc + 3) L (.ref q :: st)) : zG g X M k n pc L st := by
  intro H locs ls hH hS hL
  obtain ⟨ws, hP, hD, hi⟩ := hH
  have hlo : g.1 ≤ X.1.2.2.2.heap.size := C.2.2.2.2.2.2.2.1
  refine va_new C.1 C.2.1 C.2.2.2.2.1 hN.2.1 ty hN.2.2.1 C.2.2.2.1 (C.2.2.2.2.1 _ hN.2.2.2.1) (C.2.2.2.2.1 _ hN.2.2.2.2.1) (C.2.2.2.2.1 _ hN.2.2.2.2.2) C.2.2.2.2.2.1.1 hP hD hS (fun q hq => Nat.le_trans hlo hq) hN.1 (fs := fs) (fun j hj => ?_) (by rw [C.2.2.2.2.2.2.2.2.2.2.1]; exact hc) (by rw [C.2.2.2.2.2.2.2.2.2.2.2]; exact hs) hd (fun q H1 hP1 hD1 hS1 => ?_)
  · subst hfs
    simp [vp_V, hj]
  · exact kk q (zpush_fresh hD1 hi) H1 locs ls ⟨_, hP1, hD1, zpush_iff hD1 hi⟩ hS1 hL
theorem zfindC {s : State} {c1 c2 : ClassId} {ty : FieldType} (h1 : va_RA s c1 ty) (h2 : va_RA s c2 ty) : c1 = c2 := by
  cases ty with
  | object C =>
    obtain ⟨_, _, _, _, _, e1⟩ := h1
    obtain ⟨_, _, _, _, _, e2⟩ := h2
    exact Option.some.inj (e1.symm.trans e2)
  | _ => exact Option.some.inj (Eq.trans (Eq.symm h1) h2)
theorem znewi (C : zC g X own cc nL fr lc mc ms) {N : Nat} {v : Int32} (hw : Cond.arrayClass .int ∈ GW) (hn : ¬ v < 0) (hN : v.toNatClampNeg = N) (hb : N * 4 ≤ 536870912) (hc : k + 1 ≤ mc) (hs : n + N ≤ ms) (hd : decode cc pc = .ok (.newarray .int, 2)) (kk : ∀ q : Nat, M q = none → zG g X (zup M q (zai g N (fun _ => 0))) (k + 1) (n + N) (pc + 2) L (.ref q :: st)) : zG g X M k n pc L (.int v :: st) := by
  intro H locs ls hH hS hL
  obtain ⟨ws, hP, hD, hi⟩ := hH
  have hlo : g.1 ≤ X.1.2.2.2.heap.size := C.2.2.2.2.2.2.2.1
  refine va_newa (atype := .int) (a0 := (N, .inl (fun _ => 0))) (ty := .int) C.1 C.2.1 (C.2.2.2.2.1 _ hw) rfl C.2.2.2.2.2.1.1 hP hD hS (fun q hq => Nat.le_trans hlo hq) (fun _ => rfl) hn hN hb (by rw [C.2.2.2.2.2.2.2.2.2.2.1]; exact hc) (by rw [C.2.2.2.2.2.2.2.2.2.2.2]; exact hs) hd (fun q cA H1 hK1 hP1 hD1 hS1 => ?_)
  have e : cA = g.2.2.1 0 := zfindC (hK1.2 5 (cA, .int) rfl).2 (C.2.2.2.2.2.1.1.2 0 (g.2.2.1 0, .int) rfl).2
  subst e
  exact kk q (zpush_fresh hD1 hi) H1 locs ls ⟨_, hP1, hD1, zpush_iff hD1 hi⟩ hS1 hL
theorem znewz (C : zC g X own cc nL fr lc mc ms) {N : Nat} {v : Int32} (hw : Cond.arrayClass .boolean ∈ GW) (hn : ¬ v < 0) (hN : v.toNatClampNeg = N) (hb : N * 1 ≤ 536870912) (hc : k + 1 ≤ mc) (hs : n + N ≤ ms) (hd : decode cc pc = .ok (.newarray .boolean, 2)) (kk : ∀ q : Nat, M q = none → zG g X (zup M q (zaz g N (fun _ => 0))) (k + 1) (n + N) (pc + 2) L (.ref q :: st)) : zG g X M k n pc L (.int v :: st) := by
  intro H locs ls hH hS hL
  obtain ⟨ws, hP, hD, hi⟩ := hH
  have hlo : g.1 ≤ X.1.2.2.2.heap.size := C.2.2.2.2.2.2.2.1
  refine va_newa (atype := .boolean) (a0 := (N, .inl (fun _ => 0))) (ty := .boolean) C.1 C.2.1 (C.2.2.2.2.1 _ hw) rfl C.2.2.2.2.2.1.1 hP hD hS (fun q hq => Nat.le_trans hlo hq) (fun _ => rfl) hn hN hb (by rw [C.2.2.2.2.2.2.2.2.2.2.1]; exact hc) (by rw [C.2.2.2.2.2.2.2.2.2.2.2]; exact hs) hd (fun q cA H1 hK1 hP1 hD1 hS1 => ?_)
  have e : cA = g.2.2.1 1 := zfindC (hK1.2 5 (cA, .boolean) rfl).2 (C.2.2.2.2.2.1.1.2 1 (g.2.2.1 1, .boolean) rfl).2
  subst e
  exact kk q (zpush_fresh hD1 hi) H1 locs ls ⟨_, hP1, hD1, zpush_iff hD1 hi⟩ hS1 hL
theorem znewj (C : zC g X own cc nL fr lc mc ms) {N : Nat} {v : Int32} (hw : Cond.arrayClass .long ∈ GW) (hn : ¬ v < 0) (hN : v.toNatClampNeg = N) (hb : N * 8 ≤ 536870912) (hc : k + 1 ≤ mc) (hs : n + N ≤ ms) (hd : decode cc pc = .ok (.newarray .long, 2)) (kk : ∀ q : Nat, M q = none → zG g X (zup M q (zaj g N (fun _ => 0))) (k + 1) (n + N) (pc + 2) L (.ref q :: st)) : zG g X M k n pc L (.int v :: st) := by
  intro H locs ls hH hS hL
  obtain ⟨ws, hP, hD, hi⟩ := hH
  have hlo : g.1 ≤ X.1.2.2.2.heap.size := C.2.2.2.2.2.2.2.1
  refine va_newa (atype := .long) (a0 := (N, .inr (.inl (fun _ => 0)))) (ty := .long) C.1 C.2.1 (C.2.2.2.2.1 _ hw) rfl C.2.2.2.2.2.1.1 hP hD hS (fun q hq => Nat.le_trans hlo hq) (fun _ => rfl) hn hN hb (by rw [C.2.2.2.2.2.2.2.2.2.2.1]; exact hc) (by rw [C.2.2.2.2.2.2.2.2.2.2.2]; exact hs) hd (fun q cA H1 hK1 hP1 hD1 hS1 => ?_)
  have e : cA = g.2.2.1 2 := zfindC (hK1.2 5 (cA, .long) rfl).2 (C.2.2.2.2.2.1.1.2 2 (g.2.2.1 2, .long) rfl).2
  subst e
  exact kk q (zpush_fresh hD1 hi) H1 locs ls ⟨_, hP1, hD1, zpush_iff hD1 hi⟩ hS1 hL
theorem znewO (C : zC g X own cc nL fr lc mc ms) {idx N : Nat} {v : Int32} (hw : Cond.classLink own idx "java/lang/Object" ∈ GW) (hn : ¬ v < 0) (hN : v.toNatClampNeg = N) (hb : N * 4 ≤ 536870912) (hc : k + 1 ≤ mc) (hs : n + N ≤ ms) (hd : decode cc pc = .ok (.anewarray idx, 3)) (kk : ∀ q : Nat, M q = none → zG g X (zup M q (zao g N (fun _ => none))) (k + 1) (n + N) (pc + 3) L (.ref q :: st)) : zG g X M k n pc L (.int v :: st) := by
  intro H locs ls hH hS hL
  obtain ⟨ws, hP, hD, hi⟩ := hH
  have hlo : g.1 ≤ X.1.2.2.2.heap.size := C.2.2.2.2.2.2.2.1
  refine va_newq C.1 C.2.1 C.2.2.2.1 (C.2.2.2.2.1 _ hw) C.2.2.2.2.2.1.2.2.2.2.2.1.1 C.2.2.2.2.2.1.1 hP hD hS (fun q hq => Nat.le_trans hlo hq) hn hN hb (by rw [C.2.2.2.2.2.2.2.2.2.2.1]; exact hc) (by rw [C.2.2.2.2.2.2.2.2.2.2.2]; exact hs) hd (fun q cA H1 hK1 hP1 hD1 hS1 => ?_)
  have e : cA = g.2.2.1 3 := zfindC (hK1.2 5 (cA, .object "java/lang/Object") rfl).2 (C.2.2.2.2.2.1.1.2 3 (g.2.2.1 3, .object "java/lang/Object") rfl).2
  subst e
  exact kk q (zpush_fresh hD1 hi) H1 locs ls ⟨_, hP1, hD1, zpush_iff hD1 hi⟩ hS1 hL
theorem znewC (C : zC g X own cc nL fr lc mc ms) {idx N : Nat} {v : Int32} (hw : Cond.classLink own idx "Milletcourt$Chronicle" ∈ GW) (hn : ¬ v < 0) (hN : v.toNatClampNeg = N) (hb : N * 4 ≤ 536870912) (hc : k + 1 ≤ mc) (hs : n + N ≤ ms) (hd : decode cc pc = .ok (.anewarray idx, 3)) (kk : ∀ q : Nat, M q = none → zG g X (zup M q (zac g N (fun _ => none))) (k + 1) (n + N) (pc + 3) L (.ref q :: st)) : zG g X M k n pc L (.int v :: st) := by
  intro H locs ls hH hS hL
  obtain ⟨ws, hP, hD, hi⟩ := hH
  have hlo : g.1 ≤ X.1.2.2.2.heap.size := C.2.2.2.2.2.2.2.1
  refine va_newq C.1 C.2.1 C.2.2.2.1 (C.2.2.2.2.1 _ hw) C.2.2.2.2.2.1.2.2.2.2.2.1.2 C.2.2.2.2.2.1.1 hP hD hS (fun q hq => Nat.le_trans hlo hq) hn hN hb (by rw [C.2.2.2.2.2.2.2.2.2.2.1]; exact hc) (by rw [C.2.2.2.2.2.2.2.2.2.2.2]; exact hs) hd (fun q cA H1 hK1 hP1 hD1 hS1 => ?_)
  have e : cA = g.2.2.1 4 := zfindC (hK1.2 5 (cA, .object "Milletcourt$Chronicle") rfl).2 (C.2.2.2.2.2.1.1.2 4 (g.2.2.1 4, .object "Milletcourt$Chronicle") rfl).2
  subst e
  exact kk q (zpush_fresh hD1 hi) H1 locs ls ⟨_, hP1, hD1, zpush_iff hD1 hi⟩ hS1 hL
theorem zS.keep {H0 H : Heap} {locs : List Loc} (hS : va_S (zA g) H0 H locs) : ∀ a : Nat, a < H0.size → ¬ zA g a → H[a]? = H0[a]? := fun a h1 h2 => hS.2.1 a h1 h2
/-- a static row of ints is read -/
theorem zsald (C : zC g X own cc nL fr lc mc ms) {t N : Nat} {f : Nat → Int32} {i : Int32} (hT : va_T .int t N (fun j => .int (f j)) (zA g) X.1.2.2.2 X.1.2.2.2.heap) (hin : vp_in i N) (hd : decode cc pc = .ok (.iaload, 1)) (kk : zG g X M k n (pc + 1) L (.int (f i.toNatClampNeg) :: st)) : zG g X M k n pc L (.int i :: .ref t :: st) :=
  fun H locs ls hH hS hL => va_ti C.1 C.2.1 hT hS hin rfl hd (kk H locs ls hH hS hL)
theorem zsalen (C : zC g X own cc nL fr lc mc ms) {ty : FieldType} {t N : Nat} {f : Nat → Value} {v : Int32} (hT : va_T ty t N f (zA g) X.1.2.2.2 X.1.2.2.2.heap) (hv : Int32.ofNat N = v) (hd : decode cc pc = .ok (.arraylength, 1)) (kk : zG g X M k n (pc + 1) L (.int v :: st)) : zG g X M k n pc L (.ref t :: st) := by
  intro H locs ls hH hS hL
  obtain ⟨cell, h1, h2, h3, h4, h5, h6, h7⟩ := hT
  exact W.alen C.1 C.2.1 (cell := cell) (by rw [hS.2.1 t (Array.getElem?_eq_some_iff.mp h1).1 h7]; exact h1) h2 (h5.trans hv) rfl rfl hd (kk H locs ls hH hS hL)
theorem zgets (C : zC g X own cc nL fr lc mc ms) {Cn nm d : String} {v : Value} {idx : Nat} (hZ : va_Z Cn nm d v (zA g) X.1.2.2.2 X.1.2.2.2.heap) (hl : Cond.fieldLink own idx Cn nm d ∈ GW) (hd : decode cc pc = .ok (.getstatic idx, 3)) (kk : zG g X M k n (pc + 3) L (v :: st)) : zG g X M k n pc L st :=
  fun H locs ls hH hS hL => va_gets C.1 C.2.1 hZ hS C.2.2.2.1 (C.2.2.2.2.1 _ hl) (fun _ h => h) hd (kk H locs ls hH hS hL)
theorem zcastS (C : zC g X own cc nL fr lc mc ms) {idx ci a : Nat} {q : vw_C} {fs : List Value} (hM : M a = some (zob ci fs)) (hc : vwCl[ci]? = some q) (hl : Cond.classLink own idx q.1 ∈ GW) (hd : decode cc pc = .ok (.checkcast idx, 3)) (kk : zG g X M k n (pc + 3) L (.ref a :: st)) : zG g X M k n pc L (.ref a :: st) :=
  fun H locs ls hH hS hL => va_castS C.1 C.2.1 C.2.2.2.1 (C.2.2.2.2.1 _ hl) (C.2.2.2.2.2.1.1.1 ci q hc).2 (va_recv C.2.2.2.2.2.1.1 (hH.one hM) (q0 := 0) hc rfl) hd (kk H locs ls hH hS hL)
-- ends
theorem zend_i {Post : Int32 → zM → Prop} {PX : String → zM → Prop} {v : Int32} (C : zC g X own cc nL fr lc mc ms) (hE : zE g X (some .int) mkI mc ms Post PX) (hd : decode cc pc = .ok (.ireturn, 1)) (hk : k ≤ mc) (hn : n ≤ ms) (hp : Post v M) : zG g X M k n pc L [.int v] := by
  intro H locs ls hH hS hL
  rw [hE.2.1]
  exact vx_ret (W.widen hk hn (W.iret C.1 C.2.1 hE.1 (fun t ht _ => ⟨⟨v, M, rfl, hp, by rw [ht]; exact hH⟩, hS.F ht⟩) hS.2.2 hd C.2.2.2.2.2.2.1))
theorem zend_z {Post : Int32 → zM → Prop} {PX : String → zM → Prop} {v : Int32} (C : zC g X own cc nL fr lc mc ms) (hE : zE g X (some .boolean) mkI mc ms Post PX) (hd : decode cc pc = .ok (.ireturn, 1)) (hk : k ≤ mc) (hn : n ≤ ms) (hb : v = 0 ∨ v = 1) (hp : Post v M) : zG g X M k n pc L [.int v] := by
  intro H locs ls hH hS hL
  rw [hE.2.1]
  exact vx_ret (W.widen hk hn (W.zret C.1 C.2.1 hE.1 (by rcases hb with rfl | rfl <;> decide) (fun t ht _ => ⟨⟨v, M, rfl, hp, by rw [ht]; exact hH⟩, hS.F ht⟩) hS.2.2 hd C.2.2.2.2.2.2.1))
theorem zend_l {Post : Int64 → zM → Prop} {PX : String → zM → Prop} {v : Int64} (C : zC g X own cc nL fr lc mc ms) (hE : zE g X (some .long) mkL mc ms Post PX) (hd : decode cc pc = .ok (.lreturn, 1)) (hk : k ≤ mc) (hn : n ≤ ms) (hp : Post v M) : zG g X M k n pc L [.long v] := by
  intro H locs ls hH hS hL
  rw [hE.2.1]
  exact vx_ret (W.widen hk hn (W.lret C.1 C.2.1 hE.1 (fun t ht _ => ⟨⟨v, M, rfl, hp, by rw [ht]; exact hH⟩, hS.F ht⟩) hS.2.2 hd C.2.2.2.2.2.2.1))
theorem zend_v {Post : Unit → zM → Prop} {PX : String → zM → Prop} (C : zC g X own cc nL fr lc mc ms) (hE : zE g X none mkV mc ms Post PX) (hd : decode cc pc = .ok (.return_, 1)) (hk : k ≤ mc) (hn : n ≤ ms) (hp : Post () M) : zG g X M k n pc L [] := by
  intro H locs ls hH hS hL
  rw [hE.2.1]
  exact vx_ret (W.widen hk hn (W.vret C.1 C.2.1 hE.1 (fun t ht _ => ⟨⟨(), M, rfl, hp, by rw [ht]; exact hH⟩, hS.F ht⟩) hS.2.2 hd C.2.2.2.2.2.2.1))
theorem zend_r {ty : FieldType} {Post : Nat → zM → Prop} {PX : String → zM → Prop} {v : Nat} (C : zC g X own cc nL fr lc mc ms) (hE : zE g X (some ty) mkR mc ms Post PX) (hty : (∃ n, ty = .object n) ∨ ∃ t, ty = .array t) (hd : decode cc pc = .ok (.areturn, 1)) (hk : k ≤ mc) (hn : n ≤ ms) (hp : Post v M) : zG g X M k n pc L [.ref v] := by
  intro H locs ls hH hS hL
  rw [hE.2.1]
  exact vx_ret (W.widen hk hn (W.aret C.1 C.2.1 hE.1 hty (Or.inr ⟨v, rfl⟩) (fun t ht _ => ⟨⟨v, M, rfl, hp, by rw [ht]; exact hH⟩, hS.F ht⟩) hS.2.2 hd C.2.2.2.2.2.2.1))
theorem zend_q {ty : FieldType} {Post : Option Nat → zM → Prop} {PX : String → zM → Prop} {v : Option Nat} {w : Value} (C : zC g X own cc nL fr lc mc ms) (hE : zE g X (some ty) (fun r => some (va_rf r)) mc ms Post PX) (hw : va_rf v = w) (hty : (∃ n, ty = .object n) ∨ ∃ t, ty = .array t) (hd : decode cc pc = .ok (.areturn, 1)) (hk : k ≤ mc) (hn : n ≤ ms) (hp : Post v M) : zG g X M k n pc L [w] := by
  subst hw
  intro H locs ls hH hS hL
  rw [hE.2.1]
  exact vx_ret (W.widen hk hn (W.aret C.1 C.2.1 hE.1 hty (by cases v with | none => exact Or.inl rfl | some a => exact Or.inr ⟨a, rfl⟩) (fun t ht _ => ⟨⟨v, M, rfl, hp, by rw [ht]; exact hH⟩, hS.F ht⟩) hS.2.2 hd C.2.2.2.2.2.2.1))
end ZM
end
