theorem dL_community_0 : decode cL_community 0 = .ok (.aload_n 1, 1) := by decide +kernel
theorem dL_community_1 : decode cL_community 1 = .ok (.iconst 0, 1) := by decide +kernel
theorem dL_community_2 : decode cL_community 2 = .ok (.aload_n 0, 1) := by decide +kernel
theorem dL_community_3 : decode cL_community 3 = .ok (.invokevirtual 7, 3) := by decide +kernel
theorem dL_community_6 : decode cL_community 6 = .ok (.i2l, 1) := by decide +kernel
theorem dL_community_7 : decode cL_community 7 = .ok (.lastore, 1) := by decide +kernel
theorem dL_community_8 : decode cL_community 8 = .ok (.goto 6, 3) := by decide +kernel
theorem dL_community_11 : decode cL_community 11 = .ok (.astore_n 2, 1) := by decide +kernel
theorem dL_community_12 : decode cL_community 12 = .ok (.iconst 1, 1) := by decide +kernel
theorem dL_community_13 : decode cL_community 13 = .ok (.ireturn, 1) := by decide +kernel
theorem dL_community_14 : decode cL_community 14 = .ok (.iconst 0, 1) := by decide +kernel
theorem dL_community_15 : decode cL_community 15 = .ok (.ireturn, 1) := by decide +kernel
theorem dL_recognise_0 : decode cL_recognise 0 = .ok (.aload_n 3, 1) := by decide +kernel
theorem dL_recognise_1 : decode cL_recognise 1 = .ok (.iconst 0, 1) := by decide +kernel
theorem dL_recognise_2 : decode cL_recognise 2 = .ok (.aload_n 0, 1) := by decide +kernel
theorem dL_recognise_3 : decode cL_recognise 3 = .ok (.iload_n 1, 1) := by decide +kernel
theorem dL_recognise_4 : decode cL_recognise 4 = .ok (.iload_n 2, 1) := by decide +kernel
theorem dL_recognise_5 : decode cL_recognise 5 = .ok (.invokevirtual 15, 3) := by decide +kernel
theorem dL_recognise_8 : decode cL_recognise 8 = .ok (.ifCond .eq 7, 3) := by decide +kernel
theorem dL_recognise_11 : decode cL_recognise 11 = .ok (.lconst 1, 1) := by decide +kernel
theorem dL_recognise_12 : decode cL_recognise 12 = .ok (.goto 4, 3) := by decide +kernel
theorem dL_recognise_15 : decode cL_recognise 15 = .ok (.lconst 0, 1) := by decide +kernel
theorem dL_recognise_16 : decode cL_recognise 16 = .ok (.lastore, 1) := by decide +kernel
theorem dL_recognise_17 : decode cL_recognise 17 = .ok (.goto 7, 3) := by decide +kernel
theorem dL_recognise_20 : decode cL_recognise 20 = .ok (.astore 4, 2) := by decide +kernel
theorem dL_recognise_22 : decode cL_recognise 22 = .ok (.iconst 1, 1) := by decide +kernel
theorem dL_recognise_23 : decode cL_recognise 23 = .ok (.ireturn, 1) := by decide +kernel
theorem dL_recognise_24 : decode cL_recognise 24 = .ok (.iconst 0, 1) := by decide +kernel
theorem dL_recognise_25 : decode cL_recognise 25 = .ok (.ireturn, 1) := by decide +kernel
theorem dL_decree_0 : decode cL_decree 0 = .ok (.aload 4, 2) := by decide +kernel
theorem dL_decree_2 : decode cL_decree 2 = .ok (.iconst 0, 1) := by decide +kernel
theorem dL_decree_3 : decode cL_decree 3 = .ok (.aload_n 0, 1) := by decide +kernel
theorem dL_decree_4 : decode cL_decree 4 = .ok (.iload_n 1, 1) := by decide +kernel
theorem dL_decree_5 : decode cL_decree 5 = .ok (.iload_n 2, 1) := by decide +kernel
theorem dL_decree_6 : decode cL_decree 6 = .ok (.iload_n 3, 1) := by decide +kernel
theorem dL_decree_7 : decode cL_decree 7 = .ok (.invokevirtual 21, 3) := by decide +kernel
theorem dL_decree_10 : decode cL_decree 10 = .ok (.i2l, 1) := by decide +kernel
theorem dL_decree_11 : decode cL_decree 11 = .ok (.lastore, 1) := by decide +kernel
theorem dL_decree_12 : decode cL_decree 12 = .ok (.goto 15, 3) := by decide +kernel
theorem dL_decree_15 : decode cL_decree 15 = .ok (.astore 5, 2) := by decide +kernel
theorem dL_decree_17 : decode cL_decree 17 = .ok (.iconst 1, 1) := by decide +kernel
theorem dL_decree_18 : decode cL_decree 18 = .ok (.ireturn, 1) := by decide +kernel
theorem dL_decree_19 : decode cL_decree 19 = .ok (.astore 5, 2) := by decide +kernel
theorem dL_decree_21 : decode cL_decree 21 = .ok (.iconst 2, 1) := by decide +kernel
theorem dL_decree_22 : decode cL_decree 22 = .ok (.ireturn, 1) := by decide +kernel
theorem dL_decree_23 : decode cL_decree 23 = .ok (.astore 5, 2) := by decide +kernel
theorem dL_decree_25 : decode cL_decree 25 = .ok (.iconst 3, 1) := by decide +kernel
theorem dL_decree_26 : decode cL_decree 26 = .ok (.ireturn, 1) := by decide +kernel
theorem dL_decree_27 : decode cL_decree 27 = .ok (.iconst 0, 1) := by decide +kernel
theorem dL_decree_28 : decode cL_decree 28 = .ok (.ireturn, 1) := by decide +kernel
theorem dL_rule_0 : decode cL_rule 0 = .ok (.aload_n 3, 1) := by decide +kernel
theorem dL_rule_1 : decode cL_rule 1 = .ok (.iconst 0, 1) := by decide +kernel
theorem dL_rule_2 : decode cL_rule 2 = .ok (.aload_n 0, 1) := by decide +kernel
theorem dL_rule_3 : decode cL_rule 3 = .ok (.iload_n 1, 1) := by decide +kernel
theorem dL_rule_4 : decode cL_rule 4 = .ok (.iload_n 2, 1) := by decide +kernel
theorem dL_rule_5 : decode cL_rule 5 = .ok (.invokevirtual 27, 3) := by decide +kernel
theorem dL_rule_8 : decode cL_rule 8 = .ok (.i2l, 1) := by decide +kernel
theorem dL_rule_9 : decode cL_rule 9 = .ok (.lastore, 1) := by decide +kernel
theorem dL_rule_10 : decode cL_rule 10 = .ok (.goto 11, 3) := by decide +kernel
theorem dL_rule_13 : decode cL_rule 13 = .ok (.astore 4, 2) := by decide +kernel
theorem dL_rule_15 : decode cL_rule 15 = .ok (.iconst 1, 1) := by decide +kernel
theorem dL_rule_16 : decode cL_rule 16 = .ok (.ireturn, 1) := by decide +kernel
theorem dL_rule_17 : decode cL_rule 17 = .ok (.astore 4, 2) := by decide +kernel
theorem dL_rule_19 : decode cL_rule 19 = .ok (.iconst 2, 1) := by decide +kernel
theorem dL_rule_20 : decode cL_rule 20 = .ok (.ireturn, 1) := by decide +kernel
theorem dL_rule_21 : decode cL_rule 21 = .ok (.iconst 0, 1) := by decide +kernel
theorem dL_rule_22 : decode cL_rule 22 = .ok (.ireturn, 1) := by decide +kernel
theorem dL_law_0 : decode cL_law 0 = .ok (.aload 4, 2) := by decide +kernel
theorem dL_law_2 : decode cL_law 2 = .ok (.iconst 0, 1) := by decide +kernel
theorem dL_law_3 : decode cL_law 3 = .ok (.aload_n 0, 1) := by decide +kernel
theorem dL_law_4 : decode cL_law 4 = .ok (.iload_n 1, 1) := by decide +kernel
theorem dL_law_5 : decode cL_law 5 = .ok (.iload_n 2, 1) := by decide +kernel
theorem dL_law_6 : decode cL_law 6 = .ok (.iload_n 3, 1) := by decide +kernel
theorem dL_law_7 : decode cL_law 7 = .ok (.invokevirtual 31, 3) := by decide +kernel
theorem dL_law_10 : decode cL_law 10 = .ok (.i2l, 1) := by decide +kernel
theorem dL_law_11 : decode cL_law 11 = .ok (.lastore, 1) := by decide +kernel
theorem dL_law_12 : decode cL_law 12 = .ok (.goto 11, 3) := by decide +kernel
theorem dL_law_15 : decode cL_law 15 = .ok (.astore 5, 2) := by decide +kernel
theorem dL_law_17 : decode cL_law 17 = .ok (.iconst 1, 1) := by decide +kernel
theorem dL_law_18 : decode cL_law 18 = .ok (.ireturn, 1) := by decide +kernel
theorem dL_law_19 : decode cL_law 19 = .ok (.astore 5, 2) := by decide +kernel
theorem dL_law_21 : decode cL_law 21 = .ok (.iconst 2, 1) := by decide +kernel
theorem dL_law_22 : decode cL_law 22 = .ok (.ireturn, 1) := by decide +kernel
theorem dL_law_23 : decode cL_law 23 = .ok (.iconst 0, 1) := by decide +kernel
theorem dL_law_24 : decode cL_law 24 = .ok (.ireturn, 1) := by decide +kernel
theorem dL_court_0 : decode cL_court 0 = .ok (.aload 5, 2) := by decide +kernel
theorem dL_court_2 : decode cL_court 2 = .ok (.iconst 0, 1) := by decide +kernel
theorem dL_court_3 : decode cL_court 3 = .ok (.aload_n 0, 1) := by decide +kernel
theorem dL_court_4 : decode cL_court 4 = .ok (.iload_n 1, 1) := by decide +kernel
theorem dL_court_5 : decode cL_court 5 = .ok (.iload_n 2, 1) := by decide +kernel
theorem dL_court_6 : decode cL_court 6 = .ok (.iload_n 3, 1) := by decide +kernel
theorem dL_court_7 : decode cL_court 7 = .ok (.iload 4, 2) := by decide +kernel
theorem dL_court_9 : decode cL_court 9 = .ok (.invokevirtual 34, 3) := by decide +kernel
theorem dL_court_12 : decode cL_court 12 = .ok (.i2l, 1) := by decide +kernel
theorem dL_court_13 : decode cL_court 13 = .ok (.lastore, 1) := by decide +kernel
theorem dL_court_14 : decode cL_court 14 = .ok (.goto 11, 3) := by decide +kernel
theorem dL_court_17 : decode cL_court 17 = .ok (.astore 6, 2) := by decide +kernel
theorem dL_court_19 : decode cL_court 19 = .ok (.iconst 1, 1) := by decide +kernel
theorem dL_court_20 : decode cL_court 20 = .ok (.ireturn, 1) := by decide +kernel
theorem dL_court_21 : decode cL_court 21 = .ok (.astore 6, 2) := by decide +kernel
theorem dL_court_23 : decode cL_court 23 = .ok (.iconst 2, 1) := by decide +kernel
theorem dL_court_24 : decode cL_court 24 = .ok (.ireturn, 1) := by decide +kernel
theorem dL_court_25 : decode cL_court 25 = .ok (.iconst 0, 1) := by decide +kernel
theorem dL_court_26 : decode cL_court 26 = .ok (.ireturn, 1) := by decide +kernel
theorem dL_person_0 : decode cL_person 0 = .ok (.aload 5, 2) := by decide +kernel
theorem dL_person_2 : decode cL_person 2 = .ok (.iconst 0, 1) := by decide +kernel
theorem dL_person_3 : decode cL_person 3 = .ok (.aload_n 0, 1) := by decide +kernel
theorem dL_person_4 : decode cL_person 4 = .ok (.iload_n 1, 1) := by decide +kernel
theorem dL_person_5 : decode cL_person 5 = .ok (.iload_n 2, 1) := by decide +kernel
theorem dL_person_6 : decode cL_person 6 = .ok (.iload_n 3, 1) := by decide +kernel
theorem dL_person_7 : decode cL_person 7 = .ok (.iload 4, 2) := by decide +kernel
theorem dL_person_9 : decode cL_person 9 = .ok (.invokevirtual 38, 3) := by decide +kernel
theorem dL_person_12 : decode cL_person 12 = .ok (.i2l, 1) := by decide +kernel
theorem dL_person_13 : decode cL_person 13 = .ok (.lastore, 1) := by decide +kernel
theorem dL_person_14 : decode cL_person 14 = .ok (.goto 15, 3) := by decide +kernel
theorem dL_person_17 : decode cL_person 17 = .ok (.astore 6, 2) := by decide +kernel
theorem dL_person_19 : decode cL_person 19 = .ok (.iconst 1, 1) := by decide +kernel
theorem dL_person_20 : decode cL_person 20 = .ok (.ireturn, 1) := by decide +kernel
theorem dL_person_21 : decode cL_person 21 = .ok (.astore 6, 2) := by decide +kernel
theorem dL_person_23 : decode cL_person 23 = .ok (.iconst 2, 1) := by decide +kernel
theorem dL_person_24 : decode cL_person 24 = .ok (.ireturn, 1) := by decide +kernel
theorem dL_person_25 : decode cL_person 25 = .ok (.astore 6, 2) := by decide +kernel
theorem dL_person_27 : decode cL_person 27 = .ok (.iconst 3, 1) := by decide +kernel
theorem dL_person_28 : decode cL_person 28 = .ok (.ireturn, 1) := by decide +kernel
theorem dL_person_29 : decode cL_person 29 = .ok (.iconst 0, 1) := by decide +kernel
theorem dL_person_30 : decode cL_person 30 = .ok (.ireturn, 1) := by decide +kernel
theorem dL_turn_0 : decode cL_turn 0 = .ok (.aload 5, 2) := by decide +kernel
theorem dL_turn_2 : decode cL_turn 2 = .ok (.iconst 0, 1) := by decide +kernel
theorem dL_turn_3 : decode cL_turn 3 = .ok (.aload_n 0, 1) := by decide +kernel
theorem dL_turn_4 : decode cL_turn 4 = .ok (.iload_n 1, 1) := by decide +kernel
theorem dL_turn_5 : decode cL_turn 5 = .ok (.iload_n 2, 1) := by decide +kernel
theorem dL_turn_6 : decode cL_turn 6 = .ok (.iload_n 3, 1) := by decide +kernel
theorem dL_turn_7 : decode cL_turn 7 = .ok (.iload 4, 2) := by decide +kernel
theorem dL_turn_9 : decode cL_turn 9 = .ok (.invokevirtual 42, 3) := by decide +kernel
theorem dL_turn_12 : decode cL_turn 12 = .ok (.i2l, 1) := by decide +kernel
theorem dL_turn_13 : decode cL_turn 13 = .ok (.lastore, 1) := by decide +kernel
theorem dL_turn_14 : decode cL_turn 14 = .ok (.goto 15, 3) := by decide +kernel
theorem dL_turn_17 : decode cL_turn 17 = .ok (.astore 6, 2) := by decide +kernel
theorem dL_turn_19 : decode cL_turn 19 = .ok (.iconst 1, 1) := by decide +kernel
theorem dL_turn_20 : decode cL_turn 20 = .ok (.ireturn, 1) := by decide +kernel
theorem dL_turn_21 : decode cL_turn 21 = .ok (.astore 6, 2) := by decide +kernel
theorem dL_turn_23 : decode cL_turn 23 = .ok (.iconst 2, 1) := by decide +kernel
theorem dL_turn_24 : decode cL_turn 24 = .ok (.ireturn, 1) := by decide +kernel
theorem dL_turn_25 : decode cL_turn 25 = .ok (.astore 6, 2) := by decide +kernel
theorem dL_turn_27 : decode cL_turn 27 = .ok (.iconst 3, 1) := by decide +kernel
theorem dL_turn_28 : decode cL_turn 28 = .ok (.ireturn, 1) := by decide +kernel
theorem dL_turn_29 : decode cL_turn 29 = .ok (.iconst 0, 1) := by decide +kernel
theorem dL_turn_30 : decode cL_turn 30 = .ok (.ireturn, 1) := by decide +kernel
theorem dL_recant_0 : decode cL_recant 0 = .ok (.aload_n 2, 1) := by decide +kernel
theorem dL_recant_1 : decode cL_recant 1 = .ok (.iconst 0, 1) := by decide +kernel
theorem dL_recant_2 : decode cL_recant 2 = .ok (.aload_n 0, 1) := by decide +kernel
theorem dL_recant_3 : decode cL_recant 3 = .ok (.iload_n 1, 1) := by decide +kernel
theorem dL_recant_4 : decode cL_recant 4 = .ok (.invokevirtual 45, 3) := by decide +kernel
theorem dL_recant_7 : decode cL_recant 7 = .ok (.i2l, 1) := by decide +kernel
theorem dL_recant_8 : decode cL_recant 8 = .ok (.lastore, 1) := by decide +kernel
theorem dL_recant_9 : decode cL_recant 9 = .ok (.goto 9, 3) := by decide +kernel
theorem dL_recant_12 : decode cL_recant 12 = .ok (.astore_n 3, 1) := by decide +kernel
theorem dL_recant_13 : decode cL_recant 13 = .ok (.iconst 1, 1) := by decide +kernel
theorem dL_recant_14 : decode cL_recant 14 = .ok (.ireturn, 1) := by decide +kernel
theorem dL_recant_15 : decode cL_recant 15 = .ok (.astore_n 3, 1) := by decide +kernel
theorem dL_recant_16 : decode cL_recant 16 = .ok (.iconst 2, 1) := by decide +kernel
theorem dL_recant_17 : decode cL_recant 17 = .ok (.ireturn, 1) := by decide +kernel
theorem dL_recant_18 : decode cL_recant 18 = .ok (.iconst 0, 1) := by decide +kernel
theorem dL_recant_19 : decode cL_recant 19 = .ok (.ireturn, 1) := by decide +kernel
theorem dL_faith_0 : decode cL_faith 0 = .ok (.aload_n 3, 1) := by decide +kernel
theorem dL_faith_1 : decode cL_faith 1 = .ok (.iconst 0, 1) := by decide +kernel
theorem dL_faith_2 : decode cL_faith 2 = .ok (.aload_n 0, 1) := by decide +kernel
theorem dL_faith_3 : decode cL_faith 3 = .ok (.iload_n 1, 1) := by decide +kernel
theorem dL_faith_4 : decode cL_faith 4 = .ok (.iload_n 2, 1) := by decide +kernel
theorem dL_faith_5 : decode cL_faith 5 = .ok (.invokevirtual 49, 3) := by decide +kernel
theorem dL_faith_8 : decode cL_faith 8 = .ok (.i2l, 1) := by decide +kernel
theorem dL_faith_9 : decode cL_faith 9 = .ok (.lastore, 1) := by decide +kernel
theorem dL_faith_10 : decode cL_faith 10 = .ok (.goto 11, 3) := by decide +kernel
theorem dL_faith_13 : decode cL_faith 13 = .ok (.astore 4, 2) := by decide +kernel
theorem dL_faith_15 : decode cL_faith 15 = .ok (.iconst 1, 1) := by decide +kernel
theorem dL_faith_16 : decode cL_faith 16 = .ok (.ireturn, 1) := by decide +kernel
theorem dL_faith_17 : decode cL_faith 17 = .ok (.astore 4, 2) := by decide +kernel
theorem dL_faith_19 : decode cL_faith 19 = .ok (.iconst 2, 1) := by decide +kernel
theorem dL_faith_20 : decode cL_faith 20 = .ok (.ireturn, 1) := by decide +kernel
theorem dL_faith_21 : decode cL_faith 21 = .ok (.iconst 0, 1) := by decide +kernel
theorem dL_faith_22 : decode cL_faith 22 = .ok (.ireturn, 1) := by decide +kernel
theorem dL_marry_0 : decode cL_marry 0 = .ok (.aload 4, 2) := by decide +kernel
theorem dL_marry_2 : decode cL_marry 2 = .ok (.iconst 0, 1) := by decide +kernel
theorem dL_marry_3 : decode cL_marry 3 = .ok (.aload_n 0, 1) := by decide +kernel
theorem dL_marry_4 : decode cL_marry 4 = .ok (.iload_n 1, 1) := by decide +kernel
theorem dL_marry_5 : decode cL_marry 5 = .ok (.iload_n 2, 1) := by decide +kernel
theorem dL_marry_6 : decode cL_marry 6 = .ok (.iload_n 3, 1) := by decide +kernel
theorem dL_marry_7 : decode cL_marry 7 = .ok (.invokevirtual 52, 3) := by decide +kernel
theorem dL_marry_10 : decode cL_marry 10 = .ok (.i2l, 1) := by decide +kernel
theorem dL_marry_11 : decode cL_marry 11 = .ok (.lastore, 1) := by decide +kernel
theorem dL_marry_12 : decode cL_marry 12 = .ok (.goto 15, 3) := by decide +kernel
theorem dL_marry_15 : decode cL_marry 15 = .ok (.astore 5, 2) := by decide +kernel
theorem dL_marry_17 : decode cL_marry 17 = .ok (.iconst 1, 1) := by decide +kernel
theorem dL_marry_18 : decode cL_marry 18 = .ok (.ireturn, 1) := by decide +kernel
theorem dL_marry_19 : decode cL_marry 19 = .ok (.astore 5, 2) := by decide +kernel
theorem dL_marry_21 : decode cL_marry 21 = .ok (.iconst 2, 1) := by decide +kernel
theorem dL_marry_22 : decode cL_marry 22 = .ok (.ireturn, 1) := by decide +kernel
theorem dL_marry_23 : decode cL_marry 23 = .ok (.astore 5, 2) := by decide +kernel
theorem dL_marry_25 : decode cL_marry 25 = .ok (.iconst 3, 1) := by decide +kernel
theorem dL_marry_26 : decode cL_marry 26 = .ok (.ireturn, 1) := by decide +kernel
theorem dL_marry_27 : decode cL_marry 27 = .ok (.iconst 0, 1) := by decide +kernel
theorem dL_marry_28 : decode cL_marry 28 = .ok (.ireturn, 1) := by decide +kernel
theorem dL_divorce_0 : decode cL_divorce 0 = .ok (.aload_n 3, 1) := by decide +kernel
theorem dL_divorce_1 : decode cL_divorce 1 = .ok (.iconst 0, 1) := by decide +kernel
theorem dL_divorce_2 : decode cL_divorce 2 = .ok (.aload_n 0, 1) := by decide +kernel
theorem dL_divorce_3 : decode cL_divorce 3 = .ok (.iload_n 1, 1) := by decide +kernel
theorem dL_divorce_4 : decode cL_divorce 4 = .ok (.iload_n 2, 1) := by decide +kernel
theorem dL_divorce_5 : decode cL_divorce 5 = .ok (.invokevirtual 55, 3) := by decide +kernel
theorem dL_divorce_8 : decode cL_divorce 8 = .ok (.ifCond .eq 7, 3) := by decide +kernel
theorem dL_divorce_11 : decode cL_divorce 11 = .ok (.lconst 1, 1) := by decide +kernel
theorem dL_divorce_12 : decode cL_divorce 12 = .ok (.goto 4, 3) := by decide +kernel
theorem dL_divorce_15 : decode cL_divorce 15 = .ok (.lconst 0, 1) := by decide +kernel
theorem dL_divorce_16 : decode cL_divorce 16 = .ok (.lastore, 1) := by decide +kernel
theorem dL_divorce_17 : decode cL_divorce 17 = .ok (.goto 11, 3) := by decide +kernel
theorem dL_divorce_20 : decode cL_divorce 20 = .ok (.astore 4, 2) := by decide +kernel
theorem dL_divorce_22 : decode cL_divorce 22 = .ok (.iconst 1, 1) := by decide +kernel
theorem dL_divorce_23 : decode cL_divorce 23 = .ok (.ireturn, 1) := by decide +kernel
theorem dL_divorce_24 : decode cL_divorce 24 = .ok (.astore 4, 2) := by decide +kernel
theorem dL_divorce_26 : decode cL_divorce 26 = .ok (.iconst 2, 1) := by decide +kernel
theorem dL_divorce_27 : decode cL_divorce 27 = .ok (.ireturn, 1) := by decide +kernel
theorem dL_divorce_28 : decode cL_divorce 28 = .ok (.iconst 0, 1) := by decide +kernel
theorem dL_divorce_29 : decode cL_divorce 29 = .ok (.ireturn, 1) := by decide +kernel
theorem dL_goods_0 : decode cL_goods 0 = .ok (.aload_n 3, 1) := by decide +kernel
theorem dL_goods_1 : decode cL_goods 1 = .ok (.iconst 0, 1) := by decide +kernel
theorem dL_goods_2 : decode cL_goods 2 = .ok (.aload_n 0, 1) := by decide +kernel
theorem dL_goods_3 : decode cL_goods 3 = .ok (.iload_n 1, 1) := by decide +kernel
theorem dL_goods_4 : decode cL_goods 4 = .ok (.iload_n 2, 1) := by decide +kernel
theorem dL_goods_5 : decode cL_goods 5 = .ok (.invokevirtual 58, 3) := by decide +kernel
theorem dL_goods_8 : decode cL_goods 8 = .ok (.lastore, 1) := by decide +kernel
theorem dL_goods_9 : decode cL_goods 9 = .ok (.goto 15, 3) := by decide +kernel
theorem dL_goods_12 : decode cL_goods 12 = .ok (.astore 4, 2) := by decide +kernel
theorem dL_goods_14 : decode cL_goods 14 = .ok (.iconst 1, 1) := by decide +kernel
theorem dL_goods_15 : decode cL_goods 15 = .ok (.ireturn, 1) := by decide +kernel
theorem dL_goods_16 : decode cL_goods 16 = .ok (.astore 4, 2) := by decide +kernel
theorem dL_goods_18 : decode cL_goods 18 = .ok (.iconst 2, 1) := by decide +kernel
theorem dL_goods_19 : decode cL_goods 19 = .ok (.ireturn, 1) := by decide +kernel
theorem dL_goods_20 : decode cL_goods 20 = .ok (.astore 4, 2) := by decide +kernel
theorem dL_goods_22 : decode cL_goods 22 = .ok (.iconst 3, 1) := by decide +kernel
theorem dL_goods_23 : decode cL_goods 23 = .ok (.ireturn, 1) := by decide +kernel
theorem dL_goods_24 : decode cL_goods 24 = .ok (.iconst 0, 1) := by decide +kernel
theorem dL_goods_25 : decode cL_goods 25 = .ok (.ireturn, 1) := by decide +kernel
theorem dL_dies_0 : decode cL_dies 0 = .ok (.aload_n 2, 1) := by decide +kernel
theorem dL_dies_1 : decode cL_dies 1 = .ok (.iconst 0, 1) := by decide +kernel
theorem dL_dies_2 : decode cL_dies 2 = .ok (.aload_n 0, 1) := by decide +kernel
theorem dL_dies_3 : decode cL_dies 3 = .ok (.iload_n 1, 1) := by decide +kernel
theorem dL_dies_4 : decode cL_dies 4 = .ok (.invokevirtual 62, 3) := by decide +kernel
theorem dL_dies_7 : decode cL_dies 7 = .ok (.lastore, 1) := by decide +kernel
theorem dL_dies_8 : decode cL_dies 8 = .ok (.goto 9, 3) := by decide +kernel
theorem dL_dies_11 : decode cL_dies 11 = .ok (.astore_n 3, 1) := by decide +kernel
theorem dL_dies_12 : decode cL_dies 12 = .ok (.iconst 1, 1) := by decide +kernel
theorem dL_dies_13 : decode cL_dies 13 = .ok (.ireturn, 1) := by decide +kernel
theorem dL_dies_14 : decode cL_dies 14 = .ok (.astore_n 3, 1) := by decide +kernel
theorem dL_dies_15 : decode cL_dies 15 = .ok (.iconst 2, 1) := by decide +kernel
theorem dL_dies_16 : decode cL_dies 16 = .ok (.ireturn, 1) := by decide +kernel
theorem dL_dies_17 : decode cL_dies 17 = .ok (.iconst 0, 1) := by decide +kernel
theorem dL_dies_18 : decode cL_dies 18 = .ok (.ireturn, 1) := by decide +kernel
theorem dL_sue_0 : decode cL_sue 0 = .ok (.aload 5, 2) := by decide +kernel
theorem dL_sue_2 : decode cL_sue 2 = .ok (.iconst 0, 1) := by decide +kernel
theorem dL_sue_3 : decode cL_sue 3 = .ok (.aload_n 0, 1) := by decide +kernel
theorem dL_sue_4 : decode cL_sue 4 = .ok (.iload_n 1, 1) := by decide +kernel
theorem dL_sue_5 : decode cL_sue 5 = .ok (.iload_n 2, 1) := by decide +kernel
theorem dL_sue_6 : decode cL_sue 6 = .ok (.iload_n 3, 1) := by decide +kernel
theorem dL_sue_7 : decode cL_sue 7 = .ok (.iload 4, 2) := by decide +kernel
theorem dL_sue_9 : decode cL_sue 9 = .ok (.invokevirtual 66, 3) := by decide +kernel
theorem dL_sue_12 : decode cL_sue 12 = .ok (.i2l, 1) := by decide +kernel
theorem dL_sue_13 : decode cL_sue 13 = .ok (.lastore, 1) := by decide +kernel
theorem dL_sue_14 : decode cL_sue 14 = .ok (.goto 15, 3) := by decide +kernel
theorem dL_sue_17 : decode cL_sue 17 = .ok (.astore 6, 2) := by decide +kernel
theorem dL_sue_19 : decode cL_sue 19 = .ok (.iconst 1, 1) := by decide +kernel
theorem dL_sue_20 : decode cL_sue 20 = .ok (.ireturn, 1) := by decide +kernel
theorem dL_sue_21 : decode cL_sue 21 = .ok (.astore 6, 2) := by decide +kernel
theorem dL_sue_23 : decode cL_sue 23 = .ok (.iconst 2, 1) := by decide +kernel
theorem dL_sue_24 : decode cL_sue 24 = .ok (.ireturn, 1) := by decide +kernel
theorem dL_sue_25 : decode cL_sue 25 = .ok (.astore 6, 2) := by decide +kernel
theorem dL_sue_27 : decode cL_sue 27 = .ok (.iconst 3, 1) := by decide +kernel
theorem dL_sue_28 : decode cL_sue 28 = .ok (.ireturn, 1) := by decide +kernel
theorem dL_sue_29 : decode cL_sue 29 = .ok (.iconst 0, 1) := by decide +kernel
theorem dL_sue_30 : decode cL_sue 30 = .ok (.ireturn, 1) := by decide +kernel
theorem dL_appear_0 : decode cL_appear 0 = .ok (.aload_n 2, 1) := by decide +kernel
theorem dL_appear_1 : decode cL_appear 1 = .ok (.iconst 0, 1) := by decide +kernel
theorem dL_appear_2 : decode cL_appear 2 = .ok (.aload_n 0, 1) := by decide +kernel
theorem dL_appear_3 : decode cL_appear 3 = .ok (.iload_n 1, 1) := by decide +kernel
theorem dL_appear_4 : decode cL_appear 4 = .ok (.invokevirtual 69, 3) := by decide +kernel
theorem dL_appear_7 : decode cL_appear 7 = .ok (.ifCond .eq 7, 3) := by decide +kernel
theorem dL_appear_10 : decode cL_appear 10 = .ok (.lconst 1, 1) := by decide +kernel
theorem dL_appear_11 : decode cL_appear 11 = .ok (.goto 4, 3) := by decide +kernel
theorem dL_appear_14 : decode cL_appear 14 = .ok (.lconst 0, 1) := by decide +kernel
theorem dL_appear_15 : decode cL_appear 15 = .ok (.lastore, 1) := by decide +kernel
theorem dL_appear_16 : decode cL_appear 16 = .ok (.goto 9, 3) := by decide +kernel
theorem dL_appear_19 : decode cL_appear 19 = .ok (.astore_n 3, 1) := by decide +kernel
theorem dL_appear_20 : decode cL_appear 20 = .ok (.iconst 1, 1) := by decide +kernel
theorem dL_appear_21 : decode cL_appear 21 = .ok (.ireturn, 1) := by decide +kernel
theorem dL_appear_22 : decode cL_appear 22 = .ok (.astore_n 3, 1) := by decide +kernel
theorem dL_appear_23 : decode cL_appear 23 = .ok (.iconst 2, 1) := by decide +kernel
theorem dL_appear_24 : decode cL_appear 24 = .ok (.ireturn, 1) := by decide +kernel
theorem dL_appear_25 : decode cL_appear 25 = .ok (.iconst 0, 1) := by decide +kernel
theorem dL_appear_26 : decode cL_appear 26 = .ok (.ireturn, 1) := by decide +kernel
theorem dL_testify_0 : decode cL_testify 0 = .ok (.aload 4, 2) := by decide +kernel
theorem dL_testify_2 : decode cL_testify 2 = .ok (.iconst 0, 1) := by decide +kernel
theorem dL_testify_3 : decode cL_testify 3 = .ok (.aload_n 0, 1) := by decide +kernel
theorem dL_testify_4 : decode cL_testify 4 = .ok (.iload_n 1, 1) := by decide +kernel
theorem dL_testify_5 : decode cL_testify 5 = .ok (.iload_n 2, 1) := by decide +kernel
theorem dL_testify_6 : decode cL_testify 6 = .ok (.iload_n 3, 1) := by decide +kernel
theorem dL_testify_7 : decode cL_testify 7 = .ok (.invokevirtual 73, 3) := by decide +kernel
theorem dL_testify_10 : decode cL_testify 10 = .ok (.i2l, 1) := by decide +kernel
theorem dL_testify_11 : decode cL_testify 11 = .ok (.lastore, 1) := by decide +kernel
theorem dL_testify_12 : decode cL_testify 12 = .ok (.goto 11, 3) := by decide +kernel
theorem dL_testify_15 : decode cL_testify 15 = .ok (.astore 5, 2) := by decide +kernel
theorem dL_testify_17 : decode cL_testify 17 = .ok (.iconst 1, 1) := by decide +kernel
theorem dL_testify_18 : decode cL_testify 18 = .ok (.ireturn, 1) := by decide +kernel
theorem dL_testify_19 : decode cL_testify 19 = .ok (.astore 5, 2) := by decide +kernel
theorem dL_testify_21 : decode cL_testify 21 = .ok (.iconst 2, 1) := by decide +kernel
theorem dL_testify_22 : decode cL_testify 22 = .ok (.ireturn, 1) := by decide +kernel
theorem dL_testify_23 : decode cL_testify 23 = .ok (.iconst 0, 1) := by decide +kernel
theorem dL_testify_24 : decode cL_testify 24 = .ok (.ireturn, 1) := by decide +kernel
theorem dL_judge_0 : decode cL_judge 0 = .ok (.aload_n 2, 1) := by decide +kernel
theorem dL_judge_1 : decode cL_judge 1 = .ok (.iconst 0, 1) := by decide +kernel
theorem dL_judge_2 : decode cL_judge 2 = .ok (.aload_n 0, 1) := by decide +kernel
theorem dL_judge_3 : decode cL_judge 3 = .ok (.iload_n 1, 1) := by decide +kernel
theorem dL_judge_4 : decode cL_judge 4 = .ok (.invokevirtual 77, 3) := by decide +kernel
theorem dL_judge_7 : decode cL_judge 7 = .ok (.ifCond .eq 7, 3) := by decide +kernel
theorem dL_judge_10 : decode cL_judge 10 = .ok (.lconst 1, 1) := by decide +kernel
theorem dL_judge_11 : decode cL_judge 11 = .ok (.goto 4, 3) := by decide +kernel
theorem dL_judge_14 : decode cL_judge 14 = .ok (.lconst 0, 1) := by decide +kernel
theorem dL_judge_15 : decode cL_judge 15 = .ok (.lastore, 1) := by decide +kernel
theorem dL_judge_16 : decode cL_judge 16 = .ok (.goto 9, 3) := by decide +kernel
theorem dL_judge_19 : decode cL_judge 19 = .ok (.astore_n 3, 1) := by decide +kernel
theorem dL_judge_20 : decode cL_judge 20 = .ok (.iconst 1, 1) := by decide +kernel
theorem dL_judge_21 : decode cL_judge 21 = .ok (.ireturn, 1) := by decide +kernel
theorem dL_judge_22 : decode cL_judge 22 = .ok (.astore_n 3, 1) := by decide +kernel
theorem dL_judge_23 : decode cL_judge 23 = .ok (.iconst 2, 1) := by decide +kernel
theorem dL_judge_24 : decode cL_judge 24 = .ok (.ireturn, 1) := by decide +kernel
theorem dL_judge_25 : decode cL_judge 25 = .ok (.iconst 0, 1) := by decide +kernel
theorem dL_judge_26 : decode cL_judge 26 = .ok (.ireturn, 1) := by decide +kernel
theorem dL_appeal_0 : decode cL_appeal 0 = .ok (.aload_n 2, 1) := by decide +kernel
theorem dL_appeal_1 : decode cL_appeal 1 = .ok (.iconst 0, 1) := by decide +kernel
theorem dL_appeal_2 : decode cL_appeal 2 = .ok (.aload_n 0, 1) := by decide +kernel
theorem dL_appeal_3 : decode cL_appeal 3 = .ok (.iload_n 1, 1) := by decide +kernel
theorem dL_appeal_4 : decode cL_appeal 4 = .ok (.invokevirtual 80, 3) := by decide +kernel
theorem dL_appeal_7 : decode cL_appeal 7 = .ok (.ifCond .eq 7, 3) := by decide +kernel
theorem dL_appeal_10 : decode cL_appeal 10 = .ok (.lconst 1, 1) := by decide +kernel
theorem dL_appeal_11 : decode cL_appeal 11 = .ok (.goto 4, 3) := by decide +kernel
theorem dL_appeal_14 : decode cL_appeal 14 = .ok (.lconst 0, 1) := by decide +kernel
theorem dL_appeal_15 : decode cL_appeal 15 = .ok (.lastore, 1) := by decide +kernel
theorem dL_appeal_16 : decode cL_appeal 16 = .ok (.goto 9, 3) := by decide +kernel
theorem dL_appeal_19 : decode cL_appeal 19 = .ok (.astore_n 3, 1) := by decide +kernel
theorem dL_appeal_20 : decode cL_appeal 20 = .ok (.iconst 1, 1) := by decide +kernel
theorem dL_appeal_21 : decode cL_appeal 21 = .ok (.ireturn, 1) := by decide +kernel
theorem dL_appeal_22 : decode cL_appeal 22 = .ok (.astore_n 3, 1) := by decide +kernel
theorem dL_appeal_23 : decode cL_appeal 23 = .ok (.iconst 2, 1) := by decide +kernel
theorem dL_appeal_24 : decode cL_appeal 24 = .ok (.ireturn, 1) := by decide +kernel
theorem dL_appeal_25 : decode cL_appeal 25 = .ok (.iconst 0, 1) := by decide +kernel
theorem dL_appeal_26 : decode cL_appeal 26 = .ok (.ireturn, 1) := by decide +kernel
theorem dL_execute_0 : decode cL_execute 0 = .ok (.aload_n 2, 1) := by decide +kernel
theorem dL_execute_1 : decode cL_execute 1 = .ok (.iconst 0, 1) := by decide +kernel
theorem dL_execute_2 : decode cL_execute 2 = .ok (.aload_n 0, 1) := by decide +kernel
theorem dL_execute_3 : decode cL_execute 3 = .ok (.iload_n 1, 1) := by decide +kernel
theorem dL_execute_4 : decode cL_execute 4 = .ok (.invokevirtual 83, 3) := by decide +kernel
theorem dL_execute_7 : decode cL_execute 7 = .ok (.lastore, 1) := by decide +kernel
theorem dL_execute_8 : decode cL_execute 8 = .ok (.goto 9, 3) := by decide +kernel
theorem dL_execute_11 : decode cL_execute 11 = .ok (.astore_n 3, 1) := by decide +kernel
theorem dL_execute_12 : decode cL_execute 12 = .ok (.iconst 1, 1) := by decide +kernel
theorem dL_execute_13 : decode cL_execute 13 = .ok (.ireturn, 1) := by decide +kernel
theorem dL_execute_14 : decode cL_execute 14 = .ok (.astore_n 3, 1) := by decide +kernel
theorem dL_execute_15 : decode cL_execute 15 = .ok (.iconst 2, 1) := by decide +kernel
theorem dL_execute_16 : decode cL_execute 16 = .ok (.ireturn, 1) := by decide +kernel
theorem dL_execute_17 : decode cL_execute 17 = .ok (.iconst 0, 1) := by decide +kernel
theorem dL_execute_18 : decode cL_execute 18 = .ok (.ireturn, 1) := by decide +kernel
theorem dL_wins_0 : decode cL_wins 0 = .ok (.aload_n 3, 1) := by decide +kernel
theorem dL_wins_1 : decode cL_wins 1 = .ok (.iconst 0, 1) := by decide +kernel
theorem dL_wins_2 : decode cL_wins 2 = .ok (.aload_n 0, 1) := by decide +kernel
theorem dL_wins_3 : decode cL_wins 3 = .ok (.iload_n 1, 1) := by decide +kernel
theorem dL_wins_4 : decode cL_wins 4 = .ok (.iload_n 2, 1) := by decide +kernel
theorem dL_wins_5 : decode cL_wins 5 = .ok (.invokevirtual 86, 3) := by decide +kernel
theorem dL_wins_8 : decode cL_wins 8 = .ok (.ifCond .eq 7, 3) := by decide +kernel
theorem dL_wins_11 : decode cL_wins 11 = .ok (.lconst 1, 1) := by decide +kernel
theorem dL_wins_12 : decode cL_wins 12 = .ok (.goto 4, 3) := by decide +kernel
theorem dL_wins_15 : decode cL_wins 15 = .ok (.lconst 0, 1) := by decide +kernel
theorem dL_wins_16 : decode cL_wins 16 = .ok (.lastore, 1) := by decide +kernel
theorem dL_wins_17 : decode cL_wins 17 = .ok (.goto 7, 3) := by decide +kernel
theorem dL_wins_20 : decode cL_wins 20 = .ok (.astore 4, 2) := by decide +kernel
theorem dL_wins_22 : decode cL_wins 22 = .ok (.iconst 1, 1) := by decide +kernel
theorem dL_wins_23 : decode cL_wins 23 = .ok (.ireturn, 1) := by decide +kernel
theorem dL_wins_24 : decode cL_wins 24 = .ok (.iconst 0, 1) := by decide +kernel
theorem dL_wins_25 : decode cL_wins 25 = .ok (.ireturn, 1) := by decide +kernel
theorem dL_ofPerson_0 : decode cL_ofPerson 0 = .ok (.aload_n 3, 1) := by decide +kernel
theorem dL_ofPerson_1 : decode cL_ofPerson 1 = .ok (.iconst 0, 1) := by decide +kernel
theorem dL_ofPerson_2 : decode cL_ofPerson 2 = .ok (.aload_n 0, 1) := by decide +kernel
theorem dL_ofPerson_3 : decode cL_ofPerson 3 = .ok (.iload_n 1, 1) := by decide +kernel
theorem dL_ofPerson_4 : decode cL_ofPerson 4 = .ok (.iload_n 2, 1) := by decide +kernel
theorem dL_ofPerson_5 : decode cL_ofPerson 5 = .ok (.invokevirtual 90, 3) := by decide +kernel
theorem dL_ofPerson_8 : decode cL_ofPerson 8 = .ok (.lastore, 1) := by decide +kernel
theorem dL_ofPerson_9 : decode cL_ofPerson 9 = .ok (.goto 11, 3) := by decide +kernel
theorem dL_ofPerson_12 : decode cL_ofPerson 12 = .ok (.astore 4, 2) := by decide +kernel
theorem dL_ofPerson_14 : decode cL_ofPerson 14 = .ok (.iconst 1, 1) := by decide +kernel
theorem dL_ofPerson_15 : decode cL_ofPerson 15 = .ok (.ireturn, 1) := by decide +kernel
theorem dL_ofPerson_16 : decode cL_ofPerson 16 = .ok (.astore 4, 2) := by decide +kernel
theorem dL_ofPerson_18 : decode cL_ofPerson 18 = .ok (.iconst 2, 1) := by decide +kernel
theorem dL_ofPerson_19 : decode cL_ofPerson 19 = .ok (.ireturn, 1) := by decide +kernel
theorem dL_ofPerson_20 : decode cL_ofPerson 20 = .ok (.iconst 0, 1) := by decide +kernel
theorem dL_ofPerson_21 : decode cL_ofPerson 21 = .ok (.ireturn, 1) := by decide +kernel
theorem dL_ofMarriage_0 : decode cL_ofMarriage 0 = .ok (.aload_n 3, 1) := by decide +kernel
theorem dL_ofMarriage_1 : decode cL_ofMarriage 1 = .ok (.iconst 0, 1) := by decide +kernel
theorem dL_ofMarriage_2 : decode cL_ofMarriage 2 = .ok (.aload_n 0, 1) := by decide +kernel
theorem dL_ofMarriage_3 : decode cL_ofMarriage 3 = .ok (.iload_n 1, 1) := by decide +kernel
theorem dL_ofMarriage_4 : decode cL_ofMarriage 4 = .ok (.iload_n 2, 1) := by decide +kernel
theorem dL_ofMarriage_5 : decode cL_ofMarriage 5 = .ok (.invokevirtual 93, 3) := by decide +kernel
theorem dL_ofMarriage_8 : decode cL_ofMarriage 8 = .ok (.i2l, 1) := by decide +kernel
theorem dL_ofMarriage_9 : decode cL_ofMarriage 9 = .ok (.lastore, 1) := by decide +kernel
theorem dL_ofMarriage_10 : decode cL_ofMarriage 10 = .ok (.goto 11, 3) := by decide +kernel
theorem dL_ofMarriage_13 : decode cL_ofMarriage 13 = .ok (.astore 4, 2) := by decide +kernel
theorem dL_ofMarriage_15 : decode cL_ofMarriage 15 = .ok (.iconst 1, 1) := by decide +kernel
theorem dL_ofMarriage_16 : decode cL_ofMarriage 16 = .ok (.ireturn, 1) := by decide +kernel
theorem dL_ofMarriage_17 : decode cL_ofMarriage 17 = .ok (.astore 4, 2) := by decide +kernel
theorem dL_ofMarriage_19 : decode cL_ofMarriage 19 = .ok (.iconst 2, 1) := by decide +kernel
theorem dL_ofMarriage_20 : decode cL_ofMarriage 20 = .ok (.ireturn, 1) := by decide +kernel
theorem dL_ofMarriage_21 : decode cL_ofMarriage 21 = .ok (.iconst 0, 1) := by decide +kernel
theorem dL_ofMarriage_22 : decode cL_ofMarriage 22 = .ok (.ireturn, 1) := by decide +kernel
theorem dL_ofSuit_0 : decode cL_ofSuit 0 = .ok (.aload_n 3, 1) := by decide +kernel
theorem dL_ofSuit_1 : decode cL_ofSuit 1 = .ok (.iconst 0, 1) := by decide +kernel
theorem dL_ofSuit_2 : decode cL_ofSuit 2 = .ok (.aload_n 0, 1) := by decide +kernel
theorem dL_ofSuit_3 : decode cL_ofSuit 3 = .ok (.iload_n 1, 1) := by decide +kernel
theorem dL_ofSuit_4 : decode cL_ofSuit 4 = .ok (.iload_n 2, 1) := by decide +kernel
theorem dL_ofSuit_5 : decode cL_ofSuit 5 = .ok (.invokevirtual 96, 3) := by decide +kernel
theorem dL_ofSuit_8 : decode cL_ofSuit 8 = .ok (.i2l, 1) := by decide +kernel
theorem dL_ofSuit_9 : decode cL_ofSuit 9 = .ok (.lastore, 1) := by decide +kernel
theorem dL_ofSuit_10 : decode cL_ofSuit 10 = .ok (.goto 11, 3) := by decide +kernel
theorem dL_ofSuit_13 : decode cL_ofSuit 13 = .ok (.astore 4, 2) := by decide +kernel
theorem dL_ofSuit_15 : decode cL_ofSuit 15 = .ok (.iconst 1, 1) := by decide +kernel
theorem dL_ofSuit_16 : decode cL_ofSuit 16 = .ok (.ireturn, 1) := by decide +kernel
theorem dL_ofSuit_17 : decode cL_ofSuit 17 = .ok (.astore 4, 2) := by decide +kernel
theorem dL_ofSuit_19 : decode cL_ofSuit 19 = .ok (.iconst 2, 1) := by decide +kernel
theorem dL_ofSuit_20 : decode cL_ofSuit 20 = .ok (.ireturn, 1) := by decide +kernel
theorem dL_ofSuit_21 : decode cL_ofSuit 21 = .ok (.iconst 0, 1) := by decide +kernel
theorem dL_ofSuit_22 : decode cL_ofSuit 22 = .ok (.ireturn, 1) := by decide +kernel
theorem dL_pass_0 : decode cL_pass 0 = .ok (.aload_n 2, 1) := by decide +kernel
theorem dL_pass_1 : decode cL_pass 1 = .ok (.iconst 0, 1) := by decide +kernel
theorem dL_pass_2 : decode cL_pass 2 = .ok (.aload_n 0, 1) := by decide +kernel
theorem dL_pass_3 : decode cL_pass 3 = .ok (.iload_n 1, 1) := by decide +kernel
theorem dL_pass_4 : decode cL_pass 4 = .ok (.invokevirtual 99, 3) := by decide +kernel
theorem dL_pass_7 : decode cL_pass 7 = .ok (.i2l, 1) := by decide +kernel
theorem dL_pass_8 : decode cL_pass 8 = .ok (.lastore, 1) := by decide +kernel
theorem dL_pass_9 : decode cL_pass 9 = .ok (.goto 9, 3) := by decide +kernel
theorem dL_pass_12 : decode cL_pass 12 = .ok (.astore_n 3, 1) := by decide +kernel
theorem dL_pass_13 : decode cL_pass 13 = .ok (.iconst 1, 1) := by decide +kernel
theorem dL_pass_14 : decode cL_pass 14 = .ok (.ireturn, 1) := by decide +kernel
theorem dL_pass_15 : decode cL_pass 15 = .ok (.astore_n 3, 1) := by decide +kernel
theorem dL_pass_16 : decode cL_pass 16 = .ok (.iconst 2, 1) := by decide +kernel
theorem dL_pass_17 : decode cL_pass 17 = .ok (.ireturn, 1) := by decide +kernel
theorem dL_pass_18 : decode cL_pass 18 = .ok (.iconst 0, 1) := by decide +kernel
theorem dL_pass_19 : decode cL_pass 19 = .ok (.ireturn, 1) := by decide +kernel
theorem dL_law__0 : decode cL_law_ 0 = .ok (.new 8, 3) := by decide +kernel
theorem dL_law__3 : decode cL_law_ 3 = .ok (.dup, 1) := by decide +kernel
theorem dL_law__4 : decode cL_law_ 4 = .ok (.invokespecial 102, 3) := by decide +kernel
theorem dL_law__7 : decode cL_law_ 7 = .ok (.astore_n 1, 1) := by decide +kernel
theorem dL_law__8 : decode cL_law_ 8 = .ok (.new 103, 3) := by decide +kernel
theorem dL_law__11 : decode cL_law_ 11 = .ok (.dup, 1) := by decide +kernel
theorem dL_law__12 : decode cL_law_ 12 = .ok (.invokespecial 105, 3) := by decide +kernel
theorem dL_law__15 : decode cL_law_ 15 = .ok (.astore_n 2, 1) := by decide +kernel
theorem dL_law__16 : decode cL_law_ 16 = .ok (.iconst 1, 1) := by decide +kernel
theorem dL_law__17 : decode cL_law_ 17 = .ok (.newarray .long, 2) := by decide +kernel
theorem dL_law__19 : decode cL_law_ 19 = .ok (.astore_n 3, 1) := by decide +kernel
theorem dL_law__20 : decode cL_law_ 20 = .ok (.iconst 0, 1) := by decide +kernel
theorem dL_law__21 : decode cL_law_ 21 = .ok (.istore 4, 2) := by decide +kernel
theorem dL_law__23 : decode cL_law_ 23 = .ok (.iload 4, 2) := by decide +kernel
theorem dL_law__25 : decode cL_law_ 25 = .ok (.aload_n 0, 1) := by decide +kernel
theorem dL_law__26 : decode cL_law_ 26 = .ok (.arraylength, 1) := by decide +kernel
theorem dL_law__27 : decode cL_law_ 27 = .ok (.iconst 5, 1) := by decide +kernel
theorem dL_law__28 : decode cL_law_ 28 = .ok (.isub, 1) := by decide +kernel
theorem dL_law__29 : decode cL_law_ 29 = .ok (.if_icmp .gt 2003, 3) := by decide +kernel
theorem dL_law__32 : decode cL_law_ 32 = .ok (.aload_n 0, 1) := by decide +kernel
theorem dL_law__33 : decode cL_law_ 33 = .ok (.iload 4, 2) := by decide +kernel
theorem dL_law__35 : decode cL_law_ 35 = .ok (.iaload, 1) := by decide +kernel
theorem dL_law__36 : decode cL_law_ 36 = .ok (.bipush 31, 2) := by decide +kernel
theorem dL_law__38 : decode cL_law_ 38 = .ok (.iand, 1) := by decide +kernel
theorem dL_law__39 : decode cL_law_ 39 = .ok (.tableswitch 1987 0 26 #[121, 165, 256, 336, 404, 484, 576, 684, 776, 832, 900, 980, 1071, 1138, 1193, 1285, 1348, 1444, 1507, 1570, 1625, 1700, 1767, 1835, 1903, 1917, 1931], 121) := by decide +kernel
theorem dL_law__160 : decode cL_law_ 160 = .ok (.aload_n 1, 1) := by decide +kernel
theorem dL_law__161 : decode cL_law_ 161 = .ok (.aload_n 3, 1) := by decide +kernel
theorem dL_law__162 : decode cL_law_ 162 = .ok (.invokestatic 106, 3) := by decide +kernel
theorem dL_law__165 : decode cL_law_ 165 = .ok (.istore 5, 2) := by decide +kernel
theorem dL_law__167 : decode cL_law_ 167 = .ok (.aload_n 2, 1) := by decide +kernel
theorem dL_law__168 : decode cL_law_ 168 = .ok (.invokevirtual 111, 3) := by decide +kernel
theorem dL_law__171 : decode cL_law_ 171 = .ok (.istore 6, 2) := by decide +kernel
theorem dL_law__173 : decode cL_law_ 173 = .ok (.aload_n 2, 1) := by decide +kernel
theorem dL_law__174 : decode cL_law_ 174 = .ok (.invokevirtual 112, 3) := by decide +kernel
theorem dL_law__177 : decode cL_law_ 177 = .ok (.iload 5, 2) := by decide +kernel
theorem dL_law__179 : decode cL_law_ 179 = .ok (.if_icmp .eq 5, 3) := by decide +kernel
theorem dL_law__182 : decode cL_law_ 182 = .ok (.iconst 0, 1) := by decide +kernel
theorem dL_law__183 : decode cL_law_ 183 = .ok (.ireturn, 1) := by decide +kernel
theorem dL_law__184 : decode cL_law_ 184 = .ok (.iload 5, 2) := by decide +kernel
theorem dL_law__186 : decode cL_law_ 186 = .ok (.ifCond .ne 15, 3) := by decide +kernel
theorem dL_law__189 : decode cL_law_ 189 = .ok (.aload_n 3, 1) := by decide +kernel
theorem dL_law__190 : decode cL_law_ 190 = .ok (.iconst 0, 1) := by decide +kernel
theorem dL_law__191 : decode cL_law_ 191 = .ok (.laload, 1) := by decide +kernel
theorem dL_law__192 : decode cL_law_ 192 = .ok (.iload 6, 2) := by decide +kernel
theorem dL_law__194 : decode cL_law_ 194 = .ok (.i2l, 1) := by decide +kernel
theorem dL_law__195 : decode cL_law_ 195 = .ok (.lcmp, 1) := by decide +kernel
theorem dL_law__196 : decode cL_law_ 196 = .ok (.ifCond .eq 5, 3) := by decide +kernel
theorem dL_law__199 : decode cL_law_ 199 = .ok (.iconst 0, 1) := by decide +kernel
theorem dL_law__200 : decode cL_law_ 200 = .ok (.ireturn, 1) := by decide +kernel
theorem dL_law__201 : decode cL_law_ 201 = .ok (.goto 1825, 3) := by decide +kernel
theorem dL_law__204 : decode cL_law_ 204 = .ok (.aload_n 1, 1) := by decide +kernel
theorem dL_law__205 : decode cL_law_ 205 = .ok (.aload_n 0, 1) := by decide +kernel
theorem dL_law__206 : decode cL_law_ 206 = .ok (.iload 4, 2) := by decide +kernel
theorem dL_law__208 : decode cL_law_ 208 = .ok (.iconst 1, 1) := by decide +kernel
theorem dL_law__209 : decode cL_law_ 209 = .ok (.iadd, 1) := by decide +kernel
theorem dL_law__210 : decode cL_law_ 210 = .ok (.iaload, 1) := by decide +kernel
theorem dL_law__211 : decode cL_law_ 211 = .ok (.aload_n 0, 1) := by decide +kernel
theorem dL_law__212 : decode cL_law_ 212 = .ok (.iload 4, 2) := by decide +kernel
theorem dL_law__214 : decode cL_law_ 214 = .ok (.iconst 2, 1) := by decide +kernel
theorem dL_law__215 : decode cL_law_ 215 = .ok (.iadd, 1) := by decide +kernel
theorem dL_law__216 : decode cL_law_ 216 = .ok (.iaload, 1) := by decide +kernel
theorem dL_law__217 : decode cL_law_ 217 = .ok (.ifCond .eq 7, 3) := by decide +kernel
theorem dL_law__220 : decode cL_law_ 220 = .ok (.iconst 1, 1) := by decide +kernel
theorem dL_law__221 : decode cL_law_ 221 = .ok (.goto 4, 3) := by decide +kernel
theorem dL_law__224 : decode cL_law_ 224 = .ok (.iconst 0, 1) := by decide +kernel
theorem dL_law__225 : decode cL_law_ 225 = .ok (.aload_n 3, 1) := by decide +kernel
theorem dL_law__226 : decode cL_law_ 226 = .ok (.invokestatic 115, 3) := by decide +kernel
theorem dL_law__229 : decode cL_law_ 229 = .ok (.istore 5, 2) := by decide +kernel
theorem dL_law__231 : decode cL_law_ 231 = .ok (.aload_n 2, 1) := by decide +kernel
theorem dL_law__232 : decode cL_law_ 232 = .ok (.aload_n 0, 1) := by decide +kernel
theorem dL_law__233 : decode cL_law_ 233 = .ok (.iload 4, 2) := by decide +kernel
theorem dL_law__235 : decode cL_law_ 235 = .ok (.iconst 1, 1) := by decide +kernel
theorem dL_law__236 : decode cL_law_ 236 = .ok (.iadd, 1) := by decide +kernel
theorem dL_law__237 : decode cL_law_ 237 = .ok (.iaload, 1) := by decide +kernel
theorem dL_law__238 : decode cL_law_ 238 = .ok (.aload_n 0, 1) := by decide +kernel
theorem dL_law__239 : decode cL_law_ 239 = .ok (.iload 4, 2) := by decide +kernel
theorem dL_law__241 : decode cL_law_ 241 = .ok (.iconst 2, 1) := by decide +kernel
theorem dL_law__242 : decode cL_law_ 242 = .ok (.iadd, 1) := by decide +kernel
theorem dL_law__243 : decode cL_law_ 243 = .ok (.iaload, 1) := by decide +kernel
theorem dL_law__244 : decode cL_law_ 244 = .ok (.ifCond .eq 7, 3) := by decide +kernel
theorem dL_law__247 : decode cL_law_ 247 = .ok (.iconst 1, 1) := by decide +kernel
theorem dL_law__248 : decode cL_law_ 248 = .ok (.goto 4, 3) := by decide +kernel
theorem dL_law__251 : decode cL_law_ 251 = .ok (.iconst 0, 1) := by decide +kernel
theorem dL_law__252 : decode cL_law_ 252 = .ok (.invokevirtual 118, 3) := by decide +kernel
theorem dL_law__255 : decode cL_law_ 255 = .ok (.istore 6, 2) := by decide +kernel
theorem dL_law__257 : decode cL_law_ 257 = .ok (.aload_n 2, 1) := by decide +kernel
theorem dL_law__258 : decode cL_law_ 258 = .ok (.invokevirtual 112, 3) := by decide +kernel
theorem dL_law__261 : decode cL_law_ 261 = .ok (.iload 5, 2) := by decide +kernel
theorem dL_law__263 : decode cL_law_ 263 = .ok (.if_icmp .eq 5, 3) := by decide +kernel
theorem dL_law__266 : decode cL_law_ 266 = .ok (.iconst 0, 1) := by decide +kernel
theorem dL_law__267 : decode cL_law_ 267 = .ok (.ireturn, 1) := by decide +kernel
theorem dL_law__268 : decode cL_law_ 268 = .ok (.iload 5, 2) := by decide +kernel
theorem dL_law__270 : decode cL_law_ 270 = .ok (.ifCond .ne 22, 3) := by decide +kernel
theorem dL_law__273 : decode cL_law_ 273 = .ok (.aload_n 3, 1) := by decide +kernel
theorem dL_law__274 : decode cL_law_ 274 = .ok (.iconst 0, 1) := by decide +kernel
theorem dL_law__275 : decode cL_law_ 275 = .ok (.laload, 1) := by decide +kernel
theorem dL_law__276 : decode cL_law_ 276 = .ok (.iload 6, 2) := by decide +kernel
theorem dL_law__278 : decode cL_law_ 278 = .ok (.ifCond .eq 7, 3) := by decide +kernel
theorem dL_law__281 : decode cL_law_ 281 = .ok (.lconst 1, 1) := by decide +kernel
theorem dL_law__282 : decode cL_law_ 282 = .ok (.goto 4, 3) := by decide +kernel
theorem dL_law__285 : decode cL_law_ 285 = .ok (.lconst 0, 1) := by decide +kernel
theorem dL_law__286 : decode cL_law_ 286 = .ok (.lcmp, 1) := by decide +kernel
theorem dL_law__287 : decode cL_law_ 287 = .ok (.ifCond .eq 5, 3) := by decide +kernel
theorem dL_law__290 : decode cL_law_ 290 = .ok (.iconst 0, 1) := by decide +kernel
theorem dL_law__291 : decode cL_law_ 291 = .ok (.ireturn, 1) := by decide +kernel
theorem dL_law__292 : decode cL_law_ 292 = .ok (.goto 1734, 3) := by decide +kernel
theorem dL_law__295 : decode cL_law_ 295 = .ok (.aload_n 1, 1) := by decide +kernel
theorem dL_law__296 : decode cL_law_ 296 = .ok (.aload_n 0, 1) := by decide +kernel
theorem dL_law__297 : decode cL_law_ 297 = .ok (.iload 4, 2) := by decide +kernel
theorem dL_law__299 : decode cL_law_ 299 = .ok (.iconst 1, 1) := by decide +kernel
theorem dL_law__300 : decode cL_law_ 300 = .ok (.iadd, 1) := by decide +kernel
theorem dL_law__301 : decode cL_law_ 301 = .ok (.iaload, 1) := by decide +kernel
theorem dL_law__302 : decode cL_law_ 302 = .ok (.aload_n 0, 1) := by decide +kernel
theorem dL_law__303 : decode cL_law_ 303 = .ok (.iload 4, 2) := by decide +kernel
theorem dL_law__305 : decode cL_law_ 305 = .ok (.iconst 2, 1) := by decide +kernel
theorem dL_law__306 : decode cL_law_ 306 = .ok (.iadd, 1) := by decide +kernel
theorem dL_law__307 : decode cL_law_ 307 = .ok (.iaload, 1) := by decide +kernel
theorem dL_law__308 : decode cL_law_ 308 = .ok (.aload_n 0, 1) := by decide +kernel
theorem dL_law__309 : decode cL_law_ 309 = .ok (.iload 4, 2) := by decide +kernel
theorem dL_law__311 : decode cL_law_ 311 = .ok (.iconst 3, 1) := by decide +kernel
theorem dL_law__312 : decode cL_law_ 312 = .ok (.iadd, 1) := by decide +kernel
theorem dL_law__313 : decode cL_law_ 313 = .ok (.iaload, 1) := by decide +kernel
theorem dL_law__314 : decode cL_law_ 314 = .ok (.aload_n 3, 1) := by decide +kernel
theorem dL_law__315 : decode cL_law_ 315 = .ok (.invokestatic 119, 3) := by decide +kernel
theorem dL_law__318 : decode cL_law_ 318 = .ok (.istore 5, 2) := by decide +kernel
theorem dL_law__320 : decode cL_law_ 320 = .ok (.aload_n 2, 1) := by decide +kernel
theorem dL_law__321 : decode cL_law_ 321 = .ok (.aload_n 0, 1) := by decide +kernel
theorem dL_law__322 : decode cL_law_ 322 = .ok (.iload 4, 2) := by decide +kernel
theorem dL_law__324 : decode cL_law_ 324 = .ok (.iconst 1, 1) := by decide +kernel
theorem dL_law__325 : decode cL_law_ 325 = .ok (.iadd, 1) := by decide +kernel
theorem dL_law__326 : decode cL_law_ 326 = .ok (.iaload, 1) := by decide +kernel
theorem dL_law__327 : decode cL_law_ 327 = .ok (.aload_n 0, 1) := by decide +kernel
theorem dL_law__328 : decode cL_law_ 328 = .ok (.iload 4, 2) := by decide +kernel
theorem dL_law__330 : decode cL_law_ 330 = .ok (.iconst 2, 1) := by decide +kernel
theorem dL_law__331 : decode cL_law_ 331 = .ok (.iadd, 1) := by decide +kernel
theorem dL_law__332 : decode cL_law_ 332 = .ok (.iaload, 1) := by decide +kernel
theorem dL_law__333 : decode cL_law_ 333 = .ok (.aload_n 0, 1) := by decide +kernel
theorem dL_law__334 : decode cL_law_ 334 = .ok (.iload 4, 2) := by decide +kernel
theorem dL_law__336 : decode cL_law_ 336 = .ok (.iconst 3, 1) := by decide +kernel
theorem dL_law__337 : decode cL_law_ 337 = .ok (.iadd, 1) := by decide +kernel
theorem dL_law__338 : decode cL_law_ 338 = .ok (.iaload, 1) := by decide +kernel
theorem dL_law__339 : decode cL_law_ 339 = .ok (.invokevirtual 122, 3) := by decide +kernel
theorem dL_law__342 : decode cL_law_ 342 = .ok (.istore 6, 2) := by decide +kernel
theorem dL_law__344 : decode cL_law_ 344 = .ok (.aload_n 2, 1) := by decide +kernel
theorem dL_law__345 : decode cL_law_ 345 = .ok (.invokevirtual 112, 3) := by decide +kernel
theorem dL_law__348 : decode cL_law_ 348 = .ok (.iload 5, 2) := by decide +kernel
theorem dL_law__350 : decode cL_law_ 350 = .ok (.if_icmp .eq 5, 3) := by decide +kernel
theorem dL_law__353 : decode cL_law_ 353 = .ok (.iconst 0, 1) := by decide +kernel
theorem dL_law__354 : decode cL_law_ 354 = .ok (.ireturn, 1) := by decide +kernel
theorem dL_law__355 : decode cL_law_ 355 = .ok (.iload 5, 2) := by decide +kernel
theorem dL_law__357 : decode cL_law_ 357 = .ok (.ifCond .ne 15, 3) := by decide +kernel
theorem dL_law__360 : decode cL_law_ 360 = .ok (.aload_n 3, 1) := by decide +kernel
theorem dL_law__361 : decode cL_law_ 361 = .ok (.iconst 0, 1) := by decide +kernel
theorem dL_law__362 : decode cL_law_ 362 = .ok (.laload, 1) := by decide +kernel
theorem dL_law__363 : decode cL_law_ 363 = .ok (.iload 6, 2) := by decide +kernel
theorem dL_law__365 : decode cL_law_ 365 = .ok (.i2l, 1) := by decide +kernel
theorem dL_law__366 : decode cL_law_ 366 = .ok (.lcmp, 1) := by decide +kernel
theorem dL_law__367 : decode cL_law_ 367 = .ok (.ifCond .eq 5, 3) := by decide +kernel
theorem dL_law__370 : decode cL_law_ 370 = .ok (.iconst 0, 1) := by decide +kernel
theorem dL_law__371 : decode cL_law_ 371 = .ok (.ireturn, 1) := by decide +kernel
theorem dL_law__372 : decode cL_law_ 372 = .ok (.goto 1654, 3) := by decide +kernel
theorem dL_law__375 : decode cL_law_ 375 = .ok (.aload_n 1, 1) := by decide +kernel
theorem dL_law__376 : decode cL_law_ 376 = .ok (.aload_n 0, 1) := by decide +kernel
theorem dL_law__377 : decode cL_law_ 377 = .ok (.iload 4, 2) := by decide +kernel
theorem dL_law__379 : decode cL_law_ 379 = .ok (.iconst 1, 1) := by decide +kernel
theorem dL_law__380 : decode cL_law_ 380 = .ok (.iadd, 1) := by decide +kernel
theorem dL_law__381 : decode cL_law_ 381 = .ok (.iaload, 1) := by decide +kernel
theorem dL_law__382 : decode cL_law_ 382 = .ok (.aload_n 0, 1) := by decide +kernel
theorem dL_law__383 : decode cL_law_ 383 = .ok (.iload 4, 2) := by decide +kernel
theorem dL_law__385 : decode cL_law_ 385 = .ok (.iconst 2, 1) := by decide +kernel
theorem dL_law__386 : decode cL_law_ 386 = .ok (.iadd, 1) := by decide +kernel
theorem dL_law__387 : decode cL_law_ 387 = .ok (.iaload, 1) := by decide +kernel
theorem dL_law__388 : decode cL_law_ 388 = .ok (.aload_n 3, 1) := by decide +kernel
theorem dL_law__389 : decode cL_law_ 389 = .ok (.invokestatic 123, 3) := by decide +kernel
theorem dL_law__392 : decode cL_law_ 392 = .ok (.istore 5, 2) := by decide +kernel
theorem dL_law__394 : decode cL_law_ 394 = .ok (.aload_n 2, 1) := by decide +kernel
theorem dL_law__395 : decode cL_law_ 395 = .ok (.aload_n 0, 1) := by decide +kernel
theorem dL_law__396 : decode cL_law_ 396 = .ok (.iload 4, 2) := by decide +kernel
theorem dL_law__398 : decode cL_law_ 398 = .ok (.iconst 1, 1) := by decide +kernel
theorem dL_law__399 : decode cL_law_ 399 = .ok (.iadd, 1) := by decide +kernel
theorem dL_law__400 : decode cL_law_ 400 = .ok (.iaload, 1) := by decide +kernel
theorem dL_law__401 : decode cL_law_ 401 = .ok (.aload_n 0, 1) := by decide +kernel
theorem dL_law__402 : decode cL_law_ 402 = .ok (.iload 4, 2) := by decide +kernel
theorem dL_law__404 : decode cL_law_ 404 = .ok (.iconst 2, 1) := by decide +kernel
theorem dL_law__405 : decode cL_law_ 405 = .ok (.iadd, 1) := by decide +kernel
theorem dL_law__406 : decode cL_law_ 406 = .ok (.iaload, 1) := by decide +kernel
theorem dL_law__407 : decode cL_law_ 407 = .ok (.invokevirtual 126, 3) := by decide +kernel
theorem dL_law__410 : decode cL_law_ 410 = .ok (.istore 6, 2) := by decide +kernel
theorem dL_law__412 : decode cL_law_ 412 = .ok (.aload_n 2, 1) := by decide +kernel
theorem dL_law__413 : decode cL_law_ 413 = .ok (.invokevirtual 112, 3) := by decide +kernel
theorem dL_law__416 : decode cL_law_ 416 = .ok (.iload 5, 2) := by decide +kernel
theorem dL_law__418 : decode cL_law_ 418 = .ok (.if_icmp .eq 5, 3) := by decide +kernel
theorem dL_law__421 : decode cL_law_ 421 = .ok (.iconst 0, 1) := by decide +kernel
theorem dL_law__422 : decode cL_law_ 422 = .ok (.ireturn, 1) := by decide +kernel
theorem dL_law__423 : decode cL_law_ 423 = .ok (.iload 5, 2) := by decide +kernel
theorem dL_law__425 : decode cL_law_ 425 = .ok (.ifCond .ne 15, 3) := by decide +kernel
theorem dL_law__428 : decode cL_law_ 428 = .ok (.aload_n 3, 1) := by decide +kernel
theorem dL_law__429 : decode cL_law_ 429 = .ok (.iconst 0, 1) := by decide +kernel
theorem dL_law__430 : decode cL_law_ 430 = .ok (.laload, 1) := by decide +kernel
theorem dL_law__431 : decode cL_law_ 431 = .ok (.iload 6, 2) := by decide +kernel
theorem dL_law__433 : decode cL_law_ 433 = .ok (.i2l, 1) := by decide +kernel
theorem dL_law__434 : decode cL_law_ 434 = .ok (.lcmp, 1) := by decide +kernel
theorem dL_law__435 : decode cL_law_ 435 = .ok (.ifCond .eq 5, 3) := by decide +kernel
theorem dL_law__438 : decode cL_law_ 438 = .ok (.iconst 0, 1) := by decide +kernel
theorem dL_law__439 : decode cL_law_ 439 = .ok (.ireturn, 1) := by decide +kernel
theorem dL_law__440 : decode cL_law_ 440 = .ok (.goto 1586, 3) := by decide +kernel
theorem dL_law__443 : decode cL_law_ 443 = .ok (.aload_n 1, 1) := by decide +kernel
theorem dL_law__444 : decode cL_law_ 444 = .ok (.aload_n 0, 1) := by decide +kernel
theorem dL_law__445 : decode cL_law_ 445 = .ok (.iload 4, 2) := by decide +kernel
theorem dL_law__447 : decode cL_law_ 447 = .ok (.iconst 1, 1) := by decide +kernel
theorem dL_law__448 : decode cL_law_ 448 = .ok (.iadd, 1) := by decide +kernel
theorem dL_law__449 : decode cL_law_ 449 = .ok (.iaload, 1) := by decide +kernel
theorem dL_law__450 : decode cL_law_ 450 = .ok (.aload_n 0, 1) := by decide +kernel
theorem dL_law__451 : decode cL_law_ 451 = .ok (.iload 4, 2) := by decide +kernel
theorem dL_law__453 : decode cL_law_ 453 = .ok (.iconst 2, 1) := by decide +kernel
theorem dL_law__454 : decode cL_law_ 454 = .ok (.iadd, 1) := by decide +kernel
theorem dL_law__455 : decode cL_law_ 455 = .ok (.iaload, 1) := by decide +kernel
theorem dL_law__456 : decode cL_law_ 456 = .ok (.aload_n 0, 1) := by decide +kernel
theorem dL_law__457 : decode cL_law_ 457 = .ok (.iload 4, 2) := by decide +kernel
theorem dL_law__459 : decode cL_law_ 459 = .ok (.iconst 3, 1) := by decide +kernel
theorem dL_law__460 : decode cL_law_ 460 = .ok (.iadd, 1) := by decide +kernel
theorem dL_law__461 : decode cL_law_ 461 = .ok (.iaload, 1) := by decide +kernel
theorem dL_law__462 : decode cL_law_ 462 = .ok (.aload_n 3, 1) := by decide +kernel
theorem dL_law__463 : decode cL_law_ 463 = .ok (.invokestatic 127, 3) := by decide +kernel
theorem dL_law__466 : decode cL_law_ 466 = .ok (.istore 5, 2) := by decide +kernel
theorem dL_law__468 : decode cL_law_ 468 = .ok (.aload_n 2, 1) := by decide +kernel
theorem dL_law__469 : decode cL_law_ 469 = .ok (.aload_n 0, 1) := by decide +kernel
theorem dL_law__470 : decode cL_law_ 470 = .ok (.iload 4, 2) := by decide +kernel
theorem dL_law__472 : decode cL_law_ 472 = .ok (.iconst 1, 1) := by decide +kernel
theorem dL_law__473 : decode cL_law_ 473 = .ok (.iadd, 1) := by decide +kernel
theorem dL_law__474 : decode cL_law_ 474 = .ok (.iaload, 1) := by decide +kernel
theorem dL_law__475 : decode cL_law_ 475 = .ok (.aload_n 0, 1) := by decide +kernel
theorem dL_law__476 : decode cL_law_ 476 = .ok (.iload 4, 2) := by decide +kernel
theorem dL_law__478 : decode cL_law_ 478 = .ok (.iconst 2, 1) := by decide +kernel
theorem dL_law__479 : decode cL_law_ 479 = .ok (.iadd, 1) := by decide +kernel
theorem dL_law__480 : decode cL_law_ 480 = .ok (.iaload, 1) := by decide +kernel
theorem dL_law__481 : decode cL_law_ 481 = .ok (.aload_n 0, 1) := by decide +kernel
theorem dL_law__482 : decode cL_law_ 482 = .ok (.iload 4, 2) := by decide +kernel
theorem dL_law__484 : decode cL_law_ 484 = .ok (.iconst 3, 1) := by decide +kernel
theorem dL_law__485 : decode cL_law_ 485 = .ok (.iadd, 1) := by decide +kernel
theorem dL_law__486 : decode cL_law_ 486 = .ok (.iaload, 1) := by decide +kernel
theorem dL_law__487 : decode cL_law_ 487 = .ok (.invokevirtual 129, 3) := by decide +kernel
theorem dL_law__490 : decode cL_law_ 490 = .ok (.istore 6, 2) := by decide +kernel
theorem dL_law__492 : decode cL_law_ 492 = .ok (.aload_n 2, 1) := by decide +kernel
theorem dL_law__493 : decode cL_law_ 493 = .ok (.invokevirtual 112, 3) := by decide +kernel
theorem dL_law__496 : decode cL_law_ 496 = .ok (.iload 5, 2) := by decide +kernel
theorem dL_law__498 : decode cL_law_ 498 = .ok (.if_icmp .eq 5, 3) := by decide +kernel
theorem dL_law__501 : decode cL_law_ 501 = .ok (.iconst 0, 1) := by decide +kernel
theorem dL_law__502 : decode cL_law_ 502 = .ok (.ireturn, 1) := by decide +kernel
theorem dL_law__503 : decode cL_law_ 503 = .ok (.iload 5, 2) := by decide +kernel
theorem dL_law__505 : decode cL_law_ 505 = .ok (.ifCond .ne 15, 3) := by decide +kernel
theorem dL_law__508 : decode cL_law_ 508 = .ok (.aload_n 3, 1) := by decide +kernel
theorem dL_law__509 : decode cL_law_ 509 = .ok (.iconst 0, 1) := by decide +kernel
theorem dL_law__510 : decode cL_law_ 510 = .ok (.laload, 1) := by decide +kernel
theorem dL_law__511 : decode cL_law_ 511 = .ok (.iload 6, 2) := by decide +kernel
theorem dL_law__513 : decode cL_law_ 513 = .ok (.i2l, 1) := by decide +kernel
theorem dL_law__514 : decode cL_law_ 514 = .ok (.lcmp, 1) := by decide +kernel
theorem dL_law__515 : decode cL_law_ 515 = .ok (.ifCond .eq 5, 3) := by decide +kernel
theorem dL_law__518 : decode cL_law_ 518 = .ok (.iconst 0, 1) := by decide +kernel
theorem dL_law__519 : decode cL_law_ 519 = .ok (.ireturn, 1) := by decide +kernel
theorem dL_law__520 : decode cL_law_ 520 = .ok (.goto 1506, 3) := by decide +kernel
theorem dL_law__523 : decode cL_law_ 523 = .ok (.aload_n 1, 1) := by decide +kernel
theorem dL_law__524 : decode cL_law_ 524 = .ok (.aload_n 0, 1) := by decide +kernel
theorem dL_law__525 : decode cL_law_ 525 = .ok (.iload 4, 2) := by decide +kernel
theorem dL_law__527 : decode cL_law_ 527 = .ok (.iconst 1, 1) := by decide +kernel
theorem dL_law__528 : decode cL_law_ 528 = .ok (.iadd, 1) := by decide +kernel
theorem dL_law__529 : decode cL_law_ 529 = .ok (.iaload, 1) := by decide +kernel
theorem dL_law__530 : decode cL_law_ 530 = .ok (.aload_n 0, 1) := by decide +kernel
theorem dL_law__531 : decode cL_law_ 531 = .ok (.iload 4, 2) := by decide +kernel
theorem dL_law__533 : decode cL_law_ 533 = .ok (.iconst 2, 1) := by decide +kernel
theorem dL_law__534 : decode cL_law_ 534 = .ok (.iadd, 1) := by decide +kernel
theorem dL_law__535 : decode cL_law_ 535 = .ok (.iaload, 1) := by decide +kernel
theorem dL_law__536 : decode cL_law_ 536 = .ok (.aload_n 0, 1) := by decide +kernel
theorem dL_law__537 : decode cL_law_ 537 = .ok (.iload 4, 2) := by decide +kernel
theorem dL_law__539 : decode cL_law_ 539 = .ok (.iconst 3, 1) := by decide +kernel
theorem dL_law__540 : decode cL_law_ 540 = .ok (.iadd, 1) := by decide +kernel
theorem dL_law__541 : decode cL_law_ 541 = .ok (.iaload, 1) := by decide +kernel
theorem dL_law__542 : decode cL_law_ 542 = .ok (.aload_n 0, 1) := by decide +kernel
theorem dL_law__543 : decode cL_law_ 543 = .ok (.iload 4, 2) := by decide +kernel
theorem dL_law__545 : decode cL_law_ 545 = .ok (.iconst 4, 1) := by decide +kernel
theorem dL_law__546 : decode cL_law_ 546 = .ok (.iadd, 1) := by decide +kernel
theorem dL_law__547 : decode cL_law_ 547 = .ok (.iaload, 1) := by decide +kernel
theorem dL_law__548 : decode cL_law_ 548 = .ok (.aload_n 3, 1) := by decide +kernel
theorem dL_law__549 : decode cL_law_ 549 = .ok (.invokestatic 130, 3) := by decide +kernel
theorem dL_law__552 : decode cL_law_ 552 = .ok (.istore 5, 2) := by decide +kernel
theorem dL_law__554 : decode cL_law_ 554 = .ok (.aload_n 2, 1) := by decide +kernel
theorem dL_law__555 : decode cL_law_ 555 = .ok (.aload_n 0, 1) := by decide +kernel
theorem dL_law__556 : decode cL_law_ 556 = .ok (.iload 4, 2) := by decide +kernel
theorem dL_law__558 : decode cL_law_ 558 = .ok (.iconst 1, 1) := by decide +kernel
theorem dL_law__559 : decode cL_law_ 559 = .ok (.iadd, 1) := by decide +kernel
theorem dL_law__560 : decode cL_law_ 560 = .ok (.iaload, 1) := by decide +kernel
theorem dL_law__561 : decode cL_law_ 561 = .ok (.aload_n 0, 1) := by decide +kernel
theorem dL_law__562 : decode cL_law_ 562 = .ok (.iload 4, 2) := by decide +kernel
theorem dL_law__564 : decode cL_law_ 564 = .ok (.iconst 2, 1) := by decide +kernel
theorem dL_law__565 : decode cL_law_ 565 = .ok (.iadd, 1) := by decide +kernel
theorem dL_law__566 : decode cL_law_ 566 = .ok (.iaload, 1) := by decide +kernel
theorem dL_law__567 : decode cL_law_ 567 = .ok (.aload_n 0, 1) := by decide +kernel
theorem dL_law__568 : decode cL_law_ 568 = .ok (.iload 4, 2) := by decide +kernel
theorem dL_law__570 : decode cL_law_ 570 = .ok (.iconst 3, 1) := by decide +kernel
theorem dL_law__571 : decode cL_law_ 571 = .ok (.iadd, 1) := by decide +kernel
theorem dL_law__572 : decode cL_law_ 572 = .ok (.iaload, 1) := by decide +kernel
theorem dL_law__573 : decode cL_law_ 573 = .ok (.aload_n 0, 1) := by decide +kernel
theorem dL_law__574 : decode cL_law_ 574 = .ok (.iload 4, 2) := by decide +kernel
theorem dL_law__576 : decode cL_law_ 576 = .ok (.iconst 4, 1) := by decide +kernel
theorem dL_law__577 : decode cL_law_ 577 = .ok (.iadd, 1) := by decide +kernel
theorem dL_law__578 : decode cL_law_ 578 = .ok (.iaload, 1) := by decide +kernel
theorem dL_law__579 : decode cL_law_ 579 = .ok (.invokevirtual 133, 3) := by decide +kernel
theorem dL_law__582 : decode cL_law_ 582 = .ok (.istore 6, 2) := by decide +kernel
theorem dL_law__584 : decode cL_law_ 584 = .ok (.aload_n 2, 1) := by decide +kernel
theorem dL_law__585 : decode cL_law_ 585 = .ok (.invokevirtual 112, 3) := by decide +kernel
theorem dL_law__588 : decode cL_law_ 588 = .ok (.iload 5, 2) := by decide +kernel
theorem dL_law__590 : decode cL_law_ 590 = .ok (.if_icmp .eq 5, 3) := by decide +kernel
theorem dL_law__593 : decode cL_law_ 593 = .ok (.iconst 0, 1) := by decide +kernel
theorem dL_law__594 : decode cL_law_ 594 = .ok (.ireturn, 1) := by decide +kernel
theorem dL_law__595 : decode cL_law_ 595 = .ok (.iload 5, 2) := by decide +kernel
theorem dL_law__597 : decode cL_law_ 597 = .ok (.ifCond .ne 15, 3) := by decide +kernel
theorem dL_law__600 : decode cL_law_ 600 = .ok (.aload_n 3, 1) := by decide +kernel
theorem dL_law__601 : decode cL_law_ 601 = .ok (.iconst 0, 1) := by decide +kernel
theorem dL_law__602 : decode cL_law_ 602 = .ok (.laload, 1) := by decide +kernel
theorem dL_law__603 : decode cL_law_ 603 = .ok (.iload 6, 2) := by decide +kernel
theorem dL_law__605 : decode cL_law_ 605 = .ok (.i2l, 1) := by decide +kernel
theorem dL_law__606 : decode cL_law_ 606 = .ok (.lcmp, 1) := by decide +kernel
theorem dL_law__607 : decode cL_law_ 607 = .ok (.ifCond .eq 5, 3) := by decide +kernel
theorem dL_law__610 : decode cL_law_ 610 = .ok (.iconst 0, 1) := by decide +kernel
theorem dL_law__611 : decode cL_law_ 611 = .ok (.ireturn, 1) := by decide +kernel
theorem dL_law__612 : decode cL_law_ 612 = .ok (.goto 1414, 3) := by decide +kernel
theorem dL_law__615 : decode cL_law_ 615 = .ok (.aload_n 1, 1) := by decide +kernel
theorem dL_law__616 : decode cL_law_ 616 = .ok (.aload_n 0, 1) := by decide +kernel
theorem dL_law__617 : decode cL_law_ 617 = .ok (.iload 4, 2) := by decide +kernel
theorem dL_law__619 : decode cL_law_ 619 = .ok (.iconst 1, 1) := by decide +kernel
theorem dL_law__620 : decode cL_law_ 620 = .ok (.iadd, 1) := by decide +kernel
theorem dL_law__621 : decode cL_law_ 621 = .ok (.iaload, 1) := by decide +kernel
theorem dL_law__622 : decode cL_law_ 622 = .ok (.ifCond .eq 7, 3) := by decide +kernel
theorem dL_law__625 : decode cL_law_ 625 = .ok (.iconst 1, 1) := by decide +kernel
theorem dL_law__626 : decode cL_law_ 626 = .ok (.goto 4, 3) := by decide +kernel
theorem dL_law__629 : decode cL_law_ 629 = .ok (.iconst 0, 1) := by decide +kernel
theorem dL_law__630 : decode cL_law_ 630 = .ok (.aload_n 0, 1) := by decide +kernel
theorem dL_law__631 : decode cL_law_ 631 = .ok (.iload 4, 2) := by decide +kernel
theorem dL_law__633 : decode cL_law_ 633 = .ok (.iconst 2, 1) := by decide +kernel
theorem dL_law__634 : decode cL_law_ 634 = .ok (.iadd, 1) := by decide +kernel
theorem dL_law__635 : decode cL_law_ 635 = .ok (.iaload, 1) := by decide +kernel
theorem dL_law__636 : decode cL_law_ 636 = .ok (.aload_n 0, 1) := by decide +kernel
theorem dL_law__637 : decode cL_law_ 637 = .ok (.iload 4, 2) := by decide +kernel
theorem dL_law__639 : decode cL_law_ 639 = .ok (.iconst 3, 1) := by decide +kernel
theorem dL_law__640 : decode cL_law_ 640 = .ok (.iadd, 1) := by decide +kernel
theorem dL_law__641 : decode cL_law_ 641 = .ok (.iaload, 1) := by decide +kernel
theorem dL_law__642 : decode cL_law_ 642 = .ok (.aload_n 0, 1) := by decide +kernel
theorem dL_law__643 : decode cL_law_ 643 = .ok (.iload 4, 2) := by decide +kernel
theorem dL_law__645 : decode cL_law_ 645 = .ok (.iconst 4, 1) := by decide +kernel
theorem dL_law__646 : decode cL_law_ 646 = .ok (.iadd, 1) := by decide +kernel
theorem dL_law__647 : decode cL_law_ 647 = .ok (.iaload, 1) := by decide +kernel
theorem dL_law__648 : decode cL_law_ 648 = .ok (.aload_n 3, 1) := by decide +kernel
theorem dL_law__649 : decode cL_law_ 649 = .ok (.invokestatic 134, 3) := by decide +kernel
theorem dL_law__652 : decode cL_law_ 652 = .ok (.istore 5, 2) := by decide +kernel
theorem dL_law__654 : decode cL_law_ 654 = .ok (.aload_n 2, 1) := by decide +kernel
theorem dL_law__655 : decode cL_law_ 655 = .ok (.aload_n 0, 1) := by decide +kernel
theorem dL_law__656 : decode cL_law_ 656 = .ok (.iload 4, 2) := by decide +kernel
theorem dL_law__658 : decode cL_law_ 658 = .ok (.iconst 1, 1) := by decide +kernel
theorem dL_law__659 : decode cL_law_ 659 = .ok (.iadd, 1) := by decide +kernel
theorem dL_law__660 : decode cL_law_ 660 = .ok (.iaload, 1) := by decide +kernel
theorem dL_law__661 : decode cL_law_ 661 = .ok (.ifCond .eq 7, 3) := by decide +kernel
theorem dL_law__664 : decode cL_law_ 664 = .ok (.iconst 1, 1) := by decide +kernel
theorem dL_law__665 : decode cL_law_ 665 = .ok (.goto 4, 3) := by decide +kernel
theorem dL_law__668 : decode cL_law_ 668 = .ok (.iconst 0, 1) := by decide +kernel
theorem dL_law__669 : decode cL_law_ 669 = .ok (.aload_n 0, 1) := by decide +kernel
theorem dL_law__670 : decode cL_law_ 670 = .ok (.iload 4, 2) := by decide +kernel
theorem dL_law__672 : decode cL_law_ 672 = .ok (.iconst 2, 1) := by decide +kernel
theorem dL_law__673 : decode cL_law_ 673 = .ok (.iadd, 1) := by decide +kernel
theorem dL_law__674 : decode cL_law_ 674 = .ok (.iaload, 1) := by decide +kernel
theorem dL_law__675 : decode cL_law_ 675 = .ok (.aload_n 0, 1) := by decide +kernel
theorem dL_law__676 : decode cL_law_ 676 = .ok (.iload 4, 2) := by decide +kernel
theorem dL_law__678 : decode cL_law_ 678 = .ok (.iconst 3, 1) := by decide +kernel
theorem dL_law__679 : decode cL_law_ 679 = .ok (.iadd, 1) := by decide +kernel
theorem dL_law__680 : decode cL_law_ 680 = .ok (.iaload, 1) := by decide +kernel
theorem dL_law__681 : decode cL_law_ 681 = .ok (.aload_n 0, 1) := by decide +kernel
theorem dL_law__682 : decode cL_law_ 682 = .ok (.iload 4, 2) := by decide +kernel
theorem dL_law__684 : decode cL_law_ 684 = .ok (.iconst 4, 1) := by decide +kernel
theorem dL_law__685 : decode cL_law_ 685 = .ok (.iadd, 1) := by decide +kernel
theorem dL_law__686 : decode cL_law_ 686 = .ok (.iaload, 1) := by decide +kernel
theorem dL_law__687 : decode cL_law_ 687 = .ok (.invokevirtual 137, 3) := by decide +kernel
theorem dL_law__690 : decode cL_law_ 690 = .ok (.istore 6, 2) := by decide +kernel
theorem dL_law__692 : decode cL_law_ 692 = .ok (.aload_n 2, 1) := by decide +kernel
theorem dL_law__693 : decode cL_law_ 693 = .ok (.invokevirtual 112, 3) := by decide +kernel
theorem dL_law__696 : decode cL_law_ 696 = .ok (.iload 5, 2) := by decide +kernel
theorem dL_law__698 : decode cL_law_ 698 = .ok (.if_icmp .eq 5, 3) := by decide +kernel
theorem dL_law__701 : decode cL_law_ 701 = .ok (.iconst 0, 1) := by decide +kernel
theorem dL_law__702 : decode cL_law_ 702 = .ok (.ireturn, 1) := by decide +kernel
theorem dL_law__703 : decode cL_law_ 703 = .ok (.iload 5, 2) := by decide +kernel
theorem dL_law__705 : decode cL_law_ 705 = .ok (.ifCond .ne 15, 3) := by decide +kernel
theorem dL_law__708 : decode cL_law_ 708 = .ok (.aload_n 3, 1) := by decide +kernel
theorem dL_law__709 : decode cL_law_ 709 = .ok (.iconst 0, 1) := by decide +kernel
theorem dL_law__710 : decode cL_law_ 710 = .ok (.laload, 1) := by decide +kernel
theorem dL_law__711 : decode cL_law_ 711 = .ok (.iload 6, 2) := by decide +kernel
theorem dL_law__713 : decode cL_law_ 713 = .ok (.i2l, 1) := by decide +kernel
theorem dL_law__714 : decode cL_law_ 714 = .ok (.lcmp, 1) := by decide +kernel
theorem dL_law__715 : decode cL_law_ 715 = .ok (.ifCond .eq 5, 3) := by decide +kernel
theorem dL_law__718 : decode cL_law_ 718 = .ok (.iconst 0, 1) := by decide +kernel
theorem dL_law__719 : decode cL_law_ 719 = .ok (.ireturn, 1) := by decide +kernel
theorem dL_law__720 : decode cL_law_ 720 = .ok (.goto 1306, 3) := by decide +kernel
theorem dL_law__723 : decode cL_law_ 723 = .ok (.aload_n 1, 1) := by decide +kernel
theorem dL_law__724 : decode cL_law_ 724 = .ok (.aload_n 0, 1) := by decide +kernel
theorem dL_law__725 : decode cL_law_ 725 = .ok (.iload 4, 2) := by decide +kernel
theorem dL_law__727 : decode cL_law_ 727 = .ok (.iconst 1, 1) := by decide +kernel
theorem dL_law__728 : decode cL_law_ 728 = .ok (.iadd, 1) := by decide +kernel
theorem dL_law__729 : decode cL_law_ 729 = .ok (.iaload, 1) := by decide +kernel
theorem dL_law__730 : decode cL_law_ 730 = .ok (.aload_n 0, 1) := by decide +kernel
theorem dL_law__731 : decode cL_law_ 731 = .ok (.iload 4, 2) := by decide +kernel
theorem dL_law__733 : decode cL_law_ 733 = .ok (.iconst 2, 1) := by decide +kernel
theorem dL_law__734 : decode cL_law_ 734 = .ok (.iadd, 1) := by decide +kernel
theorem dL_law__735 : decode cL_law_ 735 = .ok (.iaload, 1) := by decide +kernel
theorem dL_law__736 : decode cL_law_ 736 = .ok (.aload_n 0, 1) := by decide +kernel
theorem dL_law__737 : decode cL_law_ 737 = .ok (.iload 4, 2) := by decide +kernel
theorem dL_law__739 : decode cL_law_ 739 = .ok (.iconst 3, 1) := by decide +kernel
theorem dL_law__740 : decode cL_law_ 740 = .ok (.iadd, 1) := by decide +kernel
theorem dL_law__741 : decode cL_law_ 741 = .ok (.iaload, 1) := by decide +kernel
theorem dL_law__742 : decode cL_law_ 742 = .ok (.aload_n 0, 1) := by decide +kernel
theorem dL_law__743 : decode cL_law_ 743 = .ok (.iload 4, 2) := by decide +kernel
theorem dL_law__745 : decode cL_law_ 745 = .ok (.iconst 4, 1) := by decide +kernel
theorem dL_law__746 : decode cL_law_ 746 = .ok (.iadd, 1) := by decide +kernel
theorem dL_law__747 : decode cL_law_ 747 = .ok (.iaload, 1) := by decide +kernel
theorem dL_law__748 : decode cL_law_ 748 = .ok (.aload_n 3, 1) := by decide +kernel
theorem dL_law__749 : decode cL_law_ 749 = .ok (.invokestatic 138, 3) := by decide +kernel
theorem dL_law__752 : decode cL_law_ 752 = .ok (.istore 5, 2) := by decide +kernel
theorem dL_law__754 : decode cL_law_ 754 = .ok (.aload_n 2, 1) := by decide +kernel
theorem dL_law__755 : decode cL_law_ 755 = .ok (.aload_n 0, 1) := by decide +kernel
theorem dL_law__756 : decode cL_law_ 756 = .ok (.iload 4, 2) := by decide +kernel
theorem dL_law__758 : decode cL_law_ 758 = .ok (.iconst 1, 1) := by decide +kernel
theorem dL_law__759 : decode cL_law_ 759 = .ok (.iadd, 1) := by decide +kernel
theorem dL_law__760 : decode cL_law_ 760 = .ok (.iaload, 1) := by decide +kernel
theorem dL_law__761 : decode cL_law_ 761 = .ok (.aload_n 0, 1) := by decide +kernel
theorem dL_law__762 : decode cL_law_ 762 = .ok (.iload 4, 2) := by decide +kernel
theorem dL_law__764 : decode cL_law_ 764 = .ok (.iconst 2, 1) := by decide +kernel
theorem dL_law__765 : decode cL_law_ 765 = .ok (.iadd, 1) := by decide +kernel
theorem dL_law__766 : decode cL_law_ 766 = .ok (.iaload, 1) := by decide +kernel
theorem dL_law__767 : decode cL_law_ 767 = .ok (.aload_n 0, 1) := by decide +kernel
theorem dL_law__768 : decode cL_law_ 768 = .ok (.iload 4, 2) := by decide +kernel
theorem dL_law__770 : decode cL_law_ 770 = .ok (.iconst 3, 1) := by decide +kernel
theorem dL_law__771 : decode cL_law_ 771 = .ok (.iadd, 1) := by decide +kernel
theorem dL_law__772 : decode cL_law_ 772 = .ok (.iaload, 1) := by decide +kernel
theorem dL_law__773 : decode cL_law_ 773 = .ok (.aload_n 0, 1) := by decide +kernel
theorem dL_law__774 : decode cL_law_ 774 = .ok (.iload 4, 2) := by decide +kernel
theorem dL_law__776 : decode cL_law_ 776 = .ok (.iconst 4, 1) := by decide +kernel
theorem dL_law__777 : decode cL_law_ 777 = .ok (.iadd, 1) := by decide +kernel
theorem dL_law__778 : decode cL_law_ 778 = .ok (.iaload, 1) := by decide +kernel
theorem dL_law__779 : decode cL_law_ 779 = .ok (.invokevirtual 140, 3) := by decide +kernel
theorem dL_law__782 : decode cL_law_ 782 = .ok (.istore 6, 2) := by decide +kernel
theorem dL_law__784 : decode cL_law_ 784 = .ok (.aload_n 2, 1) := by decide +kernel
theorem dL_law__785 : decode cL_law_ 785 = .ok (.invokevirtual 112, 3) := by decide +kernel
theorem dL_law__788 : decode cL_law_ 788 = .ok (.iload 5, 2) := by decide +kernel
theorem dL_law__790 : decode cL_law_ 790 = .ok (.if_icmp .eq 5, 3) := by decide +kernel
theorem dL_law__793 : decode cL_law_ 793 = .ok (.iconst 0, 1) := by decide +kernel
theorem dL_law__794 : decode cL_law_ 794 = .ok (.ireturn, 1) := by decide +kernel
theorem dL_law__795 : decode cL_law_ 795 = .ok (.iload 5, 2) := by decide +kernel
theorem dL_law__797 : decode cL_law_ 797 = .ok (.ifCond .ne 15, 3) := by decide +kernel
theorem dL_law__800 : decode cL_law_ 800 = .ok (.aload_n 3, 1) := by decide +kernel
theorem dL_law__801 : decode cL_law_ 801 = .ok (.iconst 0, 1) := by decide +kernel
theorem dL_law__802 : decode cL_law_ 802 = .ok (.laload, 1) := by decide +kernel
theorem dL_law__803 : decode cL_law_ 803 = .ok (.iload 6, 2) := by decide +kernel
theorem dL_law__805 : decode cL_law_ 805 = .ok (.i2l, 1) := by decide +kernel
theorem dL_law__806 : decode cL_law_ 806 = .ok (.lcmp, 1) := by decide +kernel
theorem dL_law__807 : decode cL_law_ 807 = .ok (.ifCond .eq 5, 3) := by decide +kernel
theorem dL_law__810 : decode cL_law_ 810 = .ok (.iconst 0, 1) := by decide +kernel
theorem dL_law__811 : decode cL_law_ 811 = .ok (.ireturn, 1) := by decide +kernel
theorem dL_law__812 : decode cL_law_ 812 = .ok (.goto 1214, 3) := by decide +kernel
theorem dL_law__815 : decode cL_law_ 815 = .ok (.aload_n 1, 1) := by decide +kernel
theorem dL_law__816 : decode cL_law_ 816 = .ok (.aload_n 0, 1) := by decide +kernel
theorem dL_law__817 : decode cL_law_ 817 = .ok (.iload 4, 2) := by decide +kernel
theorem dL_law__819 : decode cL_law_ 819 = .ok (.iconst 1, 1) := by decide +kernel
theorem dL_law__820 : decode cL_law_ 820 = .ok (.iadd, 1) := by decide +kernel
theorem dL_law__821 : decode cL_law_ 821 = .ok (.iaload, 1) := by decide +kernel
theorem dL_law__822 : decode cL_law_ 822 = .ok (.aload_n 3, 1) := by decide +kernel
theorem dL_law__823 : decode cL_law_ 823 = .ok (.invokestatic 141, 3) := by decide +kernel
theorem dL_law__826 : decode cL_law_ 826 = .ok (.istore 5, 2) := by decide +kernel
theorem dL_law__828 : decode cL_law_ 828 = .ok (.aload_n 2, 1) := by decide +kernel
theorem dL_law__829 : decode cL_law_ 829 = .ok (.aload_n 0, 1) := by decide +kernel
theorem dL_law__830 : decode cL_law_ 830 = .ok (.iload 4, 2) := by decide +kernel
theorem dL_law__832 : decode cL_law_ 832 = .ok (.iconst 1, 1) := by decide +kernel
theorem dL_law__833 : decode cL_law_ 833 = .ok (.iadd, 1) := by decide +kernel
theorem dL_law__834 : decode cL_law_ 834 = .ok (.iaload, 1) := by decide +kernel
theorem dL_law__835 : decode cL_law_ 835 = .ok (.invokevirtual 144, 3) := by decide +kernel
theorem dL_law__838 : decode cL_law_ 838 = .ok (.istore 6, 2) := by decide +kernel
theorem dL_law__840 : decode cL_law_ 840 = .ok (.aload_n 2, 1) := by decide +kernel
theorem dL_law__841 : decode cL_law_ 841 = .ok (.invokevirtual 112, 3) := by decide +kernel
theorem dL_law__844 : decode cL_law_ 844 = .ok (.iload 5, 2) := by decide +kernel
theorem dL_law__846 : decode cL_law_ 846 = .ok (.if_icmp .eq 5, 3) := by decide +kernel
theorem dL_law__849 : decode cL_law_ 849 = .ok (.iconst 0, 1) := by decide +kernel
theorem dL_law__850 : decode cL_law_ 850 = .ok (.ireturn, 1) := by decide +kernel
theorem dL_law__851 : decode cL_law_ 851 = .ok (.iload 5, 2) := by decide +kernel
theorem dL_law__853 : decode cL_law_ 853 = .ok (.ifCond .ne 15, 3) := by decide +kernel
theorem dL_law__856 : decode cL_law_ 856 = .ok (.aload_n 3, 1) := by decide +kernel
theorem dL_law__857 : decode cL_law_ 857 = .ok (.iconst 0, 1) := by decide +kernel
theorem dL_law__858 : decode cL_law_ 858 = .ok (.laload, 1) := by decide +kernel
theorem dL_law__859 : decode cL_law_ 859 = .ok (.iload 6, 2) := by decide +kernel
theorem dL_law__861 : decode cL_law_ 861 = .ok (.i2l, 1) := by decide +kernel
theorem dL_law__862 : decode cL_law_ 862 = .ok (.lcmp, 1) := by decide +kernel
theorem dL_law__863 : decode cL_law_ 863 = .ok (.ifCond .eq 5, 3) := by decide +kernel
theorem dL_law__866 : decode cL_law_ 866 = .ok (.iconst 0, 1) := by decide +kernel
theorem dL_law__867 : decode cL_law_ 867 = .ok (.ireturn, 1) := by decide +kernel
theorem dL_law__868 : decode cL_law_ 868 = .ok (.goto 1158, 3) := by decide +kernel
theorem dL_law__871 : decode cL_law_ 871 = .ok (.aload_n 1, 1) := by decide +kernel
theorem dL_law__872 : decode cL_law_ 872 = .ok (.aload_n 0, 1) := by decide +kernel
theorem dL_law__873 : decode cL_law_ 873 = .ok (.iload 4, 2) := by decide +kernel
theorem dL_law__875 : decode cL_law_ 875 = .ok (.iconst 1, 1) := by decide +kernel
theorem dL_law__876 : decode cL_law_ 876 = .ok (.iadd, 1) := by decide +kernel
theorem dL_law__877 : decode cL_law_ 877 = .ok (.iaload, 1) := by decide +kernel
theorem dL_law__878 : decode cL_law_ 878 = .ok (.aload_n 0, 1) := by decide +kernel
theorem dL_law__879 : decode cL_law_ 879 = .ok (.iload 4, 2) := by decide +kernel
theorem dL_law__881 : decode cL_law_ 881 = .ok (.iconst 2, 1) := by decide +kernel
theorem dL_law__882 : decode cL_law_ 882 = .ok (.iadd, 1) := by decide +kernel
theorem dL_law__883 : decode cL_law_ 883 = .ok (.iaload, 1) := by decide +kernel
theorem dL_law__884 : decode cL_law_ 884 = .ok (.aload_n 3, 1) := by decide +kernel
theorem dL_law__885 : decode cL_law_ 885 = .ok (.invokestatic 145, 3) := by decide +kernel
theorem dL_law__888 : decode cL_law_ 888 = .ok (.istore 5, 2) := by decide +kernel
theorem dL_law__890 : decode cL_law_ 890 = .ok (.aload_n 2, 1) := by decide +kernel
theorem dL_law__891 : decode cL_law_ 891 = .ok (.aload_n 0, 1) := by decide +kernel
theorem dL_law__892 : decode cL_law_ 892 = .ok (.iload 4, 2) := by decide +kernel
theorem dL_law__894 : decode cL_law_ 894 = .ok (.iconst 1, 1) := by decide +kernel
theorem dL_law__895 : decode cL_law_ 895 = .ok (.iadd, 1) := by decide +kernel
theorem dL_law__896 : decode cL_law_ 896 = .ok (.iaload, 1) := by decide +kernel
theorem dL_law__897 : decode cL_law_ 897 = .ok (.aload_n 0, 1) := by decide +kernel
theorem dL_law__898 : decode cL_law_ 898 = .ok (.iload 4, 2) := by decide +kernel
theorem dL_law__900 : decode cL_law_ 900 = .ok (.iconst 2, 1) := by decide +kernel
theorem dL_law__901 : decode cL_law_ 901 = .ok (.iadd, 1) := by decide +kernel
theorem dL_law__902 : decode cL_law_ 902 = .ok (.iaload, 1) := by decide +kernel
theorem dL_law__903 : decode cL_law_ 903 = .ok (.invokevirtual 147, 3) := by decide +kernel
theorem dL_law__906 : decode cL_law_ 906 = .ok (.istore 6, 2) := by decide +kernel
theorem dL_law__908 : decode cL_law_ 908 = .ok (.aload_n 2, 1) := by decide +kernel
theorem dL_law__909 : decode cL_law_ 909 = .ok (.invokevirtual 112, 3) := by decide +kernel
theorem dL_law__912 : decode cL_law_ 912 = .ok (.iload 5, 2) := by decide +kernel
theorem dL_law__914 : decode cL_law_ 914 = .ok (.if_icmp .eq 5, 3) := by decide +kernel
theorem dL_law__917 : decode cL_law_ 917 = .ok (.iconst 0, 1) := by decide +kernel
theorem dL_law__918 : decode cL_law_ 918 = .ok (.ireturn, 1) := by decide +kernel
theorem dL_law__919 : decode cL_law_ 919 = .ok (.iload 5, 2) := by decide +kernel
theorem dL_law__921 : decode cL_law_ 921 = .ok (.ifCond .ne 15, 3) := by decide +kernel
theorem dL_law__924 : decode cL_law_ 924 = .ok (.aload_n 3, 1) := by decide +kernel
theorem dL_law__925 : decode cL_law_ 925 = .ok (.iconst 0, 1) := by decide +kernel
theorem dL_law__926 : decode cL_law_ 926 = .ok (.laload, 1) := by decide +kernel
theorem dL_law__927 : decode cL_law_ 927 = .ok (.iload 6, 2) := by decide +kernel
theorem dL_law__929 : decode cL_law_ 929 = .ok (.i2l, 1) := by decide +kernel
theorem dL_law__930 : decode cL_law_ 930 = .ok (.lcmp, 1) := by decide +kernel
theorem dL_law__931 : decode cL_law_ 931 = .ok (.ifCond .eq 5, 3) := by decide +kernel
theorem dL_law__934 : decode cL_law_ 934 = .ok (.iconst 0, 1) := by decide +kernel
theorem dL_law__935 : decode cL_law_ 935 = .ok (.ireturn, 1) := by decide +kernel
theorem dL_law__936 : decode cL_law_ 936 = .ok (.goto 1090, 3) := by decide +kernel
theorem dL_law__939 : decode cL_law_ 939 = .ok (.aload_n 1, 1) := by decide +kernel
theorem dL_law__940 : decode cL_law_ 940 = .ok (.aload_n 0, 1) := by decide +kernel
theorem dL_law__941 : decode cL_law_ 941 = .ok (.iload 4, 2) := by decide +kernel
theorem dL_law__943 : decode cL_law_ 943 = .ok (.iconst 1, 1) := by decide +kernel
theorem dL_law__944 : decode cL_law_ 944 = .ok (.iadd, 1) := by decide +kernel
theorem dL_law__945 : decode cL_law_ 945 = .ok (.iaload, 1) := by decide +kernel
theorem dL_law__946 : decode cL_law_ 946 = .ok (.aload_n 0, 1) := by decide +kernel
theorem dL_law__947 : decode cL_law_ 947 = .ok (.iload 4, 2) := by decide +kernel
theorem dL_law__949 : decode cL_law_ 949 = .ok (.iconst 2, 1) := by decide +kernel
theorem dL_law__950 : decode cL_law_ 950 = .ok (.iadd, 1) := by decide +kernel
theorem dL_law__951 : decode cL_law_ 951 = .ok (.iaload, 1) := by decide +kernel
theorem dL_law__952 : decode cL_law_ 952 = .ok (.aload_n 0, 1) := by decide +kernel
theorem dL_law__953 : decode cL_law_ 953 = .ok (.iload 4, 2) := by decide +kernel
theorem dL_law__955 : decode cL_law_ 955 = .ok (.iconst 3, 1) := by decide +kernel
theorem dL_law__956 : decode cL_law_ 956 = .ok (.iadd, 1) := by decide +kernel
theorem dL_law__957 : decode cL_law_ 957 = .ok (.iaload, 1) := by decide +kernel
theorem dL_law__958 : decode cL_law_ 958 = .ok (.aload_n 3, 1) := by decide +kernel
theorem dL_law__959 : decode cL_law_ 959 = .ok (.invokestatic 148, 3) := by decide +kernel
theorem dL_law__962 : decode cL_law_ 962 = .ok (.istore 5, 2) := by decide +kernel
theorem dL_law__964 : decode cL_law_ 964 = .ok (.aload_n 2, 1) := by decide +kernel
theorem dL_law__965 : decode cL_law_ 965 = .ok (.aload_n 0, 1) := by decide +kernel
theorem dL_law__966 : decode cL_law_ 966 = .ok (.iload 4, 2) := by decide +kernel
theorem dL_law__968 : decode cL_law_ 968 = .ok (.iconst 1, 1) := by decide +kernel
theorem dL_law__969 : decode cL_law_ 969 = .ok (.iadd, 1) := by decide +kernel
theorem dL_law__970 : decode cL_law_ 970 = .ok (.iaload, 1) := by decide +kernel
theorem dL_law__971 : decode cL_law_ 971 = .ok (.aload_n 0, 1) := by decide +kernel
theorem dL_law__972 : decode cL_law_ 972 = .ok (.iload 4, 2) := by decide +kernel
theorem dL_law__974 : decode cL_law_ 974 = .ok (.iconst 2, 1) := by decide +kernel
theorem dL_law__975 : decode cL_law_ 975 = .ok (.iadd, 1) := by decide +kernel
theorem dL_law__976 : decode cL_law_ 976 = .ok (.iaload, 1) := by decide +kernel
theorem dL_law__977 : decode cL_law_ 977 = .ok (.aload_n 0, 1) := by decide +kernel
theorem dL_law__978 : decode cL_law_ 978 = .ok (.iload 4, 2) := by decide +kernel
theorem dL_law__980 : decode cL_law_ 980 = .ok (.iconst 3, 1) := by decide +kernel
theorem dL_law__981 : decode cL_law_ 981 = .ok (.iadd, 1) := by decide +kernel
theorem dL_law__982 : decode cL_law_ 982 = .ok (.iaload, 1) := by decide +kernel
theorem dL_law__983 : decode cL_law_ 983 = .ok (.invokevirtual 150, 3) := by decide +kernel
theorem dL_law__986 : decode cL_law_ 986 = .ok (.istore 6, 2) := by decide +kernel
theorem dL_law__988 : decode cL_law_ 988 = .ok (.aload_n 2, 1) := by decide +kernel
theorem dL_law__989 : decode cL_law_ 989 = .ok (.invokevirtual 112, 3) := by decide +kernel
theorem dL_law__992 : decode cL_law_ 992 = .ok (.iload 5, 2) := by decide +kernel
theorem dL_law__994 : decode cL_law_ 994 = .ok (.if_icmp .eq 5, 3) := by decide +kernel
theorem dL_law__997 : decode cL_law_ 997 = .ok (.iconst 0, 1) := by decide +kernel
theorem dL_law__998 : decode cL_law_ 998 = .ok (.ireturn, 1) := by decide +kernel
theorem dL_law__999 : decode cL_law_ 999 = .ok (.iload 5, 2) := by decide +kernel
theorem dL_law__1001 : decode cL_law_ 1001 = .ok (.ifCond .ne 15, 3) := by decide +kernel
theorem dL_law__1004 : decode cL_law_ 1004 = .ok (.aload_n 3, 1) := by decide +kernel
theorem dL_law__1005 : decode cL_law_ 1005 = .ok (.iconst 0, 1) := by decide +kernel
theorem dL_law__1006 : decode cL_law_ 1006 = .ok (.laload, 1) := by decide +kernel
theorem dL_law__1007 : decode cL_law_ 1007 = .ok (.iload 6, 2) := by decide +kernel
theorem dL_law__1009 : decode cL_law_ 1009 = .ok (.i2l, 1) := by decide +kernel
theorem dL_law__1010 : decode cL_law_ 1010 = .ok (.lcmp, 1) := by decide +kernel
theorem dL_law__1011 : decode cL_law_ 1011 = .ok (.ifCond .eq 5, 3) := by decide +kernel
theorem dL_law__1014 : decode cL_law_ 1014 = .ok (.iconst 0, 1) := by decide +kernel
theorem dL_law__1015 : decode cL_law_ 1015 = .ok (.ireturn, 1) := by decide +kernel
theorem dL_law__1016 : decode cL_law_ 1016 = .ok (.goto 1010, 3) := by decide +kernel
theorem dL_law__1019 : decode cL_law_ 1019 = .ok (.aload_n 1, 1) := by decide +kernel
theorem dL_law__1020 : decode cL_law_ 1020 = .ok (.aload_n 0, 1) := by decide +kernel
theorem dL_law__1021 : decode cL_law_ 1021 = .ok (.iload 4, 2) := by decide +kernel
theorem dL_law__1023 : decode cL_law_ 1023 = .ok (.iconst 1, 1) := by decide +kernel
theorem dL_law__1024 : decode cL_law_ 1024 = .ok (.iadd, 1) := by decide +kernel
theorem dL_law__1025 : decode cL_law_ 1025 = .ok (.iaload, 1) := by decide +kernel
theorem dL_law__1026 : decode cL_law_ 1026 = .ok (.aload_n 0, 1) := by decide +kernel
theorem dL_law__1027 : decode cL_law_ 1027 = .ok (.iload 4, 2) := by decide +kernel
theorem dL_law__1029 : decode cL_law_ 1029 = .ok (.iconst 2, 1) := by decide +kernel
theorem dL_law__1030 : decode cL_law_ 1030 = .ok (.iadd, 1) := by decide +kernel
theorem dL_law__1031 : decode cL_law_ 1031 = .ok (.iaload, 1) := by decide +kernel
theorem dL_law__1032 : decode cL_law_ 1032 = .ok (.ifCond .eq 7, 3) := by decide +kernel
theorem dL_law__1035 : decode cL_law_ 1035 = .ok (.iconst 1, 1) := by decide +kernel
theorem dL_law__1036 : decode cL_law_ 1036 = .ok (.goto 4, 3) := by decide +kernel
theorem dL_law__1039 : decode cL_law_ 1039 = .ok (.iconst 0, 1) := by decide +kernel
theorem dL_law__1040 : decode cL_law_ 1040 = .ok (.aload_n 3, 1) := by decide +kernel
theorem dL_law__1041 : decode cL_law_ 1041 = .ok (.invokestatic 151, 3) := by decide +kernel
theorem dL_law__1044 : decode cL_law_ 1044 = .ok (.istore 5, 2) := by decide +kernel
theorem dL_law__1046 : decode cL_law_ 1046 = .ok (.aload_n 2, 1) := by decide +kernel
theorem dL_law__1047 : decode cL_law_ 1047 = .ok (.aload_n 0, 1) := by decide +kernel
theorem dL_law__1048 : decode cL_law_ 1048 = .ok (.iload 4, 2) := by decide +kernel
theorem dL_law__1050 : decode cL_law_ 1050 = .ok (.iconst 1, 1) := by decide +kernel
theorem dL_law__1051 : decode cL_law_ 1051 = .ok (.iadd, 1) := by decide +kernel
theorem dL_law__1052 : decode cL_law_ 1052 = .ok (.iaload, 1) := by decide +kernel
theorem dL_law__1053 : decode cL_law_ 1053 = .ok (.aload_n 0, 1) := by decide +kernel
theorem dL_law__1054 : decode cL_law_ 1054 = .ok (.iload 4, 2) := by decide +kernel
theorem dL_law__1056 : decode cL_law_ 1056 = .ok (.iconst 2, 1) := by decide +kernel
theorem dL_law__1057 : decode cL_law_ 1057 = .ok (.iadd, 1) := by decide +kernel
theorem dL_law__1058 : decode cL_law_ 1058 = .ok (.iaload, 1) := by decide +kernel
theorem dL_law__1059 : decode cL_law_ 1059 = .ok (.ifCond .eq 7, 3) := by decide +kernel
theorem dL_law__1062 : decode cL_law_ 1062 = .ok (.iconst 1, 1) := by decide +kernel
theorem dL_law__1063 : decode cL_law_ 1063 = .ok (.goto 4, 3) := by decide +kernel
theorem dL_law__1066 : decode cL_law_ 1066 = .ok (.iconst 0, 1) := by decide +kernel
theorem dL_law__1067 : decode cL_law_ 1067 = .ok (.invokevirtual 153, 3) := by decide +kernel
theorem dL_law__1070 : decode cL_law_ 1070 = .ok (.istore 6, 2) := by decide +kernel
theorem dL_law__1072 : decode cL_law_ 1072 = .ok (.aload_n 2, 1) := by decide +kernel
theorem dL_law__1073 : decode cL_law_ 1073 = .ok (.invokevirtual 112, 3) := by decide +kernel
theorem dL_law__1076 : decode cL_law_ 1076 = .ok (.iload 5, 2) := by decide +kernel
theorem dL_law__1078 : decode cL_law_ 1078 = .ok (.if_icmp .eq 5, 3) := by decide +kernel
theorem dL_law__1081 : decode cL_law_ 1081 = .ok (.iconst 0, 1) := by decide +kernel
theorem dL_law__1082 : decode cL_law_ 1082 = .ok (.ireturn, 1) := by decide +kernel
theorem dL_law__1083 : decode cL_law_ 1083 = .ok (.iload 5, 2) := by decide +kernel
theorem dL_law__1085 : decode cL_law_ 1085 = .ok (.ifCond .ne 22, 3) := by decide +kernel
theorem dL_law__1088 : decode cL_law_ 1088 = .ok (.aload_n 3, 1) := by decide +kernel
theorem dL_law__1089 : decode cL_law_ 1089 = .ok (.iconst 0, 1) := by decide +kernel
theorem dL_law__1090 : decode cL_law_ 1090 = .ok (.laload, 1) := by decide +kernel
theorem dL_law__1091 : decode cL_law_ 1091 = .ok (.iload 6, 2) := by decide +kernel
theorem dL_law__1093 : decode cL_law_ 1093 = .ok (.ifCond .eq 7, 3) := by decide +kernel
theorem dL_law__1096 : decode cL_law_ 1096 = .ok (.lconst 1, 1) := by decide +kernel
theorem dL_law__1097 : decode cL_law_ 1097 = .ok (.goto 4, 3) := by decide +kernel
theorem dL_law__1100 : decode cL_law_ 1100 = .ok (.lconst 0, 1) := by decide +kernel
theorem dL_law__1101 : decode cL_law_ 1101 = .ok (.lcmp, 1) := by decide +kernel
theorem dL_law__1102 : decode cL_law_ 1102 = .ok (.ifCond .eq 5, 3) := by decide +kernel
theorem dL_law__1105 : decode cL_law_ 1105 = .ok (.iconst 0, 1) := by decide +kernel
theorem dL_law__1106 : decode cL_law_ 1106 = .ok (.ireturn, 1) := by decide +kernel
theorem dL_law__1107 : decode cL_law_ 1107 = .ok (.goto 919, 3) := by decide +kernel
theorem dL_law__1110 : decode cL_law_ 1110 = .ok (.aload_n 1, 1) := by decide +kernel
theorem dL_law__1111 : decode cL_law_ 1111 = .ok (.aload_n 0, 1) := by decide +kernel
theorem dL_law__1112 : decode cL_law_ 1112 = .ok (.iload 4, 2) := by decide +kernel
theorem dL_law__1114 : decode cL_law_ 1114 = .ok (.iconst 1, 1) := by decide +kernel
theorem dL_law__1115 : decode cL_law_ 1115 = .ok (.iadd, 1) := by decide +kernel
theorem dL_law__1116 : decode cL_law_ 1116 = .ok (.iaload, 1) := by decide +kernel
theorem dL_law__1117 : decode cL_law_ 1117 = .ok (.aload_n 0, 1) := by decide +kernel
theorem dL_law__1118 : decode cL_law_ 1118 = .ok (.iload 4, 2) := by decide +kernel
theorem dL_law__1120 : decode cL_law_ 1120 = .ok (.iconst 2, 1) := by decide +kernel
theorem dL_law__1121 : decode cL_law_ 1121 = .ok (.iadd, 1) := by decide +kernel
theorem dL_law__1122 : decode cL_law_ 1122 = .ok (.iaload, 1) := by decide +kernel
theorem dL_law__1123 : decode cL_law_ 1123 = .ok (.aload_n 3, 1) := by decide +kernel
theorem dL_law__1124 : decode cL_law_ 1124 = .ok (.invokestatic 154, 3) := by decide +kernel
theorem dL_law__1127 : decode cL_law_ 1127 = .ok (.istore 5, 2) := by decide +kernel
theorem dL_law__1129 : decode cL_law_ 1129 = .ok (.aload_n 2, 1) := by decide +kernel
theorem dL_law__1130 : decode cL_law_ 1130 = .ok (.aload_n 0, 1) := by decide +kernel
theorem dL_law__1131 : decode cL_law_ 1131 = .ok (.iload 4, 2) := by decide +kernel
theorem dL_law__1133 : decode cL_law_ 1133 = .ok (.iconst 1, 1) := by decide +kernel
theorem dL_law__1134 : decode cL_law_ 1134 = .ok (.iadd, 1) := by decide +kernel
theorem dL_law__1135 : decode cL_law_ 1135 = .ok (.iaload, 1) := by decide +kernel
theorem dL_law__1136 : decode cL_law_ 1136 = .ok (.aload_n 0, 1) := by decide +kernel
theorem dL_law__1137 : decode cL_law_ 1137 = .ok (.iload 4, 2) := by decide +kernel
theorem dL_law__1139 : decode cL_law_ 1139 = .ok (.iconst 2, 1) := by decide +kernel
theorem dL_law__1140 : decode cL_law_ 1140 = .ok (.iadd, 1) := by decide +kernel
theorem dL_law__1141 : decode cL_law_ 1141 = .ok (.iaload, 1) := by decide +kernel
theorem dL_law__1142 : decode cL_law_ 1142 = .ok (.invokevirtual 156, 3) := by decide +kernel
theorem dL_law__1145 : decode cL_law_ 1145 = .ok (.lstore 6, 2) := by decide +kernel
theorem dL_law__1147 : decode cL_law_ 1147 = .ok (.aload_n 2, 1) := by decide +kernel
theorem dL_law__1148 : decode cL_law_ 1148 = .ok (.invokevirtual 112, 3) := by decide +kernel
theorem dL_law__1151 : decode cL_law_ 1151 = .ok (.iload 5, 2) := by decide +kernel
theorem dL_law__1153 : decode cL_law_ 1153 = .ok (.if_icmp .eq 5, 3) := by decide +kernel
theorem dL_law__1156 : decode cL_law_ 1156 = .ok (.iconst 0, 1) := by decide +kernel
theorem dL_law__1157 : decode cL_law_ 1157 = .ok (.ireturn, 1) := by decide +kernel
theorem dL_law__1158 : decode cL_law_ 1158 = .ok (.iload 5, 2) := by decide +kernel
theorem dL_law__1160 : decode cL_law_ 1160 = .ok (.ifCond .ne 14, 3) := by decide +kernel
theorem dL_law__1163 : decode cL_law_ 1163 = .ok (.aload_n 3, 1) := by decide +kernel
theorem dL_law__1164 : decode cL_law_ 1164 = .ok (.iconst 0, 1) := by decide +kernel
theorem dL_law__1165 : decode cL_law_ 1165 = .ok (.laload, 1) := by decide +kernel
theorem dL_law__1166 : decode cL_law_ 1166 = .ok (.lload 6, 2) := by decide +kernel
theorem dL_law__1168 : decode cL_law_ 1168 = .ok (.lcmp, 1) := by decide +kernel
theorem dL_law__1169 : decode cL_law_ 1169 = .ok (.ifCond .eq 5, 3) := by decide +kernel
theorem dL_law__1172 : decode cL_law_ 1172 = .ok (.iconst 0, 1) := by decide +kernel
theorem dL_law__1173 : decode cL_law_ 1173 = .ok (.ireturn, 1) := by decide +kernel
theorem dL_law__1174 : decode cL_law_ 1174 = .ok (.goto 852, 3) := by decide +kernel
theorem dL_law__1177 : decode cL_law_ 1177 = .ok (.aload_n 1, 1) := by decide +kernel
theorem dL_law__1178 : decode cL_law_ 1178 = .ok (.aload_n 0, 1) := by decide +kernel
theorem dL_law__1179 : decode cL_law_ 1179 = .ok (.iload 4, 2) := by decide +kernel
theorem dL_law__1181 : decode cL_law_ 1181 = .ok (.iconst 1, 1) := by decide +kernel
theorem dL_law__1182 : decode cL_law_ 1182 = .ok (.iadd, 1) := by decide +kernel
theorem dL_law__1183 : decode cL_law_ 1183 = .ok (.iaload, 1) := by decide +kernel
theorem dL_law__1184 : decode cL_law_ 1184 = .ok (.aload_n 3, 1) := by decide +kernel
theorem dL_law__1185 : decode cL_law_ 1185 = .ok (.invokestatic 157, 3) := by decide +kernel
theorem dL_law__1188 : decode cL_law_ 1188 = .ok (.istore 5, 2) := by decide +kernel
theorem dL_law__1190 : decode cL_law_ 1190 = .ok (.aload_n 2, 1) := by decide +kernel
theorem dL_law__1191 : decode cL_law_ 1191 = .ok (.aload_n 0, 1) := by decide +kernel
theorem dL_law__1192 : decode cL_law_ 1192 = .ok (.iload 4, 2) := by decide +kernel
theorem dL_law__1194 : decode cL_law_ 1194 = .ok (.iconst 1, 1) := by decide +kernel
theorem dL_law__1195 : decode cL_law_ 1195 = .ok (.iadd, 1) := by decide +kernel
theorem dL_law__1196 : decode cL_law_ 1196 = .ok (.iaload, 1) := by decide +kernel
theorem dL_law__1197 : decode cL_law_ 1197 = .ok (.invokevirtual 159, 3) := by decide +kernel
theorem dL_law__1200 : decode cL_law_ 1200 = .ok (.lstore 6, 2) := by decide +kernel
theorem dL_law__1202 : decode cL_law_ 1202 = .ok (.aload_n 2, 1) := by decide +kernel
theorem dL_law__1203 : decode cL_law_ 1203 = .ok (.invokevirtual 112, 3) := by decide +kernel
theorem dL_law__1206 : decode cL_law_ 1206 = .ok (.iload 5, 2) := by decide +kernel
theorem dL_law__1208 : decode cL_law_ 1208 = .ok (.if_icmp .eq 5, 3) := by decide +kernel
theorem dL_law__1211 : decode cL_law_ 1211 = .ok (.iconst 0, 1) := by decide +kernel
theorem dL_law__1212 : decode cL_law_ 1212 = .ok (.ireturn, 1) := by decide +kernel
theorem dL_law__1213 : decode cL_law_ 1213 = .ok (.iload 5, 2) := by decide +kernel
theorem dL_law__1215 : decode cL_law_ 1215 = .ok (.ifCond .ne 14, 3) := by decide +kernel
theorem dL_law__1218 : decode cL_law_ 1218 = .ok (.aload_n 3, 1) := by decide +kernel
theorem dL_law__1219 : decode cL_law_ 1219 = .ok (.iconst 0, 1) := by decide +kernel
theorem dL_law__1220 : decode cL_law_ 1220 = .ok (.laload, 1) := by decide +kernel
theorem dL_law__1221 : decode cL_law_ 1221 = .ok (.lload 6, 2) := by decide +kernel
theorem dL_law__1223 : decode cL_law_ 1223 = .ok (.lcmp, 1) := by decide +kernel
theorem dL_law__1224 : decode cL_law_ 1224 = .ok (.ifCond .eq 5, 3) := by decide +kernel
theorem dL_law__1227 : decode cL_law_ 1227 = .ok (.iconst 0, 1) := by decide +kernel
theorem dL_law__1228 : decode cL_law_ 1228 = .ok (.ireturn, 1) := by decide +kernel
theorem dL_law__1229 : decode cL_law_ 1229 = .ok (.goto 797, 3) := by decide +kernel
theorem dL_law__1232 : decode cL_law_ 1232 = .ok (.aload_n 1, 1) := by decide +kernel
theorem dL_law__1233 : decode cL_law_ 1233 = .ok (.aload_n 0, 1) := by decide +kernel
theorem dL_law__1234 : decode cL_law_ 1234 = .ok (.iload 4, 2) := by decide +kernel
theorem dL_law__1236 : decode cL_law_ 1236 = .ok (.iconst 1, 1) := by decide +kernel
theorem dL_law__1237 : decode cL_law_ 1237 = .ok (.iadd, 1) := by decide +kernel
theorem dL_law__1238 : decode cL_law_ 1238 = .ok (.iaload, 1) := by decide +kernel
theorem dL_law__1239 : decode cL_law_ 1239 = .ok (.aload_n 0, 1) := by decide +kernel
theorem dL_law__1240 : decode cL_law_ 1240 = .ok (.iload 4, 2) := by decide +kernel
theorem dL_law__1242 : decode cL_law_ 1242 = .ok (.iconst 2, 1) := by decide +kernel
theorem dL_law__1243 : decode cL_law_ 1243 = .ok (.iadd, 1) := by decide +kernel
theorem dL_law__1244 : decode cL_law_ 1244 = .ok (.iaload, 1) := by decide +kernel
theorem dL_law__1245 : decode cL_law_ 1245 = .ok (.aload_n 0, 1) := by decide +kernel
theorem dL_law__1246 : decode cL_law_ 1246 = .ok (.iload 4, 2) := by decide +kernel
theorem dL_law__1248 : decode cL_law_ 1248 = .ok (.iconst 3, 1) := by decide +kernel
theorem dL_law__1249 : decode cL_law_ 1249 = .ok (.iadd, 1) := by decide +kernel
theorem dL_law__1250 : decode cL_law_ 1250 = .ok (.iaload, 1) := by decide +kernel
theorem dL_law__1251 : decode cL_law_ 1251 = .ok (.aload_n 0, 1) := by decide +kernel
theorem dL_law__1252 : decode cL_law_ 1252 = .ok (.iload 4, 2) := by decide +kernel
theorem dL_law__1254 : decode cL_law_ 1254 = .ok (.iconst 4, 1) := by decide +kernel
theorem dL_law__1255 : decode cL_law_ 1255 = .ok (.iadd, 1) := by decide +kernel
theorem dL_law__1256 : decode cL_law_ 1256 = .ok (.iaload, 1) := by decide +kernel
theorem dL_law__1257 : decode cL_law_ 1257 = .ok (.aload_n 3, 1) := by decide +kernel
theorem dL_law__1258 : decode cL_law_ 1258 = .ok (.invokestatic 160, 3) := by decide +kernel
theorem dL_law__1261 : decode cL_law_ 1261 = .ok (.istore 5, 2) := by decide +kernel
theorem dL_law__1263 : decode cL_law_ 1263 = .ok (.aload_n 2, 1) := by decide +kernel
theorem dL_law__1264 : decode cL_law_ 1264 = .ok (.aload_n 0, 1) := by decide +kernel
theorem dL_law__1265 : decode cL_law_ 1265 = .ok (.iload 4, 2) := by decide +kernel
theorem dL_law__1267 : decode cL_law_ 1267 = .ok (.iconst 1, 1) := by decide +kernel
theorem dL_law__1268 : decode cL_law_ 1268 = .ok (.iadd, 1) := by decide +kernel
theorem dL_law__1269 : decode cL_law_ 1269 = .ok (.iaload, 1) := by decide +kernel
theorem dL_law__1270 : decode cL_law_ 1270 = .ok (.aload_n 0, 1) := by decide +kernel
theorem dL_law__1271 : decode cL_law_ 1271 = .ok (.iload 4, 2) := by decide +kernel
theorem dL_law__1273 : decode cL_law_ 1273 = .ok (.iconst 2, 1) := by decide +kernel
theorem dL_law__1274 : decode cL_law_ 1274 = .ok (.iadd, 1) := by decide +kernel
theorem dL_law__1275 : decode cL_law_ 1275 = .ok (.iaload, 1) := by decide +kernel
theorem dL_law__1276 : decode cL_law_ 1276 = .ok (.aload_n 0, 1) := by decide +kernel
theorem dL_law__1277 : decode cL_law_ 1277 = .ok (.iload 4, 2) := by decide +kernel
theorem dL_law__1279 : decode cL_law_ 1279 = .ok (.iconst 3, 1) := by decide +kernel
theorem dL_law__1280 : decode cL_law_ 1280 = .ok (.iadd, 1) := by decide +kernel
theorem dL_law__1281 : decode cL_law_ 1281 = .ok (.iaload, 1) := by decide +kernel
theorem dL_law__1282 : decode cL_law_ 1282 = .ok (.aload_n 0, 1) := by decide +kernel
theorem dL_law__1283 : decode cL_law_ 1283 = .ok (.iload 4, 2) := by decide +kernel
theorem dL_law__1285 : decode cL_law_ 1285 = .ok (.iconst 4, 1) := by decide +kernel
theorem dL_law__1286 : decode cL_law_ 1286 = .ok (.iadd, 1) := by decide +kernel
theorem dL_law__1287 : decode cL_law_ 1287 = .ok (.iaload, 1) := by decide +kernel
theorem dL_law__1288 : decode cL_law_ 1288 = .ok (.invokevirtual 162, 3) := by decide +kernel
theorem dL_law__1291 : decode cL_law_ 1291 = .ok (.istore 6, 2) := by decide +kernel
theorem dL_law__1293 : decode cL_law_ 1293 = .ok (.aload_n 2, 1) := by decide +kernel
theorem dL_law__1294 : decode cL_law_ 1294 = .ok (.invokevirtual 112, 3) := by decide +kernel
theorem dL_law__1297 : decode cL_law_ 1297 = .ok (.iload 5, 2) := by decide +kernel
theorem dL_law__1299 : decode cL_law_ 1299 = .ok (.if_icmp .eq 5, 3) := by decide +kernel
theorem dL_law__1302 : decode cL_law_ 1302 = .ok (.iconst 0, 1) := by decide +kernel
theorem dL_law__1303 : decode cL_law_ 1303 = .ok (.ireturn, 1) := by decide +kernel
theorem dL_law__1304 : decode cL_law_ 1304 = .ok (.iload 5, 2) := by decide +kernel
theorem dL_law__1306 : decode cL_law_ 1306 = .ok (.ifCond .ne 15, 3) := by decide +kernel
theorem dL_law__1309 : decode cL_law_ 1309 = .ok (.aload_n 3, 1) := by decide +kernel
theorem dL_law__1310 : decode cL_law_ 1310 = .ok (.iconst 0, 1) := by decide +kernel
theorem dL_law__1311 : decode cL_law_ 1311 = .ok (.laload, 1) := by decide +kernel
theorem dL_law__1312 : decode cL_law_ 1312 = .ok (.iload 6, 2) := by decide +kernel
theorem dL_law__1314 : decode cL_law_ 1314 = .ok (.i2l, 1) := by decide +kernel
theorem dL_law__1315 : decode cL_law_ 1315 = .ok (.lcmp, 1) := by decide +kernel
theorem dL_law__1316 : decode cL_law_ 1316 = .ok (.ifCond .eq 5, 3) := by decide +kernel
theorem dL_law__1319 : decode cL_law_ 1319 = .ok (.iconst 0, 1) := by decide +kernel
theorem dL_law__1320 : decode cL_law_ 1320 = .ok (.ireturn, 1) := by decide +kernel
theorem dL_law__1321 : decode cL_law_ 1321 = .ok (.goto 705, 3) := by decide +kernel
theorem dL_law__1324 : decode cL_law_ 1324 = .ok (.aload_n 1, 1) := by decide +kernel
theorem dL_law__1325 : decode cL_law_ 1325 = .ok (.aload_n 0, 1) := by decide +kernel
theorem dL_law__1326 : decode cL_law_ 1326 = .ok (.iload 4, 2) := by decide +kernel
theorem dL_law__1328 : decode cL_law_ 1328 = .ok (.iconst 1, 1) := by decide +kernel
theorem dL_law__1329 : decode cL_law_ 1329 = .ok (.iadd, 1) := by decide +kernel
theorem dL_law__1330 : decode cL_law_ 1330 = .ok (.iaload, 1) := by decide +kernel
theorem dL_law__1331 : decode cL_law_ 1331 = .ok (.aload_n 3, 1) := by decide +kernel
theorem dL_law__1332 : decode cL_law_ 1332 = .ok (.invokestatic 163, 3) := by decide +kernel
theorem dL_law__1335 : decode cL_law_ 1335 = .ok (.istore 5, 2) := by decide +kernel
theorem dL_law__1337 : decode cL_law_ 1337 = .ok (.aload_n 2, 1) := by decide +kernel
theorem dL_law__1338 : decode cL_law_ 1338 = .ok (.aload_n 0, 1) := by decide +kernel
theorem dL_law__1339 : decode cL_law_ 1339 = .ok (.iload 4, 2) := by decide +kernel
theorem dL_law__1341 : decode cL_law_ 1341 = .ok (.iconst 1, 1) := by decide +kernel
theorem dL_law__1342 : decode cL_law_ 1342 = .ok (.iadd, 1) := by decide +kernel
theorem dL_law__1343 : decode cL_law_ 1343 = .ok (.iaload, 1) := by decide +kernel
theorem dL_law__1344 : decode cL_law_ 1344 = .ok (.invokevirtual 165, 3) := by decide +kernel
theorem dL_law__1347 : decode cL_law_ 1347 = .ok (.istore 6, 2) := by decide +kernel
theorem dL_law__1349 : decode cL_law_ 1349 = .ok (.aload_n 2, 1) := by decide +kernel
theorem dL_law__1350 : decode cL_law_ 1350 = .ok (.invokevirtual 112, 3) := by decide +kernel
theorem dL_law__1353 : decode cL_law_ 1353 = .ok (.iload 5, 2) := by decide +kernel
theorem dL_law__1355 : decode cL_law_ 1355 = .ok (.if_icmp .eq 5, 3) := by decide +kernel
theorem dL_law__1358 : decode cL_law_ 1358 = .ok (.iconst 0, 1) := by decide +kernel
theorem dL_law__1359 : decode cL_law_ 1359 = .ok (.ireturn, 1) := by decide +kernel
theorem dL_law__1360 : decode cL_law_ 1360 = .ok (.iload 5, 2) := by decide +kernel
theorem dL_law__1362 : decode cL_law_ 1362 = .ok (.ifCond .ne 22, 3) := by decide +kernel
theorem dL_law__1365 : decode cL_law_ 1365 = .ok (.aload_n 3, 1) := by decide +kernel
theorem dL_law__1366 : decode cL_law_ 1366 = .ok (.iconst 0, 1) := by decide +kernel
theorem dL_law__1367 : decode cL_law_ 1367 = .ok (.laload, 1) := by decide +kernel
theorem dL_law__1368 : decode cL_law_ 1368 = .ok (.iload 6, 2) := by decide +kernel
theorem dL_law__1370 : decode cL_law_ 1370 = .ok (.ifCond .eq 7, 3) := by decide +kernel
theorem dL_law__1373 : decode cL_law_ 1373 = .ok (.lconst 1, 1) := by decide +kernel
theorem dL_law__1374 : decode cL_law_ 1374 = .ok (.goto 4, 3) := by decide +kernel
theorem dL_law__1377 : decode cL_law_ 1377 = .ok (.lconst 0, 1) := by decide +kernel
theorem dL_law__1378 : decode cL_law_ 1378 = .ok (.lcmp, 1) := by decide +kernel
theorem dL_law__1379 : decode cL_law_ 1379 = .ok (.ifCond .eq 5, 3) := by decide +kernel
theorem dL_law__1382 : decode cL_law_ 1382 = .ok (.iconst 0, 1) := by decide +kernel
theorem dL_law__1383 : decode cL_law_ 1383 = .ok (.ireturn, 1) := by decide +kernel
theorem dL_law__1384 : decode cL_law_ 1384 = .ok (.goto 642, 3) := by decide +kernel
theorem dL_law__1387 : decode cL_law_ 1387 = .ok (.aload_n 1, 1) := by decide +kernel
theorem dL_law__1388 : decode cL_law_ 1388 = .ok (.aload_n 0, 1) := by decide +kernel
theorem dL_law__1389 : decode cL_law_ 1389 = .ok (.iload 4, 2) := by decide +kernel
theorem dL_law__1391 : decode cL_law_ 1391 = .ok (.iconst 1, 1) := by decide +kernel
theorem dL_law__1392 : decode cL_law_ 1392 = .ok (.iadd, 1) := by decide +kernel
theorem dL_law__1393 : decode cL_law_ 1393 = .ok (.iaload, 1) := by decide +kernel
theorem dL_law__1394 : decode cL_law_ 1394 = .ok (.aload_n 0, 1) := by decide +kernel
theorem dL_law__1395 : decode cL_law_ 1395 = .ok (.iload 4, 2) := by decide +kernel
theorem dL_law__1397 : decode cL_law_ 1397 = .ok (.iconst 2, 1) := by decide +kernel
theorem dL_law__1398 : decode cL_law_ 1398 = .ok (.iadd, 1) := by decide +kernel
theorem dL_law__1399 : decode cL_law_ 1399 = .ok (.iaload, 1) := by decide +kernel
theorem dL_law__1400 : decode cL_law_ 1400 = .ok (.aload_n 0, 1) := by decide +kernel
theorem dL_law__1401 : decode cL_law_ 1401 = .ok (.iload 4, 2) := by decide +kernel
theorem dL_law__1403 : decode cL_law_ 1403 = .ok (.iconst 3, 1) := by decide +kernel
theorem dL_law__1404 : decode cL_law_ 1404 = .ok (.iadd, 1) := by decide +kernel
theorem dL_law__1405 : decode cL_law_ 1405 = .ok (.iaload, 1) := by decide +kernel
theorem dL_law__1406 : decode cL_law_ 1406 = .ok (.ifCond .eq 7, 3) := by decide +kernel
theorem dL_law__1409 : decode cL_law_ 1409 = .ok (.iconst 1, 1) := by decide +kernel
theorem dL_law__1410 : decode cL_law_ 1410 = .ok (.goto 4, 3) := by decide +kernel
theorem dL_law__1413 : decode cL_law_ 1413 = .ok (.iconst 0, 1) := by decide +kernel
theorem dL_law__1414 : decode cL_law_ 1414 = .ok (.aload_n 3, 1) := by decide +kernel
theorem dL_law__1415 : decode cL_law_ 1415 = .ok (.invokestatic 166, 3) := by decide +kernel
theorem dL_law__1418 : decode cL_law_ 1418 = .ok (.istore 5, 2) := by decide +kernel
theorem dL_law__1420 : decode cL_law_ 1420 = .ok (.aload_n 2, 1) := by decide +kernel
theorem dL_law__1421 : decode cL_law_ 1421 = .ok (.aload_n 0, 1) := by decide +kernel
theorem dL_law__1422 : decode cL_law_ 1422 = .ok (.iload 4, 2) := by decide +kernel
theorem dL_law__1424 : decode cL_law_ 1424 = .ok (.iconst 1, 1) := by decide +kernel
theorem dL_law__1425 : decode cL_law_ 1425 = .ok (.iadd, 1) := by decide +kernel
theorem dL_law__1426 : decode cL_law_ 1426 = .ok (.iaload, 1) := by decide +kernel
theorem dL_law__1427 : decode cL_law_ 1427 = .ok (.aload_n 0, 1) := by decide +kernel
theorem dL_law__1428 : decode cL_law_ 1428 = .ok (.iload 4, 2) := by decide +kernel
theorem dL_law__1430 : decode cL_law_ 1430 = .ok (.iconst 2, 1) := by decide +kernel
theorem dL_law__1431 : decode cL_law_ 1431 = .ok (.iadd, 1) := by decide +kernel
theorem dL_law__1432 : decode cL_law_ 1432 = .ok (.iaload, 1) := by decide +kernel
theorem dL_law__1433 : decode cL_law_ 1433 = .ok (.aload_n 0, 1) := by decide +kernel
theorem dL_law__1434 : decode cL_law_ 1434 = .ok (.iload 4, 2) := by decide +kernel
theorem dL_law__1436 : decode cL_law_ 1436 = .ok (.iconst 3, 1) := by decide +kernel
theorem dL_law__1437 : decode cL_law_ 1437 = .ok (.iadd, 1) := by decide +kernel
theorem dL_law__1438 : decode cL_law_ 1438 = .ok (.iaload, 1) := by decide +kernel
theorem dL_law__1439 : decode cL_law_ 1439 = .ok (.ifCond .eq 7, 3) := by decide +kernel
theorem dL_law__1442 : decode cL_law_ 1442 = .ok (.iconst 1, 1) := by decide +kernel
theorem dL_law__1443 : decode cL_law_ 1443 = .ok (.goto 4, 3) := by decide +kernel
theorem dL_law__1446 : decode cL_law_ 1446 = .ok (.iconst 0, 1) := by decide +kernel
theorem dL_law__1447 : decode cL_law_ 1447 = .ok (.invokevirtual 169, 3) := by decide +kernel
theorem dL_law__1450 : decode cL_law_ 1450 = .ok (.istore 6, 2) := by decide +kernel
theorem dL_law__1452 : decode cL_law_ 1452 = .ok (.aload_n 2, 1) := by decide +kernel
theorem dL_law__1453 : decode cL_law_ 1453 = .ok (.invokevirtual 112, 3) := by decide +kernel
theorem dL_law__1456 : decode cL_law_ 1456 = .ok (.iload 5, 2) := by decide +kernel
theorem dL_law__1458 : decode cL_law_ 1458 = .ok (.if_icmp .eq 5, 3) := by decide +kernel
theorem dL_law__1461 : decode cL_law_ 1461 = .ok (.iconst 0, 1) := by decide +kernel
theorem dL_law__1462 : decode cL_law_ 1462 = .ok (.ireturn, 1) := by decide +kernel
theorem dL_law__1463 : decode cL_law_ 1463 = .ok (.iload 5, 2) := by decide +kernel
theorem dL_law__1465 : decode cL_law_ 1465 = .ok (.ifCond .ne 15, 3) := by decide +kernel
theorem dL_law__1468 : decode cL_law_ 1468 = .ok (.aload_n 3, 1) := by decide +kernel
theorem dL_law__1469 : decode cL_law_ 1469 = .ok (.iconst 0, 1) := by decide +kernel
theorem dL_law__1470 : decode cL_law_ 1470 = .ok (.laload, 1) := by decide +kernel
theorem dL_law__1471 : decode cL_law_ 1471 = .ok (.iload 6, 2) := by decide +kernel
theorem dL_law__1473 : decode cL_law_ 1473 = .ok (.i2l, 1) := by decide +kernel
theorem dL_law__1474 : decode cL_law_ 1474 = .ok (.lcmp, 1) := by decide +kernel
theorem dL_law__1475 : decode cL_law_ 1475 = .ok (.ifCond .eq 5, 3) := by decide +kernel
theorem dL_law__1478 : decode cL_law_ 1478 = .ok (.iconst 0, 1) := by decide +kernel
theorem dL_law__1479 : decode cL_law_ 1479 = .ok (.ireturn, 1) := by decide +kernel
theorem dL_law__1480 : decode cL_law_ 1480 = .ok (.goto 546, 3) := by decide +kernel
theorem dL_law__1483 : decode cL_law_ 1483 = .ok (.aload_n 1, 1) := by decide +kernel
theorem dL_law__1484 : decode cL_law_ 1484 = .ok (.aload_n 0, 1) := by decide +kernel
theorem dL_law__1485 : decode cL_law_ 1485 = .ok (.iload 4, 2) := by decide +kernel
theorem dL_law__1487 : decode cL_law_ 1487 = .ok (.iconst 1, 1) := by decide +kernel
theorem dL_law__1488 : decode cL_law_ 1488 = .ok (.iadd, 1) := by decide +kernel
theorem dL_law__1489 : decode cL_law_ 1489 = .ok (.iaload, 1) := by decide +kernel
theorem dL_law__1490 : decode cL_law_ 1490 = .ok (.aload_n 3, 1) := by decide +kernel
theorem dL_law__1491 : decode cL_law_ 1491 = .ok (.invokestatic 170, 3) := by decide +kernel
theorem dL_law__1494 : decode cL_law_ 1494 = .ok (.istore 5, 2) := by decide +kernel
theorem dL_law__1496 : decode cL_law_ 1496 = .ok (.aload_n 2, 1) := by decide +kernel
theorem dL_law__1497 : decode cL_law_ 1497 = .ok (.aload_n 0, 1) := by decide +kernel
theorem dL_law__1498 : decode cL_law_ 1498 = .ok (.iload 4, 2) := by decide +kernel
theorem dL_law__1500 : decode cL_law_ 1500 = .ok (.iconst 1, 1) := by decide +kernel
theorem dL_law__1501 : decode cL_law_ 1501 = .ok (.iadd, 1) := by decide +kernel
theorem dL_law__1502 : decode cL_law_ 1502 = .ok (.iaload, 1) := by decide +kernel
theorem dL_law__1503 : decode cL_law_ 1503 = .ok (.invokevirtual 172, 3) := by decide +kernel
theorem dL_law__1506 : decode cL_law_ 1506 = .ok (.istore 6, 2) := by decide +kernel
theorem dL_law__1508 : decode cL_law_ 1508 = .ok (.aload_n 2, 1) := by decide +kernel
theorem dL_law__1509 : decode cL_law_ 1509 = .ok (.invokevirtual 112, 3) := by decide +kernel
theorem dL_law__1512 : decode cL_law_ 1512 = .ok (.iload 5, 2) := by decide +kernel
theorem dL_law__1514 : decode cL_law_ 1514 = .ok (.if_icmp .eq 5, 3) := by decide +kernel
theorem dL_law__1517 : decode cL_law_ 1517 = .ok (.iconst 0, 1) := by decide +kernel
theorem dL_law__1518 : decode cL_law_ 1518 = .ok (.ireturn, 1) := by decide +kernel
theorem dL_law__1519 : decode cL_law_ 1519 = .ok (.iload 5, 2) := by decide +kernel
theorem dL_law__1521 : decode cL_law_ 1521 = .ok (.ifCond .ne 22, 3) := by decide +kernel
theorem dL_law__1524 : decode cL_law_ 1524 = .ok (.aload_n 3, 1) := by decide +kernel
theorem dL_law__1525 : decode cL_law_ 1525 = .ok (.iconst 0, 1) := by decide +kernel
theorem dL_law__1526 : decode cL_law_ 1526 = .ok (.laload, 1) := by decide +kernel
theorem dL_law__1527 : decode cL_law_ 1527 = .ok (.iload 6, 2) := by decide +kernel
theorem dL_law__1529 : decode cL_law_ 1529 = .ok (.ifCond .eq 7, 3) := by decide +kernel
theorem dL_law__1532 : decode cL_law_ 1532 = .ok (.lconst 1, 1) := by decide +kernel
theorem dL_law__1533 : decode cL_law_ 1533 = .ok (.goto 4, 3) := by decide +kernel
theorem dL_law__1536 : decode cL_law_ 1536 = .ok (.lconst 0, 1) := by decide +kernel
theorem dL_law__1537 : decode cL_law_ 1537 = .ok (.lcmp, 1) := by decide +kernel
theorem dL_law__1538 : decode cL_law_ 1538 = .ok (.ifCond .eq 5, 3) := by decide +kernel
theorem dL_law__1541 : decode cL_law_ 1541 = .ok (.iconst 0, 1) := by decide +kernel
theorem dL_law__1542 : decode cL_law_ 1542 = .ok (.ireturn, 1) := by decide +kernel
theorem dL_law__1543 : decode cL_law_ 1543 = .ok (.goto 483, 3) := by decide +kernel
theorem dL_law__1546 : decode cL_law_ 1546 = .ok (.aload_n 1, 1) := by decide +kernel
theorem dL_law__1547 : decode cL_law_ 1547 = .ok (.aload_n 0, 1) := by decide +kernel
theorem dL_law__1548 : decode cL_law_ 1548 = .ok (.iload 4, 2) := by decide +kernel
theorem dL_law__1550 : decode cL_law_ 1550 = .ok (.iconst 1, 1) := by decide +kernel
theorem dL_law__1551 : decode cL_law_ 1551 = .ok (.iadd, 1) := by decide +kernel
theorem dL_law__1552 : decode cL_law_ 1552 = .ok (.iaload, 1) := by decide +kernel
theorem dL_law__1553 : decode cL_law_ 1553 = .ok (.aload_n 3, 1) := by decide +kernel
theorem dL_law__1554 : decode cL_law_ 1554 = .ok (.invokestatic 173, 3) := by decide +kernel
theorem dL_law__1557 : decode cL_law_ 1557 = .ok (.istore 5, 2) := by decide +kernel
theorem dL_law__1559 : decode cL_law_ 1559 = .ok (.aload_n 2, 1) := by decide +kernel
theorem dL_law__1560 : decode cL_law_ 1560 = .ok (.aload_n 0, 1) := by decide +kernel
theorem dL_law__1561 : decode cL_law_ 1561 = .ok (.iload 4, 2) := by decide +kernel
theorem dL_law__1563 : decode cL_law_ 1563 = .ok (.iconst 1, 1) := by decide +kernel
theorem dL_law__1564 : decode cL_law_ 1564 = .ok (.iadd, 1) := by decide +kernel
theorem dL_law__1565 : decode cL_law_ 1565 = .ok (.iaload, 1) := by decide +kernel
theorem dL_law__1566 : decode cL_law_ 1566 = .ok (.invokevirtual 175, 3) := by decide +kernel
theorem dL_law__1569 : decode cL_law_ 1569 = .ok (.istore 6, 2) := by decide +kernel
theorem dL_law__1571 : decode cL_law_ 1571 = .ok (.aload_n 2, 1) := by decide +kernel
theorem dL_law__1572 : decode cL_law_ 1572 = .ok (.invokevirtual 112, 3) := by decide +kernel
theorem dL_law__1575 : decode cL_law_ 1575 = .ok (.iload 5, 2) := by decide +kernel
theorem dL_law__1577 : decode cL_law_ 1577 = .ok (.if_icmp .eq 5, 3) := by decide +kernel
theorem dL_law__1580 : decode cL_law_ 1580 = .ok (.iconst 0, 1) := by decide +kernel
theorem dL_law__1581 : decode cL_law_ 1581 = .ok (.ireturn, 1) := by decide +kernel
theorem dL_law__1582 : decode cL_law_ 1582 = .ok (.iload 5, 2) := by decide +kernel
theorem dL_law__1584 : decode cL_law_ 1584 = .ok (.ifCond .ne 22, 3) := by decide +kernel
theorem dL_law__1587 : decode cL_law_ 1587 = .ok (.aload_n 3, 1) := by decide +kernel
theorem dL_law__1588 : decode cL_law_ 1588 = .ok (.iconst 0, 1) := by decide +kernel
theorem dL_law__1589 : decode cL_law_ 1589 = .ok (.laload, 1) := by decide +kernel
theorem dL_law__1590 : decode cL_law_ 1590 = .ok (.iload 6, 2) := by decide +kernel
theorem dL_law__1592 : decode cL_law_ 1592 = .ok (.ifCond .eq 7, 3) := by decide +kernel
theorem dL_law__1595 : decode cL_law_ 1595 = .ok (.lconst 1, 1) := by decide +kernel
theorem dL_law__1596 : decode cL_law_ 1596 = .ok (.goto 4, 3) := by decide +kernel
theorem dL_law__1599 : decode cL_law_ 1599 = .ok (.lconst 0, 1) := by decide +kernel
theorem dL_law__1600 : decode cL_law_ 1600 = .ok (.lcmp, 1) := by decide +kernel
theorem dL_law__1601 : decode cL_law_ 1601 = .ok (.ifCond .eq 5, 3) := by decide +kernel
theorem dL_law__1604 : decode cL_law_ 1604 = .ok (.iconst 0, 1) := by decide +kernel
theorem dL_law__1605 : decode cL_law_ 1605 = .ok (.ireturn, 1) := by decide +kernel
theorem dL_law__1606 : decode cL_law_ 1606 = .ok (.goto 420, 3) := by decide +kernel
theorem dL_law__1609 : decode cL_law_ 1609 = .ok (.aload_n 1, 1) := by decide +kernel
theorem dL_law__1610 : decode cL_law_ 1610 = .ok (.aload_n 0, 1) := by decide +kernel
theorem dL_law__1611 : decode cL_law_ 1611 = .ok (.iload 4, 2) := by decide +kernel
theorem dL_law__1613 : decode cL_law_ 1613 = .ok (.iconst 1, 1) := by decide +kernel
theorem dL_law__1614 : decode cL_law_ 1614 = .ok (.iadd, 1) := by decide +kernel
theorem dL_law__1615 : decode cL_law_ 1615 = .ok (.iaload, 1) := by decide +kernel
theorem dL_law__1616 : decode cL_law_ 1616 = .ok (.aload_n 3, 1) := by decide +kernel
theorem dL_law__1617 : decode cL_law_ 1617 = .ok (.invokestatic 176, 3) := by decide +kernel
theorem dL_law__1620 : decode cL_law_ 1620 = .ok (.istore 5, 2) := by decide +kernel
theorem dL_law__1622 : decode cL_law_ 1622 = .ok (.aload_n 2, 1) := by decide +kernel
theorem dL_law__1623 : decode cL_law_ 1623 = .ok (.aload_n 0, 1) := by decide +kernel
theorem dL_law__1624 : decode cL_law_ 1624 = .ok (.iload 4, 2) := by decide +kernel
theorem dL_law__1626 : decode cL_law_ 1626 = .ok (.iconst 1, 1) := by decide +kernel
theorem dL_law__1627 : decode cL_law_ 1627 = .ok (.iadd, 1) := by decide +kernel
theorem dL_law__1628 : decode cL_law_ 1628 = .ok (.iaload, 1) := by decide +kernel
theorem dL_law__1629 : decode cL_law_ 1629 = .ok (.invokevirtual 178, 3) := by decide +kernel
theorem dL_law__1632 : decode cL_law_ 1632 = .ok (.lstore 6, 2) := by decide +kernel
theorem dL_law__1634 : decode cL_law_ 1634 = .ok (.aload_n 2, 1) := by decide +kernel
theorem dL_law__1635 : decode cL_law_ 1635 = .ok (.invokevirtual 112, 3) := by decide +kernel
theorem dL_law__1638 : decode cL_law_ 1638 = .ok (.iload 5, 2) := by decide +kernel
theorem dL_law__1640 : decode cL_law_ 1640 = .ok (.if_icmp .eq 5, 3) := by decide +kernel
theorem dL_law__1643 : decode cL_law_ 1643 = .ok (.iconst 0, 1) := by decide +kernel
theorem dL_law__1644 : decode cL_law_ 1644 = .ok (.ireturn, 1) := by decide +kernel
theorem dL_law__1645 : decode cL_law_ 1645 = .ok (.iload 5, 2) := by decide +kernel
theorem dL_law__1647 : decode cL_law_ 1647 = .ok (.ifCond .ne 14, 3) := by decide +kernel
theorem dL_law__1650 : decode cL_law_ 1650 = .ok (.aload_n 3, 1) := by decide +kernel
theorem dL_law__1651 : decode cL_law_ 1651 = .ok (.iconst 0, 1) := by decide +kernel
theorem dL_law__1652 : decode cL_law_ 1652 = .ok (.laload, 1) := by decide +kernel
theorem dL_law__1653 : decode cL_law_ 1653 = .ok (.lload 6, 2) := by decide +kernel
theorem dL_law__1655 : decode cL_law_ 1655 = .ok (.lcmp, 1) := by decide +kernel
theorem dL_law__1656 : decode cL_law_ 1656 = .ok (.ifCond .eq 5, 3) := by decide +kernel
theorem dL_law__1659 : decode cL_law_ 1659 = .ok (.iconst 0, 1) := by decide +kernel
theorem dL_law__1660 : decode cL_law_ 1660 = .ok (.ireturn, 1) := by decide +kernel
theorem dL_law__1661 : decode cL_law_ 1661 = .ok (.goto 365, 3) := by decide +kernel
theorem dL_law__1664 : decode cL_law_ 1664 = .ok (.aload_n 1, 1) := by decide +kernel
theorem dL_law__1665 : decode cL_law_ 1665 = .ok (.aload_n 0, 1) := by decide +kernel
theorem dL_law__1666 : decode cL_law_ 1666 = .ok (.iload 4, 2) := by decide +kernel
theorem dL_law__1668 : decode cL_law_ 1668 = .ok (.iconst 1, 1) := by decide +kernel
theorem dL_law__1669 : decode cL_law_ 1669 = .ok (.iadd, 1) := by decide +kernel
theorem dL_law__1670 : decode cL_law_ 1670 = .ok (.iaload, 1) := by decide +kernel
theorem dL_law__1671 : decode cL_law_ 1671 = .ok (.aload_n 0, 1) := by decide +kernel
theorem dL_law__1672 : decode cL_law_ 1672 = .ok (.iload 4, 2) := by decide +kernel
theorem dL_law__1674 : decode cL_law_ 1674 = .ok (.iconst 2, 1) := by decide +kernel
theorem dL_law__1675 : decode cL_law_ 1675 = .ok (.iadd, 1) := by decide +kernel
theorem dL_law__1676 : decode cL_law_ 1676 = .ok (.iaload, 1) := by decide +kernel
theorem dL_law__1677 : decode cL_law_ 1677 = .ok (.aload_n 3, 1) := by decide +kernel
theorem dL_law__1678 : decode cL_law_ 1678 = .ok (.invokestatic 179, 3) := by decide +kernel
theorem dL_law__1681 : decode cL_law_ 1681 = .ok (.istore 5, 2) := by decide +kernel
theorem dL_law__1683 : decode cL_law_ 1683 = .ok (.aload_n 2, 1) := by decide +kernel
theorem dL_law__1684 : decode cL_law_ 1684 = .ok (.aload_n 0, 1) := by decide +kernel
theorem dL_law__1685 : decode cL_law_ 1685 = .ok (.iload 4, 2) := by decide +kernel
theorem dL_law__1687 : decode cL_law_ 1687 = .ok (.iconst 1, 1) := by decide +kernel
theorem dL_law__1688 : decode cL_law_ 1688 = .ok (.iadd, 1) := by decide +kernel
theorem dL_law__1689 : decode cL_law_ 1689 = .ok (.iaload, 1) := by decide +kernel
theorem dL_law__1690 : decode cL_law_ 1690 = .ok (.aload_n 0, 1) := by decide +kernel
theorem dL_law__1691 : decode cL_law_ 1691 = .ok (.iload 4, 2) := by decide +kernel
theorem dL_law__1693 : decode cL_law_ 1693 = .ok (.iconst 2, 1) := by decide +kernel
theorem dL_law__1694 : decode cL_law_ 1694 = .ok (.iadd, 1) := by decide +kernel
theorem dL_law__1695 : decode cL_law_ 1695 = .ok (.iaload, 1) := by decide +kernel
theorem dL_law__1696 : decode cL_law_ 1696 = .ok (.invokevirtual 181, 3) := by decide +kernel
theorem dL_law__1699 : decode cL_law_ 1699 = .ok (.istore 6, 2) := by decide +kernel
theorem dL_law__1701 : decode cL_law_ 1701 = .ok (.aload_n 2, 1) := by decide +kernel
theorem dL_law__1702 : decode cL_law_ 1702 = .ok (.invokevirtual 112, 3) := by decide +kernel
theorem dL_law__1705 : decode cL_law_ 1705 = .ok (.iload 5, 2) := by decide +kernel
theorem dL_law__1707 : decode cL_law_ 1707 = .ok (.if_icmp .eq 5, 3) := by decide +kernel
theorem dL_law__1710 : decode cL_law_ 1710 = .ok (.iconst 0, 1) := by decide +kernel
theorem dL_law__1711 : decode cL_law_ 1711 = .ok (.ireturn, 1) := by decide +kernel
theorem dL_law__1712 : decode cL_law_ 1712 = .ok (.iload 5, 2) := by decide +kernel
theorem dL_law__1714 : decode cL_law_ 1714 = .ok (.ifCond .ne 22, 3) := by decide +kernel
theorem dL_law__1717 : decode cL_law_ 1717 = .ok (.aload_n 3, 1) := by decide +kernel
theorem dL_law__1718 : decode cL_law_ 1718 = .ok (.iconst 0, 1) := by decide +kernel
theorem dL_law__1719 : decode cL_law_ 1719 = .ok (.laload, 1) := by decide +kernel
theorem dL_law__1720 : decode cL_law_ 1720 = .ok (.iload 6, 2) := by decide +kernel
theorem dL_law__1722 : decode cL_law_ 1722 = .ok (.ifCond .eq 7, 3) := by decide +kernel
theorem dL_law__1725 : decode cL_law_ 1725 = .ok (.lconst 1, 1) := by decide +kernel
theorem dL_law__1726 : decode cL_law_ 1726 = .ok (.goto 4, 3) := by decide +kernel
theorem dL_law__1729 : decode cL_law_ 1729 = .ok (.lconst 0, 1) := by decide +kernel
theorem dL_law__1730 : decode cL_law_ 1730 = .ok (.lcmp, 1) := by decide +kernel
theorem dL_law__1731 : decode cL_law_ 1731 = .ok (.ifCond .eq 5, 3) := by decide +kernel
theorem dL_law__1734 : decode cL_law_ 1734 = .ok (.iconst 0, 1) := by decide +kernel
theorem dL_law__1735 : decode cL_law_ 1735 = .ok (.ireturn, 1) := by decide +kernel
theorem dL_law__1736 : decode cL_law_ 1736 = .ok (.goto 290, 3) := by decide +kernel
theorem dL_law__1739 : decode cL_law_ 1739 = .ok (.aload_n 1, 1) := by decide +kernel
theorem dL_law__1740 : decode cL_law_ 1740 = .ok (.aload_n 0, 1) := by decide +kernel
theorem dL_law__1741 : decode cL_law_ 1741 = .ok (.iload 4, 2) := by decide +kernel
theorem dL_law__1743 : decode cL_law_ 1743 = .ok (.iconst 1, 1) := by decide +kernel
theorem dL_law__1744 : decode cL_law_ 1744 = .ok (.iadd, 1) := by decide +kernel
theorem dL_law__1745 : decode cL_law_ 1745 = .ok (.iaload, 1) := by decide +kernel
theorem dL_law__1746 : decode cL_law_ 1746 = .ok (.aload_n 0, 1) := by decide +kernel
theorem dL_law__1747 : decode cL_law_ 1747 = .ok (.iload 4, 2) := by decide +kernel
theorem dL_law__1749 : decode cL_law_ 1749 = .ok (.iconst 2, 1) := by decide +kernel
theorem dL_law__1750 : decode cL_law_ 1750 = .ok (.iadd, 1) := by decide +kernel
theorem dL_law__1751 : decode cL_law_ 1751 = .ok (.iaload, 1) := by decide +kernel
theorem dL_law__1752 : decode cL_law_ 1752 = .ok (.aload_n 3, 1) := by decide +kernel
theorem dL_law__1753 : decode cL_law_ 1753 = .ok (.invokestatic 182, 3) := by decide +kernel
theorem dL_law__1756 : decode cL_law_ 1756 = .ok (.istore 5, 2) := by decide +kernel
theorem dL_law__1758 : decode cL_law_ 1758 = .ok (.aload_n 2, 1) := by decide +kernel
theorem dL_law__1759 : decode cL_law_ 1759 = .ok (.aload_n 0, 1) := by decide +kernel
theorem dL_law__1760 : decode cL_law_ 1760 = .ok (.iload 4, 2) := by decide +kernel
theorem dL_law__1762 : decode cL_law_ 1762 = .ok (.iconst 1, 1) := by decide +kernel
theorem dL_law__1763 : decode cL_law_ 1763 = .ok (.iadd, 1) := by decide +kernel
theorem dL_law__1764 : decode cL_law_ 1764 = .ok (.iaload, 1) := by decide +kernel
theorem dL_law__1765 : decode cL_law_ 1765 = .ok (.aload_n 0, 1) := by decide +kernel
theorem dL_law__1766 : decode cL_law_ 1766 = .ok (.iload 4, 2) := by decide +kernel
theorem dL_law__1768 : decode cL_law_ 1768 = .ok (.iconst 2, 1) := by decide +kernel
theorem dL_law__1769 : decode cL_law_ 1769 = .ok (.iadd, 1) := by decide +kernel
theorem dL_law__1770 : decode cL_law_ 1770 = .ok (.iaload, 1) := by decide +kernel
theorem dL_law__1771 : decode cL_law_ 1771 = .ok (.invokevirtual 184, 3) := by decide +kernel
theorem dL_law__1774 : decode cL_law_ 1774 = .ok (.lstore 6, 2) := by decide +kernel
theorem dL_law__1776 : decode cL_law_ 1776 = .ok (.aload_n 2, 1) := by decide +kernel
theorem dL_law__1777 : decode cL_law_ 1777 = .ok (.invokevirtual 112, 3) := by decide +kernel
theorem dL_law__1780 : decode cL_law_ 1780 = .ok (.iload 5, 2) := by decide +kernel
theorem dL_law__1782 : decode cL_law_ 1782 = .ok (.if_icmp .eq 5, 3) := by decide +kernel
theorem dL_law__1785 : decode cL_law_ 1785 = .ok (.iconst 0, 1) := by decide +kernel
theorem dL_law__1786 : decode cL_law_ 1786 = .ok (.ireturn, 1) := by decide +kernel
theorem dL_law__1787 : decode cL_law_ 1787 = .ok (.iload 5, 2) := by decide +kernel
theorem dL_law__1789 : decode cL_law_ 1789 = .ok (.ifCond .ne 14, 3) := by decide +kernel
theorem dL_law__1792 : decode cL_law_ 1792 = .ok (.aload_n 3, 1) := by decide +kernel
theorem dL_law__1793 : decode cL_law_ 1793 = .ok (.iconst 0, 1) := by decide +kernel
theorem dL_law__1794 : decode cL_law_ 1794 = .ok (.laload, 1) := by decide +kernel
theorem dL_law__1795 : decode cL_law_ 1795 = .ok (.lload 6, 2) := by decide +kernel
theorem dL_law__1797 : decode cL_law_ 1797 = .ok (.lcmp, 1) := by decide +kernel
theorem dL_law__1798 : decode cL_law_ 1798 = .ok (.ifCond .eq 5, 3) := by decide +kernel
theorem dL_law__1801 : decode cL_law_ 1801 = .ok (.iconst 0, 1) := by decide +kernel
theorem dL_law__1802 : decode cL_law_ 1802 = .ok (.ireturn, 1) := by decide +kernel
theorem dL_law__1803 : decode cL_law_ 1803 = .ok (.goto 223, 3) := by decide +kernel
theorem dL_law__1806 : decode cL_law_ 1806 = .ok (.aload_n 1, 1) := by decide +kernel
theorem dL_law__1807 : decode cL_law_ 1807 = .ok (.aload_n 0, 1) := by decide +kernel
theorem dL_law__1808 : decode cL_law_ 1808 = .ok (.iload 4, 2) := by decide +kernel
theorem dL_law__1810 : decode cL_law_ 1810 = .ok (.iconst 1, 1) := by decide +kernel
theorem dL_law__1811 : decode cL_law_ 1811 = .ok (.iadd, 1) := by decide +kernel
theorem dL_law__1812 : decode cL_law_ 1812 = .ok (.iaload, 1) := by decide +kernel
theorem dL_law__1813 : decode cL_law_ 1813 = .ok (.aload_n 0, 1) := by decide +kernel
theorem dL_law__1814 : decode cL_law_ 1814 = .ok (.iload 4, 2) := by decide +kernel
theorem dL_law__1816 : decode cL_law_ 1816 = .ok (.iconst 2, 1) := by decide +kernel
theorem dL_law__1817 : decode cL_law_ 1817 = .ok (.iadd, 1) := by decide +kernel
theorem dL_law__1818 : decode cL_law_ 1818 = .ok (.iaload, 1) := by decide +kernel
theorem dL_law__1819 : decode cL_law_ 1819 = .ok (.aload_n 3, 1) := by decide +kernel
theorem dL_law__1820 : decode cL_law_ 1820 = .ok (.invokestatic 185, 3) := by decide +kernel
theorem dL_law__1823 : decode cL_law_ 1823 = .ok (.istore 5, 2) := by decide +kernel
theorem dL_law__1825 : decode cL_law_ 1825 = .ok (.aload_n 2, 1) := by decide +kernel
theorem dL_law__1826 : decode cL_law_ 1826 = .ok (.aload_n 0, 1) := by decide +kernel
theorem dL_law__1827 : decode cL_law_ 1827 = .ok (.iload 4, 2) := by decide +kernel
theorem dL_law__1829 : decode cL_law_ 1829 = .ok (.iconst 1, 1) := by decide +kernel
theorem dL_law__1830 : decode cL_law_ 1830 = .ok (.iadd, 1) := by decide +kernel
theorem dL_law__1831 : decode cL_law_ 1831 = .ok (.iaload, 1) := by decide +kernel
theorem dL_law__1832 : decode cL_law_ 1832 = .ok (.aload_n 0, 1) := by decide +kernel
theorem dL_law__1833 : decode cL_law_ 1833 = .ok (.iload 4, 2) := by decide +kernel
theorem dL_law__1835 : decode cL_law_ 1835 = .ok (.iconst 2, 1) := by decide +kernel
theorem dL_law__1836 : decode cL_law_ 1836 = .ok (.iadd, 1) := by decide +kernel
theorem dL_law__1837 : decode cL_law_ 1837 = .ok (.iaload, 1) := by decide +kernel
theorem dL_law__1838 : decode cL_law_ 1838 = .ok (.invokevirtual 187, 3) := by decide +kernel
theorem dL_law__1841 : decode cL_law_ 1841 = .ok (.istore 6, 2) := by decide +kernel
theorem dL_law__1843 : decode cL_law_ 1843 = .ok (.aload_n 2, 1) := by decide +kernel
theorem dL_law__1844 : decode cL_law_ 1844 = .ok (.invokevirtual 112, 3) := by decide +kernel
theorem dL_law__1847 : decode cL_law_ 1847 = .ok (.iload 5, 2) := by decide +kernel
theorem dL_law__1849 : decode cL_law_ 1849 = .ok (.if_icmp .eq 5, 3) := by decide +kernel
theorem dL_law__1852 : decode cL_law_ 1852 = .ok (.iconst 0, 1) := by decide +kernel
theorem dL_law__1853 : decode cL_law_ 1853 = .ok (.ireturn, 1) := by decide +kernel
theorem dL_law__1854 : decode cL_law_ 1854 = .ok (.iload 5, 2) := by decide +kernel
theorem dL_law__1856 : decode cL_law_ 1856 = .ok (.ifCond .ne 15, 3) := by decide +kernel
theorem dL_law__1859 : decode cL_law_ 1859 = .ok (.aload_n 3, 1) := by decide +kernel
theorem dL_law__1860 : decode cL_law_ 1860 = .ok (.iconst 0, 1) := by decide +kernel
theorem dL_law__1861 : decode cL_law_ 1861 = .ok (.laload, 1) := by decide +kernel
theorem dL_law__1862 : decode cL_law_ 1862 = .ok (.iload 6, 2) := by decide +kernel
theorem dL_law__1864 : decode cL_law_ 1864 = .ok (.i2l, 1) := by decide +kernel
theorem dL_law__1865 : decode cL_law_ 1865 = .ok (.lcmp, 1) := by decide +kernel
theorem dL_law__1866 : decode cL_law_ 1866 = .ok (.ifCond .eq 5, 3) := by decide +kernel
theorem dL_law__1869 : decode cL_law_ 1869 = .ok (.iconst 0, 1) := by decide +kernel
theorem dL_law__1870 : decode cL_law_ 1870 = .ok (.ireturn, 1) := by decide +kernel
theorem dL_law__1871 : decode cL_law_ 1871 = .ok (.goto 155, 3) := by decide +kernel
theorem dL_law__1874 : decode cL_law_ 1874 = .ok (.aload_n 1, 1) := by decide +kernel
theorem dL_law__1875 : decode cL_law_ 1875 = .ok (.aload_n 0, 1) := by decide +kernel
theorem dL_law__1876 : decode cL_law_ 1876 = .ok (.iload 4, 2) := by decide +kernel
theorem dL_law__1878 : decode cL_law_ 1878 = .ok (.iconst 1, 1) := by decide +kernel
theorem dL_law__1879 : decode cL_law_ 1879 = .ok (.iadd, 1) := by decide +kernel
theorem dL_law__1880 : decode cL_law_ 1880 = .ok (.iaload, 1) := by decide +kernel
theorem dL_law__1881 : decode cL_law_ 1881 = .ok (.aload_n 0, 1) := by decide +kernel
theorem dL_law__1882 : decode cL_law_ 1882 = .ok (.iload 4, 2) := by decide +kernel
theorem dL_law__1884 : decode cL_law_ 1884 = .ok (.iconst 2, 1) := by decide +kernel
theorem dL_law__1885 : decode cL_law_ 1885 = .ok (.iadd, 1) := by decide +kernel
theorem dL_law__1886 : decode cL_law_ 1886 = .ok (.iaload, 1) := by decide +kernel
theorem dL_law__1887 : decode cL_law_ 1887 = .ok (.aload_n 3, 1) := by decide +kernel
theorem dL_law__1888 : decode cL_law_ 1888 = .ok (.invokestatic 188, 3) := by decide +kernel
theorem dL_law__1891 : decode cL_law_ 1891 = .ok (.istore 5, 2) := by decide +kernel
theorem dL_law__1893 : decode cL_law_ 1893 = .ok (.aload_n 2, 1) := by decide +kernel
theorem dL_law__1894 : decode cL_law_ 1894 = .ok (.aload_n 0, 1) := by decide +kernel
theorem dL_law__1895 : decode cL_law_ 1895 = .ok (.iload 4, 2) := by decide +kernel
theorem dL_law__1897 : decode cL_law_ 1897 = .ok (.iconst 1, 1) := by decide +kernel
theorem dL_law__1898 : decode cL_law_ 1898 = .ok (.iadd, 1) := by decide +kernel
theorem dL_law__1899 : decode cL_law_ 1899 = .ok (.iaload, 1) := by decide +kernel
theorem dL_law__1900 : decode cL_law_ 1900 = .ok (.aload_n 0, 1) := by decide +kernel
theorem dL_law__1901 : decode cL_law_ 1901 = .ok (.iload 4, 2) := by decide +kernel
theorem dL_law__1903 : decode cL_law_ 1903 = .ok (.iconst 2, 1) := by decide +kernel
theorem dL_law__1904 : decode cL_law_ 1904 = .ok (.iadd, 1) := by decide +kernel
theorem dL_law__1905 : decode cL_law_ 1905 = .ok (.iaload, 1) := by decide +kernel
theorem dL_law__1906 : decode cL_law_ 1906 = .ok (.invokevirtual 190, 3) := by decide +kernel
theorem dL_law__1909 : decode cL_law_ 1909 = .ok (.istore 6, 2) := by decide +kernel
theorem dL_law__1911 : decode cL_law_ 1911 = .ok (.aload_n 2, 1) := by decide +kernel
theorem dL_law__1912 : decode cL_law_ 1912 = .ok (.invokevirtual 112, 3) := by decide +kernel
theorem dL_law__1915 : decode cL_law_ 1915 = .ok (.iload 5, 2) := by decide +kernel
theorem dL_law__1917 : decode cL_law_ 1917 = .ok (.if_icmp .eq 5, 3) := by decide +kernel
theorem dL_law__1920 : decode cL_law_ 1920 = .ok (.iconst 0, 1) := by decide +kernel
theorem dL_law__1921 : decode cL_law_ 1921 = .ok (.ireturn, 1) := by decide +kernel
theorem dL_law__1922 : decode cL_law_ 1922 = .ok (.iload 5, 2) := by decide +kernel
theorem dL_law__1924 : decode cL_law_ 1924 = .ok (.ifCond .ne 15, 3) := by decide +kernel
theorem dL_law__1927 : decode cL_law_ 1927 = .ok (.aload_n 3, 1) := by decide +kernel
theorem dL_law__1928 : decode cL_law_ 1928 = .ok (.iconst 0, 1) := by decide +kernel
theorem dL_law__1929 : decode cL_law_ 1929 = .ok (.laload, 1) := by decide +kernel
theorem dL_law__1930 : decode cL_law_ 1930 = .ok (.iload 6, 2) := by decide +kernel
theorem dL_law__1932 : decode cL_law_ 1932 = .ok (.i2l, 1) := by decide +kernel
theorem dL_law__1933 : decode cL_law_ 1933 = .ok (.lcmp, 1) := by decide +kernel
theorem dL_law__1934 : decode cL_law_ 1934 = .ok (.ifCond .eq 5, 3) := by decide +kernel
theorem dL_law__1937 : decode cL_law_ 1937 = .ok (.iconst 0, 1) := by decide +kernel
theorem dL_law__1938 : decode cL_law_ 1938 = .ok (.ireturn, 1) := by decide +kernel
theorem dL_law__1939 : decode cL_law_ 1939 = .ok (.goto 87, 3) := by decide +kernel
theorem dL_law__1942 : decode cL_law_ 1942 = .ok (.aload_n 1, 1) := by decide +kernel
theorem dL_law__1943 : decode cL_law_ 1943 = .ok (.invokevirtual 191, 3) := by decide +kernel
theorem dL_law__1946 : decode cL_law_ 1946 = .ok (.aload_n 2, 1) := by decide +kernel
theorem dL_law__1947 : decode cL_law_ 1947 = .ok (.invokevirtual 195, 3) := by decide +kernel
theorem dL_law__1950 : decode cL_law_ 1950 = .ok (.lcmp, 1) := by decide +kernel
theorem dL_law__1951 : decode cL_law_ 1951 = .ok (.ifCond .eq 75, 3) := by decide +kernel
theorem dL_law__1954 : decode cL_law_ 1954 = .ok (.iconst 0, 1) := by decide +kernel
theorem dL_law__1955 : decode cL_law_ 1955 = .ok (.ireturn, 1) := by decide +kernel
theorem dL_law__1956 : decode cL_law_ 1956 = .ok (.aload_n 1, 1) := by decide +kernel
theorem dL_law__1957 : decode cL_law_ 1957 = .ok (.invokevirtual 196, 3) := by decide +kernel
theorem dL_law__1960 : decode cL_law_ 1960 = .ok (.aload_n 2, 1) := by decide +kernel
theorem dL_law__1961 : decode cL_law_ 1961 = .ok (.invokevirtual 199, 3) := by decide +kernel
theorem dL_law__1964 : decode cL_law_ 1964 = .ok (.lcmp, 1) := by decide +kernel
theorem dL_law__1965 : decode cL_law_ 1965 = .ok (.ifCond .eq 61, 3) := by decide +kernel
theorem dL_law__1968 : decode cL_law_ 1968 = .ok (.iconst 0, 1) := by decide +kernel
theorem dL_law__1969 : decode cL_law_ 1969 = .ok (.ireturn, 1) := by decide +kernel
theorem dL_law__1970 : decode cL_law_ 1970 = .ok (.aload_n 1, 1) := by decide +kernel
theorem dL_law__1971 : decode cL_law_ 1971 = .ok (.aload_n 0, 1) := by decide +kernel
theorem dL_law__1972 : decode cL_law_ 1972 = .ok (.iload 4, 2) := by decide +kernel
theorem dL_law__1974 : decode cL_law_ 1974 = .ok (.iconst 1, 1) := by decide +kernel
theorem dL_law__1975 : decode cL_law_ 1975 = .ok (.iadd, 1) := by decide +kernel
theorem dL_law__1976 : decode cL_law_ 1976 = .ok (.iaload, 1) := by decide +kernel
theorem dL_law__1977 : decode cL_law_ 1977 = .ok (.aload_n 3, 1) := by decide +kernel
theorem dL_law__1978 : decode cL_law_ 1978 = .ok (.invokestatic 200, 3) := by decide +kernel
theorem dL_law__1981 : decode cL_law_ 1981 = .ok (.istore 5, 2) := by decide +kernel
theorem dL_law__1983 : decode cL_law_ 1983 = .ok (.aload_n 2, 1) := by decide +kernel
theorem dL_law__1984 : decode cL_law_ 1984 = .ok (.aload_n 0, 1) := by decide +kernel
theorem dL_law__1985 : decode cL_law_ 1985 = .ok (.iload 4, 2) := by decide +kernel
theorem dL_law__1987 : decode cL_law_ 1987 = .ok (.iconst 1, 1) := by decide +kernel
theorem dL_law__1988 : decode cL_law_ 1988 = .ok (.iadd, 1) := by decide +kernel
theorem dL_law__1989 : decode cL_law_ 1989 = .ok (.iaload, 1) := by decide +kernel
theorem dL_law__1990 : decode cL_law_ 1990 = .ok (.invokevirtual 202, 3) := by decide +kernel
theorem dL_law__1993 : decode cL_law_ 1993 = .ok (.istore 6, 2) := by decide +kernel
theorem dL_law__1995 : decode cL_law_ 1995 = .ok (.aload_n 2, 1) := by decide +kernel
theorem dL_law__1996 : decode cL_law_ 1996 = .ok (.invokevirtual 112, 3) := by decide +kernel
theorem dL_law__1999 : decode cL_law_ 1999 = .ok (.iload 5, 2) := by decide +kernel
theorem dL_law__2001 : decode cL_law_ 2001 = .ok (.if_icmp .eq 5, 3) := by decide +kernel
theorem dL_law__2004 : decode cL_law_ 2004 = .ok (.iconst 0, 1) := by decide +kernel
theorem dL_law__2005 : decode cL_law_ 2005 = .ok (.ireturn, 1) := by decide +kernel
theorem dL_law__2006 : decode cL_law_ 2006 = .ok (.iload 5, 2) := by decide +kernel
theorem dL_law__2008 : decode cL_law_ 2008 = .ok (.ifCond .ne 15, 3) := by decide +kernel
theorem dL_law__2011 : decode cL_law_ 2011 = .ok (.aload_n 3, 1) := by decide +kernel
theorem dL_law__2012 : decode cL_law_ 2012 = .ok (.iconst 0, 1) := by decide +kernel
theorem dL_law__2013 : decode cL_law_ 2013 = .ok (.laload, 1) := by decide +kernel
theorem dL_law__2014 : decode cL_law_ 2014 = .ok (.iload 6, 2) := by decide +kernel
theorem dL_law__2016 : decode cL_law_ 2016 = .ok (.i2l, 1) := by decide +kernel
theorem dL_law__2017 : decode cL_law_ 2017 = .ok (.lcmp, 1) := by decide +kernel
theorem dL_law__2018 : decode cL_law_ 2018 = .ok (.ifCond .eq 5, 3) := by decide +kernel
theorem dL_law__2021 : decode cL_law_ 2021 = .ok (.iconst 0, 1) := by decide +kernel
theorem dL_law__2022 : decode cL_law_ 2022 = .ok (.ireturn, 1) := by decide +kernel
theorem dL_law__2023 : decode cL_law_ 2023 = .ok (.goto 3, 3) := by decide +kernel
theorem dL_law__2026 : decode cL_law_ 2026 = .ok (.iinc 4 5, 3) := by decide +kernel
theorem dL_law__2029 : decode cL_law_ 2029 = .ok (.goto (-2006), 3) := by decide +kernel
theorem dL_law__2032 : decode cL_law_ 2032 = .ok (.iconst 1, 1) := by decide +kernel
theorem dL_law__2033 : decode cL_law_ 2033 = .ok (.ireturn, 1) := by decide +kernel
