theorem dX7_init_0 : decode cX7_init 0 = .ok (.aload_n 0, 1) := by decide +kernel
theorem dX7_init_1 : decode cX7_init 1 = .ok (.invokespecial 1, 3) := by decide +kernel
theorem dX7_init_4 : decode cX7_init 4 = .ok (.aload_n 0, 1) := by decide +kernel
theorem dX7_init_5 : decode cX7_init 5 = .ok (.new 7, 3) := by decide +kernel
theorem dX7_init_8 : decode cX7_init 8 = .ok (.dup, 1) := by decide +kernel
theorem dX7_init_9 : decode cX7_init 9 = .ok (.invokespecial 9, 3) := by decide +kernel
theorem dX7_init_12 : decode cX7_init 12 = .ok (.putfield 10, 3) := by decide +kernel
theorem dX7_init_15 : decode cX7_init 15 = .ok (.aload_n 0, 1) := by decide +kernel
theorem dX7_init_16 : decode cX7_init 16 = .ok (.new 16, 3) := by decide +kernel
theorem dX7_init_19 : decode cX7_init 19 = .ok (.dup, 1) := by decide +kernel
theorem dX7_init_20 : decode cX7_init 20 = .ok (.invokespecial 18, 3) := by decide +kernel
theorem dX7_init_23 : decode cX7_init 23 = .ok (.putfield 19, 3) := by decide +kernel
theorem dX7_init_26 : decode cX7_init 26 = .ok (.aload_n 0, 1) := by decide +kernel
theorem dX7_init_27 : decode cX7_init 27 = .ok (.getstatic 23, 3) := by decide +kernel
theorem dX7_init_30 : decode cX7_init 30 = .ok (.invokestatic 27, 3) := by decide +kernel
theorem dX7_init_33 : decode cX7_init 33 = .ok (.putfield 31, 3) := by decide +kernel
theorem dX7_init_36 : decode cX7_init 36 = .ok (.aload_n 0, 1) := by decide +kernel
theorem dX7_init_37 : decode cX7_init 37 = .ok (.new 16, 3) := by decide +kernel
theorem dX7_init_40 : decode cX7_init 40 = .ok (.dup, 1) := by decide +kernel
theorem dX7_init_41 : decode cX7_init 41 = .ok (.invokespecial 18, 3) := by decide +kernel
theorem dX7_init_44 : decode cX7_init 44 = .ok (.putfield 35, 3) := by decide +kernel
theorem dX7_init_47 : decode cX7_init 47 = .ok (.aload_n 0, 1) := by decide +kernel
theorem dX7_init_48 : decode cX7_init 48 = .ok (.new 16, 3) := by decide +kernel
theorem dX7_init_51 : decode cX7_init 51 = .ok (.dup, 1) := by decide +kernel
theorem dX7_init_52 : decode cX7_init 52 = .ok (.invokespecial 18, 3) := by decide +kernel
theorem dX7_init_55 : decode cX7_init 55 = .ok (.putfield 38, 3) := by decide +kernel
theorem dX7_init_58 : decode cX7_init 58 = .ok (.aload_n 0, 1) := by decide +kernel
theorem dX7_init_59 : decode cX7_init 59 = .ok (.new 16, 3) := by decide +kernel
theorem dX7_init_62 : decode cX7_init 62 = .ok (.dup, 1) := by decide +kernel
theorem dX7_init_63 : decode cX7_init 63 = .ok (.invokespecial 18, 3) := by decide +kernel
theorem dX7_init_66 : decode cX7_init 66 = .ok (.putfield 41, 3) := by decide +kernel
theorem dX7_init_69 : decode cX7_init 69 = .ok (.aload_n 0, 1) := by decide +kernel
theorem dX7_init_70 : decode cX7_init 70 = .ok (.iconst 0, 1) := by decide +kernel
theorem dX7_init_71 : decode cX7_init 71 = .ok (.putfield 44, 3) := by decide +kernel
theorem dX7_init_74 : decode cX7_init 74 = .ok (.aload_n 0, 1) := by decide +kernel
theorem dX7_init_75 : decode cX7_init 75 = .ok (.iconst 0, 1) := by decide +kernel
theorem dX7_init_76 : decode cX7_init 76 = .ok (.putfield 48, 3) := by decide +kernel
theorem dX7_init_79 : decode cX7_init 79 = .ok (.aload_n 0, 1) := by decide +kernel
theorem dX7_init_80 : decode cX7_init 80 = .ok (.iconst 0, 1) := by decide +kernel
theorem dX7_init_81 : decode cX7_init 81 = .ok (.putfield 51, 3) := by decide +kernel
theorem dX7_init_84 : decode cX7_init 84 = .ok (.aload_n 0, 1) := by decide +kernel
theorem dX7_init_85 : decode cX7_init 85 = .ok (.lconst 0, 1) := by decide +kernel
theorem dX7_init_86 : decode cX7_init 86 = .ok (.putfield 54, 3) := by decide +kernel
theorem dX7_init_89 : decode cX7_init 89 = .ok (.return_, 1) := by decide +kernel
theorem dX7_community_0 : decode cX7_community 0 = .ok (.aload_n 0, 1) := by decide +kernel
theorem dX7_community_1 : decode cX7_community 1 = .ok (.getfield 19, 3) := by decide +kernel
theorem dX7_community_4 : decode cX7_community 4 = .ok (.invokevirtual 58, 3) := by decide +kernel
theorem dX7_community_7 : decode cX7_community 7 = .ok (.bipush 6, 2) := by decide +kernel
theorem dX7_community_9 : decode cX7_community 9 = .ok (.if_icmp .lt 13, 3) := by decide +kernel
theorem dX7_community_12 : decode cX7_community 12 = .ok (.new 62, 3) := by decide +kernel
theorem dX7_community_15 : decode cX7_community 15 = .ok (.dup, 1) := by decide +kernel
theorem dX7_community_16 : decode cX7_community 16 = .ok (.ldc 64, 2) := by decide +kernel
theorem dX7_community_18 : decode cX7_community 18 = .ok (.invokespecial 66, 3) := by decide +kernel
theorem dX7_community_21 : decode cX7_community 21 = .ok (.athrow, 1) := by decide +kernel
theorem dX7_community_22 : decode cX7_community 22 = .ok (.aload_n 0, 1) := by decide +kernel
theorem dX7_community_23 : decode cX7_community 23 = .ok (.getfield 19, 3) := by decide +kernel
theorem dX7_community_26 : decode cX7_community 26 = .ok (.new 69, 3) := by decide +kernel
theorem dX7_community_29 : decode cX7_community 29 = .ok (.dup, 1) := by decide +kernel
theorem dX7_community_30 : decode cX7_community 30 = .ok (.aload_n 0, 1) := by decide +kernel
theorem dX7_community_31 : decode cX7_community 31 = .ok (.getfield 51, 3) := by decide +kernel
theorem dX7_community_34 : decode cX7_community 34 = .ok (.invokespecial 71, 3) := by decide +kernel
theorem dX7_community_37 : decode cX7_community 37 = .ok (.invokevirtual 74, 3) := by decide +kernel
theorem dX7_community_40 : decode cX7_community 40 = .ok (.pop, 1) := by decide +kernel
theorem dX7_community_41 : decode cX7_community 41 = .ok (.aload_n 0, 1) := by decide +kernel
theorem dX7_community_42 : decode cX7_community 42 = .ok (.getfield 19, 3) := by decide +kernel
theorem dX7_community_45 : decode cX7_community 45 = .ok (.invokevirtual 58, 3) := by decide +kernel
theorem dX7_community_48 : decode cX7_community 48 = .ok (.iconst 1, 1) := by decide +kernel
theorem dX7_community_49 : decode cX7_community 49 = .ok (.isub, 1) := by decide +kernel
theorem dX7_community_50 : decode cX7_community 50 = .ok (.ireturn, 1) := by decide +kernel
theorem dX7_recognise_0 : decode cX7_recognise 0 = .ok (.aload_n 0, 1) := by decide +kernel
theorem dX7_recognise_1 : decode cX7_recognise 1 = .ok (.iload_n 1, 1) := by decide +kernel
theorem dX7_recognise_2 : decode cX7_recognise 2 = .ok (.invokevirtual 78, 3) := by decide +kernel
theorem dX7_recognise_5 : decode cX7_recognise 5 = .ok (.astore_n 3, 1) := by decide +kernel
theorem dX7_recognise_6 : decode cX7_recognise 6 = .ok (.aload_n 3, 1) := by decide +kernel
theorem dX7_recognise_7 : decode cX7_recognise 7 = .ok (.getfield 82, 3) := by decide +kernel
theorem dX7_recognise_10 : decode cX7_recognise 10 = .ok (.invokevirtual 86, 3) := by decide +kernel
theorem dX7_recognise_13 : decode cX7_recognise 13 = .ok (.iconst 1, 1) := by decide +kernel
theorem dX7_recognise_14 : decode cX7_recognise 14 = .ok (.if_icmp .ne 7, 3) := by decide +kernel
theorem dX7_recognise_17 : decode cX7_recognise 17 = .ok (.iconst 1, 1) := by decide +kernel
theorem dX7_recognise_18 : decode cX7_recognise 18 = .ok (.goto 4, 3) := by decide +kernel
theorem dX7_recognise_21 : decode cX7_recognise 21 = .ok (.iconst 0, 1) := by decide +kernel
theorem dX7_recognise_22 : decode cX7_recognise 22 = .ok (.istore 4, 2) := by decide +kernel
theorem dX7_recognise_24 : decode cX7_recognise 24 = .ok (.aload_n 3, 1) := by decide +kernel
theorem dX7_recognise_25 : decode cX7_recognise 25 = .ok (.getfield 82, 3) := by decide +kernel
theorem dX7_recognise_28 : decode cX7_recognise 28 = .ok (.aload_n 0, 1) := by decide +kernel
theorem dX7_recognise_29 : decode cX7_recognise 29 = .ok (.getfield 51, 3) := by decide +kernel
theorem dX7_recognise_32 : decode cX7_recognise 32 = .ok (.iload_n 2, 1) := by decide +kernel
theorem dX7_recognise_33 : decode cX7_recognise 33 = .ok (.ifCond .eq 7, 3) := by decide +kernel
theorem dX7_recognise_36 : decode cX7_recognise 36 = .ok (.iconst 1, 1) := by decide +kernel
theorem dX7_recognise_37 : decode cX7_recognise 37 = .ok (.goto 4, 3) := by decide +kernel
theorem dX7_recognise_40 : decode cX7_recognise 40 = .ok (.iconst 0, 1) := by decide +kernel
theorem dX7_recognise_41 : decode cX7_recognise 41 = .ok (.invokevirtual 91, 3) := by decide +kernel
theorem dX7_recognise_44 : decode cX7_recognise 44 = .ok (.iload 4, 2) := by decide +kernel
theorem dX7_recognise_46 : decode cX7_recognise 46 = .ok (.ireturn, 1) := by decide +kernel
theorem dX7_decree_0 : decode cX7_decree 0 = .ok (.aload_n 0, 1) := by decide +kernel
theorem dX7_decree_1 : decode cX7_decree 1 = .ok (.iload_n 1, 1) := by decide +kernel
theorem dX7_decree_2 : decode cX7_decree 2 = .ok (.invokevirtual 95, 3) := by decide +kernel
theorem dX7_decree_5 : decode cX7_decree 5 = .ok (.astore 4, 2) := by decide +kernel
theorem dX7_decree_7 : decode cX7_decree 7 = .ok (.iload_n 2, 1) := by decide +kernel
theorem dX7_decree_8 : decode cX7_decree 8 = .ok (.iconst 0, 1) := by decide +kernel
theorem dX7_decree_9 : decode cX7_decree 9 = .ok (.getstatic 99, 3) := by decide +kernel
theorem dX7_decree_12 : decode cX7_decree 12 = .ok (.arraylength, 1) := by decide +kernel
theorem dX7_decree_13 : decode cX7_decree 13 = .ok (.iconst 1, 1) := by decide +kernel
theorem dX7_decree_14 : decode cX7_decree 14 = .ok (.isub, 1) := by decide +kernel
theorem dX7_decree_15 : decode cX7_decree 15 = .ok (.invokestatic 102, 3) := by decide +kernel
theorem dX7_decree_18 : decode cX7_decree 18 = .ok (.iload_n 3, 1) := by decide +kernel
theorem dX7_decree_19 : decode cX7_decree 19 = .ok (.getstatic 106, 3) := by decide +kernel
theorem dX7_decree_22 : decode cX7_decree 22 = .ok (.iload_n 2, 1) := by decide +kernel
theorem dX7_decree_23 : decode cX7_decree 23 = .ok (.iaload, 1) := by decide +kernel
theorem dX7_decree_24 : decode cX7_decree 24 = .ok (.getstatic 109, 3) := by decide +kernel
theorem dX7_decree_27 : decode cX7_decree 27 = .ok (.iload_n 2, 1) := by decide +kernel
theorem dX7_decree_28 : decode cX7_decree 28 = .ok (.iaload, 1) := by decide +kernel
theorem dX7_decree_29 : decode cX7_decree 29 = .ok (.invokestatic 102, 3) := by decide +kernel
theorem dX7_decree_32 : decode cX7_decree 32 = .ok (.aload_n 0, 1) := by decide +kernel
theorem dX7_decree_33 : decode cX7_decree 33 = .ok (.getfield 44, 3) := by decide +kernel
theorem dX7_decree_36 : decode cX7_decree 36 = .ok (.bipush 100, 2) := by decide +kernel
theorem dX7_decree_38 : decode cX7_decree 38 = .ok (.if_icmp .lt 13, 3) := by decide +kernel
theorem dX7_decree_41 : decode cX7_decree 41 = .ok (.new 62, 3) := by decide +kernel
theorem dX7_decree_44 : decode cX7_decree 44 = .ok (.dup, 1) := by decide +kernel
theorem dX7_decree_45 : decode cX7_decree 45 = .ok (.ldc 112, 2) := by decide +kernel
theorem dX7_decree_47 : decode cX7_decree 47 = .ok (.invokespecial 66, 3) := by decide +kernel
theorem dX7_decree_50 : decode cX7_decree 50 = .ok (.athrow, 1) := by decide +kernel
theorem dX7_decree_51 : decode cX7_decree 51 = .ok (.aload 4, 2) := by decide +kernel
theorem dX7_decree_53 : decode cX7_decree 53 = .ok (.iload_n 2, 1) := by decide +kernel
theorem dX7_decree_54 : decode cX7_decree 54 = .ok (.aload_n 0, 1) := by decide +kernel
theorem dX7_decree_55 : decode cX7_decree 55 = .ok (.getfield 51, 3) := by decide +kernel
theorem dX7_decree_58 : decode cX7_decree 58 = .ok (.invokevirtual 114, 3) := by decide +kernel
theorem dX7_decree_61 : decode cX7_decree 61 = .ok (.istore 5, 2) := by decide +kernel
theorem dX7_decree_63 : decode cX7_decree 63 = .ok (.aload 4, 2) := by decide +kernel
theorem dX7_decree_65 : decode cX7_decree 65 = .ok (.getfield 118, 3) := by decide +kernel
theorem dX7_decree_68 : decode cX7_decree 68 = .ok (.iload_n 2, 1) := by decide +kernel
theorem dX7_decree_69 : decode cX7_decree 69 = .ok (.aaload, 1) := by decide +kernel
theorem dX7_decree_70 : decode cX7_decree 70 = .ok (.aload_n 0, 1) := by decide +kernel
theorem dX7_decree_71 : decode cX7_decree 71 = .ok (.getfield 51, 3) := by decide +kernel
theorem dX7_decree_74 : decode cX7_decree 74 = .ok (.iload_n 3, 1) := by decide +kernel
theorem dX7_decree_75 : decode cX7_decree 75 = .ok (.invokevirtual 91, 3) := by decide +kernel
theorem dX7_decree_78 : decode cX7_decree 78 = .ok (.aload_n 0, 1) := by decide +kernel
theorem dX7_decree_79 : decode cX7_decree 79 = .ok (.dup, 1) := by decide +kernel
theorem dX7_decree_80 : decode cX7_decree 80 = .ok (.getfield 44, 3) := by decide +kernel
theorem dX7_decree_83 : decode cX7_decree 83 = .ok (.iconst 1, 1) := by decide +kernel
theorem dX7_decree_84 : decode cX7_decree 84 = .ok (.iadd, 1) := by decide +kernel
theorem dX7_decree_85 : decode cX7_decree 85 = .ok (.putfield 44, 3) := by decide +kernel
theorem dX7_decree_88 : decode cX7_decree 88 = .ok (.iload 5, 2) := by decide +kernel
theorem dX7_decree_90 : decode cX7_decree 90 = .ok (.ireturn, 1) := by decide +kernel
theorem dX7_rule_0 : decode cX7_rule 0 = .ok (.iload_n 1, 1) := by decide +kernel
theorem dX7_rule_1 : decode cX7_rule 1 = .ok (.iconst 0, 1) := by decide +kernel
theorem dX7_rule_2 : decode cX7_rule 2 = .ok (.iconst 3, 1) := by decide +kernel
theorem dX7_rule_3 : decode cX7_rule 3 = .ok (.invokestatic 102, 3) := by decide +kernel
theorem dX7_rule_6 : decode cX7_rule 6 = .ok (.iload_n 2, 1) := by decide +kernel
theorem dX7_rule_7 : decode cX7_rule 7 = .ok (.iconst 0, 1) := by decide +kernel
theorem dX7_rule_8 : decode cX7_rule 8 = .ok (.iconst 3, 1) := by decide +kernel
theorem dX7_rule_9 : decode cX7_rule 9 = .ok (.invokestatic 102, 3) := by decide +kernel
theorem dX7_rule_12 : decode cX7_rule 12 = .ok (.aload_n 0, 1) := by decide +kernel
theorem dX7_rule_13 : decode cX7_rule 13 = .ok (.getfield 48, 3) := by decide +kernel
theorem dX7_rule_16 : decode cX7_rule 16 = .ok (.bipush 40, 2) := by decide +kernel
theorem dX7_rule_18 : decode cX7_rule 18 = .ok (.if_icmp .lt 13, 3) := by decide +kernel
theorem dX7_rule_21 : decode cX7_rule 21 = .ok (.new 62, 3) := by decide +kernel
theorem dX7_rule_24 : decode cX7_rule 24 = .ok (.dup, 1) := by decide +kernel
theorem dX7_rule_25 : decode cX7_rule 25 = .ok (.ldc 121, 2) := by decide +kernel
theorem dX7_rule_27 : decode cX7_rule 27 = .ok (.invokespecial 66, 3) := by decide +kernel
theorem dX7_rule_30 : decode cX7_rule 30 = .ok (.athrow, 1) := by decide +kernel
theorem dX7_rule_31 : decode cX7_rule 31 = .ok (.aload_n 0, 1) := by decide +kernel
theorem dX7_rule_32 : decode cX7_rule 32 = .ok (.getfield 31, 3) := by decide +kernel
theorem dX7_rule_35 : decode cX7_rule 35 = .ok (.iload_n 1, 1) := by decide +kernel
theorem dX7_rule_36 : decode cX7_rule 36 = .ok (.aaload, 1) := by decide +kernel
theorem dX7_rule_37 : decode cX7_rule 37 = .ok (.invokevirtual 86, 3) := by decide +kernel
theorem dX7_rule_40 : decode cX7_rule 40 = .ok (.istore_n 3, 1) := by decide +kernel
theorem dX7_rule_41 : decode cX7_rule 41 = .ok (.aload_n 0, 1) := by decide +kernel
theorem dX7_rule_42 : decode cX7_rule 42 = .ok (.getfield 31, 3) := by decide +kernel
theorem dX7_rule_45 : decode cX7_rule 45 = .ok (.iload_n 1, 1) := by decide +kernel
theorem dX7_rule_46 : decode cX7_rule 46 = .ok (.aaload, 1) := by decide +kernel
theorem dX7_rule_47 : decode cX7_rule 47 = .ok (.aload_n 0, 1) := by decide +kernel
theorem dX7_rule_48 : decode cX7_rule 48 = .ok (.getfield 51, 3) := by decide +kernel
theorem dX7_rule_51 : decode cX7_rule 51 = .ok (.iload_n 2, 1) := by decide +kernel
theorem dX7_rule_52 : decode cX7_rule 52 = .ok (.invokevirtual 91, 3) := by decide +kernel
theorem dX7_rule_55 : decode cX7_rule 55 = .ok (.aload_n 0, 1) := by decide +kernel
theorem dX7_rule_56 : decode cX7_rule 56 = .ok (.dup, 1) := by decide +kernel
theorem dX7_rule_57 : decode cX7_rule 57 = .ok (.getfield 48, 3) := by decide +kernel
theorem dX7_rule_60 : decode cX7_rule 60 = .ok (.iconst 1, 1) := by decide +kernel
theorem dX7_rule_61 : decode cX7_rule 61 = .ok (.iadd, 1) := by decide +kernel
theorem dX7_rule_62 : decode cX7_rule 62 = .ok (.putfield 48, 3) := by decide +kernel
theorem dX7_rule_65 : decode cX7_rule 65 = .ok (.iload_n 3, 1) := by decide +kernel
theorem dX7_rule_66 : decode cX7_rule 66 = .ok (.ireturn, 1) := by decide +kernel
theorem dX7_law_0 : decode cX7_law 0 = .ok (.aload_n 0, 1) := by decide +kernel
theorem dX7_law_1 : decode cX7_law 1 = .ok (.iload_n 1, 1) := by decide +kernel
theorem dX7_law_2 : decode cX7_law 2 = .ok (.invokevirtual 95, 3) := by decide +kernel
theorem dX7_law_5 : decode cX7_law 5 = .ok (.astore 4, 2) := by decide +kernel
theorem dX7_law_7 : decode cX7_law 7 = .ok (.iload_n 2, 1) := by decide +kernel
theorem dX7_law_8 : decode cX7_law 8 = .ok (.iconst 0, 1) := by decide +kernel
theorem dX7_law_9 : decode cX7_law 9 = .ok (.getstatic 99, 3) := by decide +kernel
theorem dX7_law_12 : decode cX7_law 12 = .ok (.arraylength, 1) := by decide +kernel
theorem dX7_law_13 : decode cX7_law 13 = .ok (.iconst 1, 1) := by decide +kernel
theorem dX7_law_14 : decode cX7_law 14 = .ok (.isub, 1) := by decide +kernel
theorem dX7_law_15 : decode cX7_law 15 = .ok (.invokestatic 102, 3) := by decide +kernel
theorem dX7_law_18 : decode cX7_law 18 = .ok (.iload_n 3, 1) := by decide +kernel
theorem dX7_law_19 : decode cX7_law 19 = .ok (.iconst 0, 1) := by decide +kernel
theorem dX7_law_20 : decode cX7_law 20 = .ok (.aload_n 0, 1) := by decide +kernel
theorem dX7_law_21 : decode cX7_law 21 = .ok (.getfield 51, 3) := by decide +kernel
theorem dX7_law_24 : decode cX7_law 24 = .ok (.invokestatic 102, 3) := by decide +kernel
theorem dX7_law_27 : decode cX7_law 27 = .ok (.aload 4, 2) := by decide +kernel
theorem dX7_law_29 : decode cX7_law 29 = .ok (.iload_n 2, 1) := by decide +kernel
theorem dX7_law_30 : decode cX7_law 30 = .ok (.iload_n 3, 1) := by decide +kernel
theorem dX7_law_31 : decode cX7_law 31 = .ok (.invokevirtual 114, 3) := by decide +kernel
theorem dX7_law_34 : decode cX7_law 34 = .ok (.ireturn, 1) := by decide +kernel
theorem dX7_court_0 : decode cX7_court 0 = .ok (.aload_n 0, 1) := by decide +kernel
theorem dX7_court_1 : decode cX7_court 1 = .ok (.iload_n 2, 1) := by decide +kernel
theorem dX7_court_2 : decode cX7_court 2 = .ok (.invokevirtual 123, 3) := by decide +kernel
theorem dX7_court_5 : decode cX7_court 5 = .ok (.astore 5, 2) := by decide +kernel
theorem dX7_court_7 : decode cX7_court 7 = .ok (.aload_n 0, 1) := by decide +kernel
theorem dX7_court_8 : decode cX7_court 8 = .ok (.iload_n 3, 1) := by decide +kernel
theorem dX7_court_9 : decode cX7_court 9 = .ok (.invokevirtual 123, 3) := by decide +kernel
theorem dX7_court_12 : decode cX7_court 12 = .ok (.astore 6, 2) := by decide +kernel
theorem dX7_court_14 : decode cX7_court 14 = .ok (.iload_n 1, 1) := by decide +kernel
theorem dX7_court_15 : decode cX7_court 15 = .ok (.iconst 0, 1) := by decide +kernel
theorem dX7_court_16 : decode cX7_court 16 = .ok (.iconst 3, 1) := by decide +kernel
theorem dX7_court_17 : decode cX7_court 17 = .ok (.invokestatic 102, 3) := by decide +kernel
theorem dX7_court_20 : decode cX7_court 20 = .ok (.iload 4, 2) := by decide +kernel
theorem dX7_court_22 : decode cX7_court 22 = .ok (.aload 5, 2) := by decide +kernel
theorem dX7_court_24 : decode cX7_court 24 = .ok (.getfield 127, 3) := by decide +kernel
theorem dX7_court_27 : decode cX7_court 27 = .ok (.aload 6, 2) := by decide +kernel
theorem dX7_court_29 : decode cX7_court 29 = .ok (.getfield 127, 3) := by decide +kernel
theorem dX7_court_32 : decode cX7_court 32 = .ok (.invokestatic 132, 3) := by decide +kernel
theorem dX7_court_35 : decode cX7_court 35 = .ok (.aload_n 0, 1) := by decide +kernel
theorem dX7_court_36 : decode cX7_court 36 = .ok (.getfield 51, 3) := by decide +kernel
theorem dX7_court_39 : decode cX7_court 39 = .ok (.invokestatic 102, 3) := by decide +kernel
theorem dX7_court_42 : decode cX7_court 42 = .ok (.aload_n 0, 1) := by decide +kernel
theorem dX7_court_43 : decode cX7_court 43 = .ok (.iload_n 1, 1) := by decide +kernel
theorem dX7_court_44 : decode cX7_court 44 = .ok (.aload 5, 2) := by decide +kernel
theorem dX7_court_46 : decode cX7_court 46 = .ok (.aload 6, 2) := by decide +kernel
theorem dX7_court_48 : decode cX7_court 48 = .ok (.iload 4, 2) := by decide +kernel
theorem dX7_court_50 : decode cX7_court 50 = .ok (.invokevirtual 137, 3) := by decide +kernel
theorem dX7_court_53 : decode cX7_court 53 = .ok (.ireturn, 1) := by decide +kernel
theorem dX7_person_0 : decode cX7_person 0 = .ok (.aload_n 0, 1) := by decide +kernel
theorem dX7_person_1 : decode cX7_person 1 = .ok (.iload_n 2, 1) := by decide +kernel
theorem dX7_person_2 : decode cX7_person 2 = .ok (.invokevirtual 141, 3) := by decide +kernel
theorem dX7_person_5 : decode cX7_person 5 = .ok (.astore 5, 2) := by decide +kernel
theorem dX7_person_7 : decode cX7_person 7 = .ok (.aload_n 0, 1) := by decide +kernel
theorem dX7_person_8 : decode cX7_person 8 = .ok (.iload_n 3, 1) := by decide +kernel
theorem dX7_person_9 : decode cX7_person 9 = .ok (.invokevirtual 141, 3) := by decide +kernel
theorem dX7_person_12 : decode cX7_person 12 = .ok (.astore 6, 2) := by decide +kernel
theorem dX7_person_14 : decode cX7_person 14 = .ok (.iload 4, 2) := by decide +kernel
theorem dX7_person_16 : decode cX7_person 16 = .ok (.iconst (-1), 1) := by decide +kernel
theorem dX7_person_17 : decode cX7_person 17 = .ok (.if_icmp .eq 10, 3) := by decide +kernel
theorem dX7_person_20 : decode cX7_person 20 = .ok (.aload_n 0, 1) := by decide +kernel
theorem dX7_person_21 : decode cX7_person 21 = .ok (.iload 4, 2) := by decide +kernel
theorem dX7_person_23 : decode cX7_person 23 = .ok (.invokevirtual 78, 3) := by decide +kernel
theorem dX7_person_26 : decode cX7_person 26 = .ok (.pop, 1) := by decide +kernel
theorem dX7_person_27 : decode cX7_person 27 = .ok (.aload 5, 2) := by decide +kernel
theorem dX7_person_29 : decode cX7_person 29 = .ok (.ifnull 21, 3) := by decide +kernel
theorem dX7_person_32 : decode cX7_person 32 = .ok (.aload 5, 2) := by decide +kernel
theorem dX7_person_34 : decode cX7_person 34 = .ok (.getfield 144, 3) := by decide +kernel
theorem dX7_person_37 : decode cX7_person 37 = .ok (.ifCond .eq 13, 3) := by decide +kernel
theorem dX7_person_40 : decode cX7_person 40 = .ok (.new 148, 3) := by decide +kernel
theorem dX7_person_43 : decode cX7_person 43 = .ok (.dup, 1) := by decide +kernel
theorem dX7_person_44 : decode cX7_person 44 = .ok (.ldc 150, 2) := by decide +kernel
theorem dX7_person_46 : decode cX7_person 46 = .ok (.invokespecial 152, 3) := by decide +kernel
theorem dX7_person_49 : decode cX7_person 49 = .ok (.athrow, 1) := by decide +kernel
theorem dX7_person_50 : decode cX7_person 50 = .ok (.aload 6, 2) := by decide +kernel
theorem dX7_person_52 : decode cX7_person 52 = .ok (.ifnull 21, 3) := by decide +kernel
theorem dX7_person_55 : decode cX7_person 55 = .ok (.aload 6, 2) := by decide +kernel
theorem dX7_person_57 : decode cX7_person 57 = .ok (.getfield 144, 3) := by decide +kernel
theorem dX7_person_60 : decode cX7_person 60 = .ok (.ifCond .ne 13, 3) := by decide +kernel
theorem dX7_person_63 : decode cX7_person 63 = .ok (.new 148, 3) := by decide +kernel
theorem dX7_person_66 : decode cX7_person 66 = .ok (.dup, 1) := by decide +kernel
theorem dX7_person_67 : decode cX7_person 67 = .ok (.ldc 153, 2) := by decide +kernel
theorem dX7_person_69 : decode cX7_person 69 = .ok (.invokespecial 152, 3) := by decide +kernel
theorem dX7_person_72 : decode cX7_person 72 = .ok (.athrow, 1) := by decide +kernel
theorem dX7_person_73 : decode cX7_person 73 = .ok (.aload 5, 2) := by decide +kernel
theorem dX7_person_75 : decode cX7_person 75 = .ok (.ifnonnull 12, 3) := by decide +kernel
theorem dX7_person_78 : decode cX7_person 78 = .ok (.aload 6, 2) := by decide +kernel
theorem dX7_person_80 : decode cX7_person 80 = .ok (.ifnonnull 7, 3) := by decide +kernel
theorem dX7_person_83 : decode cX7_person 83 = .ok (.iconst 1, 1) := by decide +kernel
theorem dX7_person_84 : decode cX7_person 84 = .ok (.goto 4, 3) := by decide +kernel
theorem dX7_person_87 : decode cX7_person 87 = .ok (.iconst 0, 1) := by decide +kernel
theorem dX7_person_88 : decode cX7_person 88 = .ok (.istore 7, 2) := by decide +kernel
theorem dX7_person_90 : decode cX7_person 90 = .ok (.iload 7, 2) := by decide +kernel
theorem dX7_person_92 : decode cX7_person 92 = .ok (.iload 4, 2) := by decide +kernel
theorem dX7_person_94 : decode cX7_person 94 = .ok (.iconst (-1), 1) := by decide +kernel
theorem dX7_person_95 : decode cX7_person 95 = .ok (.if_icmp .ne 7, 3) := by decide +kernel
theorem dX7_person_98 : decode cX7_person 98 = .ok (.iconst 1, 1) := by decide +kernel
theorem dX7_person_99 : decode cX7_person 99 = .ok (.goto 4, 3) := by decide +kernel
theorem dX7_person_102 : decode cX7_person 102 = .ok (.iconst 0, 1) := by decide +kernel
theorem dX7_person_103 : decode cX7_person 103 = .ok (.if_icmp .ne 13, 3) := by decide +kernel
theorem dX7_person_106 : decode cX7_person 106 = .ok (.new 148, 3) := by decide +kernel
theorem dX7_person_109 : decode cX7_person 109 = .ok (.dup, 1) := by decide +kernel
theorem dX7_person_110 : decode cX7_person 110 = .ok (.ldc 155, 2) := by decide +kernel
theorem dX7_person_112 : decode cX7_person 112 = .ok (.invokespecial 152, 3) := by decide +kernel
theorem dX7_person_115 : decode cX7_person 115 = .ok (.athrow, 1) := by decide +kernel
theorem dX7_person_116 : decode cX7_person 116 = .ok (.aload_n 0, 1) := by decide +kernel
theorem dX7_person_117 : decode cX7_person 117 = .ok (.getfield 35, 3) := by decide +kernel
theorem dX7_person_120 : decode cX7_person 120 = .ok (.invokevirtual 58, 3) := by decide +kernel
theorem dX7_person_123 : decode cX7_person 123 = .ok (.bipush 40, 2) := by decide +kernel
theorem dX7_person_125 : decode cX7_person 125 = .ok (.if_icmp .lt 13, 3) := by decide +kernel
theorem dX7_person_128 : decode cX7_person 128 = .ok (.new 62, 3) := by decide +kernel
theorem dX7_person_131 : decode cX7_person 131 = .ok (.dup, 1) := by decide +kernel
theorem dX7_person_132 : decode cX7_person 132 = .ok (.ldc 157, 2) := by decide +kernel
theorem dX7_person_134 : decode cX7_person 134 = .ok (.invokespecial 66, 3) := by decide +kernel
theorem dX7_person_137 : decode cX7_person 137 = .ok (.athrow, 1) := by decide +kernel
theorem dX7_person_138 : decode cX7_person 138 = .ok (.aload_n 0, 1) := by decide +kernel
theorem dX7_person_139 : decode cX7_person 139 = .ok (.getfield 35, 3) := by decide +kernel
theorem dX7_person_142 : decode cX7_person 142 = .ok (.invokevirtual 58, 3) := by decide +kernel
theorem dX7_person_145 : decode cX7_person 145 = .ok (.istore 8, 2) := by decide +kernel
theorem dX7_person_147 : decode cX7_person 147 = .ok (.aload 5, 2) := by decide +kernel
theorem dX7_person_149 : decode cX7_person 149 = .ok (.aload 6, 2) := by decide +kernel
theorem dX7_person_151 : decode cX7_person 151 = .ok (.iload 4, 2) := by decide +kernel
theorem dX7_person_153 : decode cX7_person 153 = .ok (.invokestatic 159, 3) := by decide +kernel
theorem dX7_person_156 : decode cX7_person 156 = .ok (.istore 9, 2) := by decide +kernel
theorem dX7_person_158 : decode cX7_person 158 = .ok (.aload_n 0, 1) := by decide +kernel
theorem dX7_person_159 : decode cX7_person 159 = .ok (.getfield 35, 3) := by decide +kernel
theorem dX7_person_162 : decode cX7_person 162 = .ok (.new 128, 3) := by decide +kernel
theorem dX7_person_165 : decode cX7_person 165 = .ok (.dup, 1) := by decide +kernel
theorem dX7_person_166 : decode cX7_person 166 = .ok (.iload 8, 2) := by decide +kernel
theorem dX7_person_168 : decode cX7_person 168 = .ok (.iload_n 1, 1) := by decide +kernel
theorem dX7_person_169 : decode cX7_person 169 = .ok (.aload 5, 2) := by decide +kernel
theorem dX7_person_171 : decode cX7_person 171 = .ok (.aload 6, 2) := by decide +kernel
theorem dX7_person_173 : decode cX7_person 173 = .ok (.aload_n 0, 1) := by decide +kernel
theorem dX7_person_174 : decode cX7_person 174 = .ok (.getfield 51, 3) := by decide +kernel
theorem dX7_person_177 : decode cX7_person 177 = .ok (.iload 9, 2) := by decide +kernel
theorem dX7_person_179 : decode cX7_person 179 = .ok (.invokespecial 163, 3) := by decide +kernel
theorem dX7_person_182 : decode cX7_person 182 = .ok (.invokevirtual 74, 3) := by decide +kernel
theorem dX7_person_185 : decode cX7_person 185 = .ok (.pop, 1) := by decide +kernel
theorem dX7_person_186 : decode cX7_person 186 = .ok (.iload 8, 2) := by decide +kernel
theorem dX7_person_188 : decode cX7_person 188 = .ok (.ireturn, 1) := by decide +kernel
theorem dX7_turn_0 : decode cX7_turn 0 = .ok (.aload_n 0, 1) := by decide +kernel
theorem dX7_turn_1 : decode cX7_turn 1 = .ok (.iload_n 1, 1) := by decide +kernel
theorem dX7_turn_2 : decode cX7_turn 2 = .ok (.invokevirtual 123, 3) := by decide +kernel
theorem dX7_turn_5 : decode cX7_turn 5 = .ok (.astore 5, 2) := by decide +kernel
theorem dX7_turn_7 : decode cX7_turn 7 = .ok (.aload_n 0, 1) := by decide +kernel
theorem dX7_turn_8 : decode cX7_turn 8 = .ok (.iload_n 2, 1) := by decide +kernel
theorem dX7_turn_9 : decode cX7_turn 9 = .ok (.invokevirtual 78, 3) := by decide +kernel
theorem dX7_turn_12 : decode cX7_turn 12 = .ok (.pop, 1) := by decide +kernel
theorem dX7_turn_13 : decode cX7_turn 13 = .ok (.aload_n 0, 1) := by decide +kernel
theorem dX7_turn_14 : decode cX7_turn 14 = .ok (.iload_n 3, 1) := by decide +kernel
theorem dX7_turn_15 : decode cX7_turn 15 = .ok (.invokevirtual 123, 3) := by decide +kernel
theorem dX7_turn_18 : decode cX7_turn 18 = .ok (.astore 6, 2) := by decide +kernel
theorem dX7_turn_20 : decode cX7_turn 20 = .ok (.aload_n 0, 1) := by decide +kernel
theorem dX7_turn_21 : decode cX7_turn 21 = .ok (.iload 4, 2) := by decide +kernel
theorem dX7_turn_23 : decode cX7_turn 23 = .ok (.invokevirtual 123, 3) := by decide +kernel
theorem dX7_turn_26 : decode cX7_turn 26 = .ok (.astore 7, 2) := by decide +kernel
theorem dX7_turn_28 : decode cX7_turn 28 = .ok (.iload_n 3, 1) := by decide +kernel
theorem dX7_turn_29 : decode cX7_turn 29 = .ok (.iload 4, 2) := by decide +kernel
theorem dX7_turn_31 : decode cX7_turn 31 = .ok (.if_icmp .eq 14, 3) := by decide +kernel
theorem dX7_turn_34 : decode cX7_turn 34 = .ok (.iload_n 3, 1) := by decide +kernel
theorem dX7_turn_35 : decode cX7_turn 35 = .ok (.iload_n 1, 1) := by decide +kernel
theorem dX7_turn_36 : decode cX7_turn 36 = .ok (.if_icmp .eq 9, 3) := by decide +kernel
theorem dX7_turn_39 : decode cX7_turn 39 = .ok (.iload 4, 2) := by decide +kernel
theorem dX7_turn_41 : decode cX7_turn 41 = .ok (.iload_n 1, 1) := by decide +kernel
theorem dX7_turn_42 : decode cX7_turn 42 = .ok (.if_icmp .ne 13, 3) := by decide +kernel
theorem dX7_turn_45 : decode cX7_turn 45 = .ok (.new 148, 3) := by decide +kernel
theorem dX7_turn_48 : decode cX7_turn 48 = .ok (.dup, 1) := by decide +kernel
theorem dX7_turn_49 : decode cX7_turn 49 = .ok (.ldc 166, 2) := by decide +kernel
theorem dX7_turn_51 : decode cX7_turn 51 = .ok (.invokespecial 152, 3) := by decide +kernel
theorem dX7_turn_54 : decode cX7_turn 54 = .ok (.athrow, 1) := by decide +kernel
theorem dX7_turn_55 : decode cX7_turn 55 = .ok (.aload 5, 2) := by decide +kernel
theorem dX7_turn_57 : decode cX7_turn 57 = .ok (.aload_n 0, 1) := by decide +kernel
theorem dX7_turn_58 : decode cX7_turn 58 = .ok (.getfield 51, 3) := by decide +kernel
theorem dX7_turn_61 : decode cX7_turn 61 = .ok (.invokevirtual 168, 3) := by decide +kernel
theorem dX7_turn_64 : decode cX7_turn 64 = .ok (.ifCond .eq 20, 3) := by decide +kernel
theorem dX7_turn_67 : decode cX7_turn 67 = .ok (.aload 5, 2) := by decide +kernel
theorem dX7_turn_69 : decode cX7_turn 69 = .ok (.invokevirtual 172, 3) := by decide +kernel
theorem dX7_turn_72 : decode cX7_turn 72 = .ok (.iload_n 2, 1) := by decide +kernel
theorem dX7_turn_73 : decode cX7_turn 73 = .ok (.if_icmp .eq 11, 3) := by decide +kernel
theorem dX7_turn_76 : decode cX7_turn 76 = .ok (.aload 5, 2) := by decide +kernel
theorem dX7_turn_78 : decode cX7_turn 78 = .ok (.invokevirtual 175, 3) := by decide +kernel
theorem dX7_turn_81 : decode cX7_turn 81 = .ok (.ifCond .eq 13, 3) := by decide +kernel
theorem dX7_turn_84 : decode cX7_turn 84 = .ok (.new 62, 3) := by decide +kernel
theorem dX7_turn_87 : decode cX7_turn 87 = .ok (.dup, 1) := by decide +kernel
theorem dX7_turn_88 : decode cX7_turn 88 = .ok (.ldc 179, 2) := by decide +kernel
theorem dX7_turn_90 : decode cX7_turn 90 = .ok (.invokespecial 66, 3) := by decide +kernel
theorem dX7_turn_93 : decode cX7_turn 93 = .ok (.athrow, 1) := by decide +kernel
theorem dX7_turn_94 : decode cX7_turn 94 = .ok (.aload_n 0, 1) := by decide +kernel
theorem dX7_turn_95 : decode cX7_turn 95 = .ok (.aload 6, 2) := by decide +kernel
theorem dX7_turn_97 : decode cX7_turn 97 = .ok (.iload_n 2, 1) := by decide +kernel
theorem dX7_turn_98 : decode cX7_turn 98 = .ok (.invokevirtual 181, 3) := by decide +kernel
theorem dX7_turn_101 : decode cX7_turn 101 = .ok (.ifCond .eq 13, 3) := by decide +kernel
theorem dX7_turn_104 : decode cX7_turn 104 = .ok (.aload_n 0, 1) := by decide +kernel
theorem dX7_turn_105 : decode cX7_turn 105 = .ok (.aload 7, 2) := by decide +kernel
theorem dX7_turn_107 : decode cX7_turn 107 = .ok (.iload_n 2, 1) := by decide +kernel
theorem dX7_turn_108 : decode cX7_turn 108 = .ok (.invokevirtual 181, 3) := by decide +kernel
theorem dX7_turn_111 : decode cX7_turn 111 = .ok (.ifCond .ne 13, 3) := by decide +kernel
theorem dX7_turn_114 : decode cX7_turn 114 = .ok (.new 62, 3) := by decide +kernel
theorem dX7_turn_117 : decode cX7_turn 117 = .ok (.dup, 1) := by decide +kernel
theorem dX7_turn_118 : decode cX7_turn 118 = .ok (.ldc 185, 2) := by decide +kernel
theorem dX7_turn_120 : decode cX7_turn 120 = .ok (.invokespecial 66, 3) := by decide +kernel
theorem dX7_turn_123 : decode cX7_turn 123 = .ok (.athrow, 1) := by decide +kernel
theorem dX7_turn_124 : decode cX7_turn 124 = .ok (.aload 5, 2) := by decide +kernel
theorem dX7_turn_126 : decode cX7_turn 126 = .ok (.iload_n 2, 1) := by decide +kernel
theorem dX7_turn_127 : decode cX7_turn 127 = .ok (.putfield 187, 3) := by decide +kernel
theorem dX7_turn_130 : decode cX7_turn 130 = .ok (.aload 5, 2) := by decide +kernel
theorem dX7_turn_132 : decode cX7_turn 132 = .ok (.aload_n 0, 1) := by decide +kernel
theorem dX7_turn_133 : decode cX7_turn 133 = .ok (.getfield 51, 3) := by decide +kernel
theorem dX7_turn_136 : decode cX7_turn 136 = .ok (.bipush 30, 2) := by decide +kernel
theorem dX7_turn_138 : decode cX7_turn 138 = .ok (.iadd, 1) := by decide +kernel
theorem dX7_turn_139 : decode cX7_turn 139 = .ok (.putfield 190, 3) := by decide +kernel
theorem dX7_turn_142 : decode cX7_turn 142 = .ok (.aload 5, 2) := by decide +kernel
theorem dX7_turn_144 : decode cX7_turn 144 = .ok (.getfield 190, 3) := by decide +kernel
theorem dX7_turn_147 : decode cX7_turn 147 = .ok (.ireturn, 1) := by decide +kernel
theorem dX7_recant_0 : decode cX7_recant 0 = .ok (.aload_n 0, 1) := by decide +kernel
theorem dX7_recant_1 : decode cX7_recant 1 = .ok (.iload_n 1, 1) := by decide +kernel
theorem dX7_recant_2 : decode cX7_recant 2 = .ok (.invokevirtual 123, 3) := by decide +kernel
theorem dX7_recant_5 : decode cX7_recant 5 = .ok (.astore_n 2, 1) := by decide +kernel
theorem dX7_recant_6 : decode cX7_recant 6 = .ok (.aload_n 2, 1) := by decide +kernel
theorem dX7_recant_7 : decode cX7_recant 7 = .ok (.invokevirtual 175, 3) := by decide +kernel
theorem dX7_recant_10 : decode cX7_recant 10 = .ok (.ifCond .ne 13, 3) := by decide +kernel
theorem dX7_recant_13 : decode cX7_recant 13 = .ok (.new 62, 3) := by decide +kernel
theorem dX7_recant_16 : decode cX7_recant 16 = .ok (.dup, 1) := by decide +kernel
theorem dX7_recant_17 : decode cX7_recant 17 = .ok (.ldc 193, 2) := by decide +kernel
theorem dX7_recant_19 : decode cX7_recant 19 = .ok (.invokespecial 66, 3) := by decide +kernel
theorem dX7_recant_22 : decode cX7_recant 22 = .ok (.athrow, 1) := by decide +kernel
theorem dX7_recant_23 : decode cX7_recant 23 = .ok (.aload_n 2, 1) := by decide +kernel
theorem dX7_recant_24 : decode cX7_recant 24 = .ok (.getfield 187, 3) := by decide +kernel
theorem dX7_recant_27 : decode cX7_recant 27 = .ok (.istore_n 3, 1) := by decide +kernel
theorem dX7_recant_28 : decode cX7_recant 28 = .ok (.aload_n 2, 1) := by decide +kernel
theorem dX7_recant_29 : decode cX7_recant 29 = .ok (.invokevirtual 195, 3) := by decide +kernel
theorem dX7_recant_32 : decode cX7_recant 32 = .ok (.iload_n 3, 1) := by decide +kernel
theorem dX7_recant_33 : decode cX7_recant 33 = .ok (.ireturn, 1) := by decide +kernel
theorem dX7_faith_0 : decode cX7_faith 0 = .ok (.aload_n 0, 1) := by decide +kernel
theorem dX7_faith_1 : decode cX7_faith 1 = .ok (.iload_n 1, 1) := by decide +kernel
theorem dX7_faith_2 : decode cX7_faith 2 = .ok (.invokevirtual 123, 3) := by decide +kernel
theorem dX7_faith_5 : decode cX7_faith 5 = .ok (.astore_n 3, 1) := by decide +kernel
theorem dX7_faith_6 : decode cX7_faith 6 = .ok (.iload_n 2, 1) := by decide +kernel
theorem dX7_faith_7 : decode cX7_faith 7 = .ok (.aload_n 3, 1) := by decide +kernel
theorem dX7_faith_8 : decode cX7_faith 8 = .ok (.getfield 127, 3) := by decide +kernel
theorem dX7_faith_11 : decode cX7_faith 11 = .ok (.aload_n 0, 1) := by decide +kernel
theorem dX7_faith_12 : decode cX7_faith 12 = .ok (.getfield 51, 3) := by decide +kernel
theorem dX7_faith_15 : decode cX7_faith 15 = .ok (.invokestatic 102, 3) := by decide +kernel
theorem dX7_faith_18 : decode cX7_faith 18 = .ok (.aload_n 3, 1) := by decide +kernel
theorem dX7_faith_19 : decode cX7_faith 19 = .ok (.getfield 198, 3) := by decide +kernel
theorem dX7_faith_22 : decode cX7_faith 22 = .ok (.iload_n 2, 1) := by decide +kernel
theorem dX7_faith_23 : decode cX7_faith 23 = .ok (.invokevirtual 201, 3) := by decide +kernel
theorem dX7_faith_26 : decode cX7_faith 26 = .ok (.ireturn, 1) := by decide +kernel
theorem dX7_marry_0 : decode cX7_marry 0 = .ok (.aload_n 0, 1) := by decide +kernel
theorem dX7_marry_1 : decode cX7_marry 1 = .ok (.iload_n 1, 1) := by decide +kernel
theorem dX7_marry_2 : decode cX7_marry 2 = .ok (.invokevirtual 123, 3) := by decide +kernel
theorem dX7_marry_5 : decode cX7_marry 5 = .ok (.astore 4, 2) := by decide +kernel
theorem dX7_marry_7 : decode cX7_marry 7 = .ok (.aload_n 0, 1) := by decide +kernel
theorem dX7_marry_8 : decode cX7_marry 8 = .ok (.iload_n 2, 1) := by decide +kernel
theorem dX7_marry_9 : decode cX7_marry 9 = .ok (.invokevirtual 123, 3) := by decide +kernel
theorem dX7_marry_12 : decode cX7_marry 12 = .ok (.astore 5, 2) := by decide +kernel
theorem dX7_marry_14 : decode cX7_marry 14 = .ok (.aload 4, 2) := by decide +kernel
theorem dX7_marry_16 : decode cX7_marry 16 = .ok (.getfield 144, 3) := by decide +kernel
theorem dX7_marry_19 : decode cX7_marry 19 = .ok (.ifCond .eq 11, 3) := by decide +kernel
theorem dX7_marry_22 : decode cX7_marry 22 = .ok (.aload 5, 2) := by decide +kernel
theorem dX7_marry_24 : decode cX7_marry 24 = .ok (.getfield 144, 3) := by decide +kernel
theorem dX7_marry_27 : decode cX7_marry 27 = .ok (.ifCond .eq 13, 3) := by decide +kernel
theorem dX7_marry_30 : decode cX7_marry 30 = .ok (.new 148, 3) := by decide +kernel
theorem dX7_marry_33 : decode cX7_marry 33 = .ok (.dup, 1) := by decide +kernel
theorem dX7_marry_34 : decode cX7_marry 34 = .ok (.ldc 204, 2) := by decide +kernel
theorem dX7_marry_36 : decode cX7_marry 36 = .ok (.invokespecial 152, 3) := by decide +kernel
theorem dX7_marry_39 : decode cX7_marry 39 = .ok (.athrow, 1) := by decide +kernel
theorem dX7_marry_40 : decode cX7_marry 40 = .ok (.iload_n 3, 1) := by decide +kernel
theorem dX7_marry_41 : decode cX7_marry 41 = .ok (.iconst 0, 1) := by decide +kernel
theorem dX7_marry_42 : decode cX7_marry 42 = .ok (.ldc 206, 2) := by decide +kernel
theorem dX7_marry_44 : decode cX7_marry 44 = .ok (.invokestatic 102, 3) := by decide +kernel
theorem dX7_marry_47 : decode cX7_marry 47 = .ok (.aload 4, 2) := by decide +kernel
theorem dX7_marry_49 : decode cX7_marry 49 = .ok (.aload_n 0, 1) := by decide +kernel
theorem dX7_marry_50 : decode cX7_marry 50 = .ok (.getfield 51, 3) := by decide +kernel
theorem dX7_marry_53 : decode cX7_marry 53 = .ok (.invokevirtual 168, 3) := by decide +kernel
theorem dX7_marry_56 : decode cX7_marry 56 = .ok (.ifCond .eq 15, 3) := by decide +kernel
theorem dX7_marry_59 : decode cX7_marry 59 = .ok (.aload 5, 2) := by decide +kernel
theorem dX7_marry_61 : decode cX7_marry 61 = .ok (.aload_n 0, 1) := by decide +kernel
theorem dX7_marry_62 : decode cX7_marry 62 = .ok (.getfield 51, 3) := by decide +kernel
theorem dX7_marry_65 : decode cX7_marry 65 = .ok (.invokevirtual 168, 3) := by decide +kernel
theorem dX7_marry_68 : decode cX7_marry 68 = .ok (.ifCond .ne 13, 3) := by decide +kernel
theorem dX7_marry_71 : decode cX7_marry 71 = .ok (.new 62, 3) := by decide +kernel
theorem dX7_marry_74 : decode cX7_marry 74 = .ok (.dup, 1) := by decide +kernel
theorem dX7_marry_75 : decode cX7_marry 75 = .ok (.ldc 207, 2) := by decide +kernel
theorem dX7_marry_77 : decode cX7_marry 77 = .ok (.invokespecial 66, 3) := by decide +kernel
theorem dX7_marry_80 : decode cX7_marry 80 = .ok (.athrow, 1) := by decide +kernel
theorem dX7_marry_81 : decode cX7_marry 81 = .ok (.aload_n 0, 1) := by decide +kernel
theorem dX7_marry_82 : decode cX7_marry 82 = .ok (.iconst 0, 1) := by decide +kernel
theorem dX7_marry_83 : decode cX7_marry 83 = .ok (.aload 4, 2) := by decide +kernel
theorem dX7_marry_85 : decode cX7_marry 85 = .ok (.aload 5, 2) := by decide +kernel
theorem dX7_marry_87 : decode cX7_marry 87 = .ok (.aload_n 0, 1) := by decide +kernel
theorem dX7_marry_88 : decode cX7_marry 88 = .ok (.getfield 51, 3) := by decide +kernel
theorem dX7_marry_91 : decode cX7_marry 91 = .ok (.invokevirtual 137, 3) := by decide +kernel
theorem dX7_marry_94 : decode cX7_marry 94 = .ok (.istore 6, 2) := by decide +kernel
theorem dX7_marry_96 : decode cX7_marry 96 = .ok (.aload_n 0, 1) := by decide +kernel
theorem dX7_marry_97 : decode cX7_marry 97 = .ok (.aload 4, 2) := by decide +kernel
theorem dX7_marry_99 : decode cX7_marry 99 = .ok (.aload 5, 2) := by decide +kernel
theorem dX7_marry_101 : decode cX7_marry 101 = .ok (.aload_n 0, 1) := by decide +kernel
theorem dX7_marry_102 : decode cX7_marry 102 = .ok (.iload 6, 2) := by decide +kernel
theorem dX7_marry_104 : decode cX7_marry 104 = .ok (.invokevirtual 95, 3) := by decide +kernel
theorem dX7_marry_107 : decode cX7_marry 107 = .ok (.invokevirtual 209, 3) := by decide +kernel
theorem dX7_marry_110 : decode cX7_marry 110 = .ok (.ifCond .ne 13, 3) := by decide +kernel
theorem dX7_marry_113 : decode cX7_marry 113 = .ok (.new 62, 3) := by decide +kernel
theorem dX7_marry_116 : decode cX7_marry 116 = .ok (.dup, 1) := by decide +kernel
theorem dX7_marry_117 : decode cX7_marry 117 = .ok (.ldc 213, 2) := by decide +kernel
theorem dX7_marry_119 : decode cX7_marry 119 = .ok (.invokespecial 66, 3) := by decide +kernel
theorem dX7_marry_122 : decode cX7_marry 122 = .ok (.athrow, 1) := by decide +kernel
theorem dX7_marry_123 : decode cX7_marry 123 = .ok (.aload_n 0, 1) := by decide +kernel
theorem dX7_marry_124 : decode cX7_marry 124 = .ok (.getfield 38, 3) := by decide +kernel
theorem dX7_marry_127 : decode cX7_marry 127 = .ok (.invokevirtual 58, 3) := by decide +kernel
theorem dX7_marry_130 : decode cX7_marry 130 = .ok (.bipush 30, 2) := by decide +kernel
theorem dX7_marry_132 : decode cX7_marry 132 = .ok (.if_icmp .lt 13, 3) := by decide +kernel
theorem dX7_marry_135 : decode cX7_marry 135 = .ok (.new 62, 3) := by decide +kernel
theorem dX7_marry_138 : decode cX7_marry 138 = .ok (.dup, 1) := by decide +kernel
theorem dX7_marry_139 : decode cX7_marry 139 = .ok (.ldc 215, 2) := by decide +kernel
theorem dX7_marry_141 : decode cX7_marry 141 = .ok (.invokespecial 66, 3) := by decide +kernel
theorem dX7_marry_144 : decode cX7_marry 144 = .ok (.athrow, 1) := by decide +kernel
theorem dX7_marry_145 : decode cX7_marry 145 = .ok (.aload_n 0, 1) := by decide +kernel
theorem dX7_marry_146 : decode cX7_marry 146 = .ok (.getfield 38, 3) := by decide +kernel
theorem dX7_marry_149 : decode cX7_marry 149 = .ok (.new 217, 3) := by decide +kernel
theorem dX7_marry_152 : decode cX7_marry 152 = .ok (.dup, 1) := by decide +kernel
theorem dX7_marry_153 : decode cX7_marry 153 = .ok (.aload 4, 2) := by decide +kernel
theorem dX7_marry_155 : decode cX7_marry 155 = .ok (.aload 5, 2) := by decide +kernel
theorem dX7_marry_157 : decode cX7_marry 157 = .ok (.iload_n 3, 1) := by decide +kernel
theorem dX7_marry_158 : decode cX7_marry 158 = .ok (.iload 6, 2) := by decide +kernel
theorem dX7_marry_160 : decode cX7_marry 160 = .ok (.invokespecial 219, 3) := by decide +kernel
theorem dX7_marry_163 : decode cX7_marry 163 = .ok (.invokevirtual 74, 3) := by decide +kernel
theorem dX7_marry_166 : decode cX7_marry 166 = .ok (.pop, 1) := by decide +kernel
theorem dX7_marry_167 : decode cX7_marry 167 = .ok (.aload_n 0, 1) := by decide +kernel
theorem dX7_marry_168 : decode cX7_marry 168 = .ok (.getfield 38, 3) := by decide +kernel
theorem dX7_marry_171 : decode cX7_marry 171 = .ok (.invokevirtual 58, 3) := by decide +kernel
theorem dX7_marry_174 : decode cX7_marry 174 = .ok (.iconst 1, 1) := by decide +kernel
theorem dX7_marry_175 : decode cX7_marry 175 = .ok (.isub, 1) := by decide +kernel
theorem dX7_marry_176 : decode cX7_marry 176 = .ok (.ireturn, 1) := by decide +kernel
theorem dX7_divorce_0 : decode cX7_divorce 0 = .ok (.aload_n 0, 1) := by decide +kernel
theorem dX7_divorce_1 : decode cX7_divorce 1 = .ok (.iload_n 1, 1) := by decide +kernel
theorem dX7_divorce_2 : decode cX7_divorce 2 = .ok (.invokevirtual 222, 3) := by decide +kernel
theorem dX7_divorce_5 : decode cX7_divorce 5 = .ok (.astore_n 3, 1) := by decide +kernel
theorem dX7_divorce_6 : decode cX7_divorce 6 = .ok (.aload_n 3, 1) := by decide +kernel
theorem dX7_divorce_7 : decode cX7_divorce 7 = .ok (.getfield 226, 3) := by decide +kernel
theorem dX7_divorce_10 : decode cX7_divorce 10 = .ok (.ifCond .eq 13, 3) := by decide +kernel
theorem dX7_divorce_13 : decode cX7_divorce 13 = .ok (.new 62, 3) := by decide +kernel
theorem dX7_divorce_16 : decode cX7_divorce 16 = .ok (.dup, 1) := by decide +kernel
theorem dX7_divorce_17 : decode cX7_divorce 17 = .ok (.ldc 229, 2) := by decide +kernel
theorem dX7_divorce_19 : decode cX7_divorce 19 = .ok (.invokespecial 66, 3) := by decide +kernel
theorem dX7_divorce_22 : decode cX7_divorce 22 = .ok (.athrow, 1) := by decide +kernel
theorem dX7_divorce_23 : decode cX7_divorce 23 = .ok (.iload_n 2, 1) := by decide +kernel
theorem dX7_divorce_24 : decode cX7_divorce 24 = .ok (.ifCond .eq 11, 3) := by decide +kernel
theorem dX7_divorce_27 : decode cX7_divorce 27 = .ok (.aload_n 3, 1) := by decide +kernel
theorem dX7_divorce_28 : decode cX7_divorce 28 = .ok (.iconst 1, 1) := by decide +kernel
theorem dX7_divorce_29 : decode cX7_divorce 29 = .ok (.putfield 231, 3) := by decide +kernel
theorem dX7_divorce_32 : decode cX7_divorce 32 = .ok (.goto 8, 3) := by decide +kernel
theorem dX7_divorce_35 : decode cX7_divorce 35 = .ok (.aload_n 3, 1) := by decide +kernel
theorem dX7_divorce_36 : decode cX7_divorce 36 = .ok (.iconst 1, 1) := by decide +kernel
theorem dX7_divorce_37 : decode cX7_divorce 37 = .ok (.putfield 234, 3) := by decide +kernel
theorem dX7_divorce_40 : decode cX7_divorce 40 = .ok (.aload_n 0, 1) := by decide +kernel
theorem dX7_divorce_41 : decode cX7_divorce 41 = .ok (.aload_n 0, 1) := by decide +kernel
theorem dX7_divorce_42 : decode cX7_divorce 42 = .ok (.iconst 1, 1) := by decide +kernel
theorem dX7_divorce_43 : decode cX7_divorce 43 = .ok (.aload_n 3, 1) := by decide +kernel
theorem dX7_divorce_44 : decode cX7_divorce 44 = .ok (.getfield 237, 3) := by decide +kernel
theorem dX7_divorce_47 : decode cX7_divorce 47 = .ok (.aload_n 3, 1) := by decide +kernel
theorem dX7_divorce_48 : decode cX7_divorce 48 = .ok (.getfield 241, 3) := by decide +kernel
theorem dX7_divorce_51 : decode cX7_divorce 51 = .ok (.aload_n 0, 1) := by decide +kernel
theorem dX7_divorce_52 : decode cX7_divorce 52 = .ok (.getfield 51, 3) := by decide +kernel
theorem dX7_divorce_55 : decode cX7_divorce 55 = .ok (.invokevirtual 137, 3) := by decide +kernel
theorem dX7_divorce_58 : decode cX7_divorce 58 = .ok (.invokevirtual 95, 3) := by decide +kernel
theorem dX7_divorce_61 : decode cX7_divorce 61 = .ok (.astore 4, 2) := by decide +kernel
theorem dX7_divorce_63 : decode cX7_divorce 63 = .ok (.aload_n 3, 1) := by decide +kernel
theorem dX7_divorce_64 : decode cX7_divorce 64 = .ok (.iload_n 2, 1) := by decide +kernel
theorem dX7_divorce_65 : decode cX7_divorce 65 = .ok (.aload 4, 2) := by decide +kernel
theorem dX7_divorce_67 : decode cX7_divorce 67 = .ok (.iconst 1, 1) := by decide +kernel
theorem dX7_divorce_68 : decode cX7_divorce 68 = .ok (.aload_n 0, 1) := by decide +kernel
theorem dX7_divorce_69 : decode cX7_divorce 69 = .ok (.getfield 51, 3) := by decide +kernel
theorem dX7_divorce_72 : decode cX7_divorce 72 = .ok (.invokevirtual 114, 3) := by decide +kernel
theorem dX7_divorce_75 : decode cX7_divorce 75 = .ok (.invokestatic 244, 3) := by decide +kernel
theorem dX7_divorce_78 : decode cX7_divorce 78 = .ok (.ifCond .ne 5, 3) := by decide +kernel
theorem dX7_divorce_81 : decode cX7_divorce 81 = .ok (.iconst 0, 1) := by decide +kernel
theorem dX7_divorce_82 : decode cX7_divorce 82 = .ok (.ireturn, 1) := by decide +kernel
theorem dX7_divorce_83 : decode cX7_divorce 83 = .ok (.aload_n 3, 1) := by decide +kernel
theorem dX7_divorce_84 : decode cX7_divorce 84 = .ok (.iconst 1, 1) := by decide +kernel
theorem dX7_divorce_85 : decode cX7_divorce 85 = .ok (.putfield 226, 3) := by decide +kernel
theorem dX7_divorce_88 : decode cX7_divorce 88 = .ok (.aload_n 3, 1) := by decide +kernel
theorem dX7_divorce_89 : decode cX7_divorce 89 = .ok (.invokevirtual 248, 3) := by decide +kernel
theorem dX7_divorce_92 : decode cX7_divorce 92 = .ok (.iconst 1, 1) := by decide +kernel
theorem dX7_divorce_93 : decode cX7_divorce 93 = .ok (.ireturn, 1) := by decide +kernel
theorem dX7_goods_0 : decode cX7_goods 0 = .ok (.aload_n 0, 1) := by decide +kernel
theorem dX7_goods_1 : decode cX7_goods 1 = .ok (.iload_n 1, 1) := by decide +kernel
theorem dX7_goods_2 : decode cX7_goods 2 = .ok (.invokevirtual 123, 3) := by decide +kernel
theorem dX7_goods_5 : decode cX7_goods 5 = .ok (.astore_n 3, 1) := by decide +kernel
theorem dX7_goods_6 : decode cX7_goods 6 = .ok (.iload_n 2, 1) := by decide +kernel
theorem dX7_goods_7 : decode cX7_goods 7 = .ok (.iconst 1, 1) := by decide +kernel
theorem dX7_goods_8 : decode cX7_goods 8 = .ok (.ldc 206, 2) := by decide +kernel
theorem dX7_goods_10 : decode cX7_goods 10 = .ok (.invokestatic 102, 3) := by decide +kernel
theorem dX7_goods_13 : decode cX7_goods 13 = .ok (.aload_n 3, 1) := by decide +kernel
theorem dX7_goods_14 : decode cX7_goods 14 = .ok (.getfield 251, 3) := by decide +kernel
theorem dX7_goods_17 : decode cX7_goods 17 = .ok (.ifCond .ne 13, 3) := by decide +kernel
theorem dX7_goods_20 : decode cX7_goods 20 = .ok (.new 62, 3) := by decide +kernel
theorem dX7_goods_23 : decode cX7_goods 23 = .ok (.dup, 1) := by decide +kernel
theorem dX7_goods_24 : decode cX7_goods 24 = .ok (.ldc 254, 2) := by decide +kernel
theorem dX7_goods_26 : decode cX7_goods 26 = .ok (.invokespecial 66, 3) := by decide +kernel
theorem dX7_goods_29 : decode cX7_goods 29 = .ok (.athrow, 1) := by decide +kernel
theorem dX7_goods_30 : decode cX7_goods 30 = .ok (.aload_n 3, 1) := by decide +kernel
theorem dX7_goods_31 : decode cX7_goods 31 = .ok (.dup, 1) := by decide +kernel
theorem dX7_goods_32 : decode cX7_goods 32 = .ok (.getfield 256, 3) := by decide +kernel
theorem dX7_goods_35 : decode cX7_goods 35 = .ok (.iload_n 2, 1) := by decide +kernel
theorem dX7_goods_36 : decode cX7_goods 36 = .ok (.i2l, 1) := by decide +kernel
theorem dX7_goods_37 : decode cX7_goods 37 = .ok (.ladd, 1) := by decide +kernel
theorem dX7_goods_38 : decode cX7_goods 38 = .ok (.putfield 256, 3) := by decide +kernel
theorem dX7_goods_41 : decode cX7_goods 41 = .ok (.aload_n 3, 1) := by decide +kernel
theorem dX7_goods_42 : decode cX7_goods 42 = .ok (.getfield 256, 3) := by decide +kernel
theorem dX7_goods_45 : decode cX7_goods 45 = .ok (.lreturn, 1) := by decide +kernel
theorem dX7_dies_0 : decode cX7_dies 0 = .ok (.aload_n 0, 1) := by decide +kernel
theorem dX7_dies_1 : decode cX7_dies 1 = .ok (.iload_n 1, 1) := by decide +kernel
theorem dX7_dies_2 : decode cX7_dies 2 = .ok (.invokevirtual 123, 3) := by decide +kernel
theorem dX7_dies_5 : decode cX7_dies 5 = .ok (.astore_n 2, 1) := by decide +kernel
theorem dX7_dies_6 : decode cX7_dies 6 = .ok (.aload_n 2, 1) := by decide +kernel
theorem dX7_dies_7 : decode cX7_dies 7 = .ok (.getfield 251, 3) := by decide +kernel
theorem dX7_dies_10 : decode cX7_dies 10 = .ok (.ifCond .ne 13, 3) := by decide +kernel
theorem dX7_dies_13 : decode cX7_dies 13 = .ok (.new 62, 3) := by decide +kernel
theorem dX7_dies_16 : decode cX7_dies 16 = .ok (.dup, 1) := by decide +kernel
theorem dX7_dies_17 : decode cX7_dies 17 = .ok (.ldc 254, 2) := by decide +kernel
theorem dX7_dies_19 : decode cX7_dies 19 = .ok (.invokespecial 66, 3) := by decide +kernel
theorem dX7_dies_22 : decode cX7_dies 22 = .ok (.athrow, 1) := by decide +kernel
theorem dX7_dies_23 : decode cX7_dies 23 = .ok (.aload_n 0, 1) := by decide +kernel
theorem dX7_dies_24 : decode cX7_dies 24 = .ok (.aload_n 0, 1) := by decide +kernel
theorem dX7_dies_25 : decode cX7_dies 25 = .ok (.iconst 2, 1) := by decide +kernel
theorem dX7_dies_26 : decode cX7_dies 26 = .ok (.aload_n 2, 1) := by decide +kernel
theorem dX7_dies_27 : decode cX7_dies 27 = .ok (.aload_n 2, 1) := by decide +kernel
theorem dX7_dies_28 : decode cX7_dies 28 = .ok (.aload_n 0, 1) := by decide +kernel
theorem dX7_dies_29 : decode cX7_dies 29 = .ok (.getfield 51, 3) := by decide +kernel
theorem dX7_dies_32 : decode cX7_dies 32 = .ok (.invokevirtual 137, 3) := by decide +kernel
theorem dX7_dies_35 : decode cX7_dies 35 = .ok (.invokevirtual 95, 3) := by decide +kernel
theorem dX7_dies_38 : decode cX7_dies 38 = .ok (.astore_n 3, 1) := by decide +kernel
theorem dX7_dies_39 : decode cX7_dies 39 = .ok (.aload_n 2, 1) := by decide +kernel
theorem dX7_dies_40 : decode cX7_dies 40 = .ok (.iconst 0, 1) := by decide +kernel
theorem dX7_dies_41 : decode cX7_dies 41 = .ok (.putfield 251, 3) := by decide +kernel
theorem dX7_dies_44 : decode cX7_dies 44 = .ok (.aload_n 2, 1) := by decide +kernel
theorem dX7_dies_45 : decode cX7_dies 45 = .ok (.invokevirtual 195, 3) := by decide +kernel
theorem dX7_dies_48 : decode cX7_dies 48 = .ok (.aload_n 0, 1) := by decide +kernel
theorem dX7_dies_49 : decode cX7_dies 49 = .ok (.aload_n 2, 1) := by decide +kernel
theorem dX7_dies_50 : decode cX7_dies 50 = .ok (.invokevirtual 259, 3) := by decide +kernel
theorem dX7_dies_53 : decode cX7_dies 53 = .ok (.astore 4, 2) := by decide +kernel
theorem dX7_dies_55 : decode cX7_dies 55 = .ok (.aload_n 0, 1) := by decide +kernel
theorem dX7_dies_56 : decode cX7_dies 56 = .ok (.aload_n 2, 1) := by decide +kernel
theorem dX7_dies_57 : decode cX7_dies 57 = .ok (.invokevirtual 263, 3) := by decide +kernel
theorem dX7_dies_60 : decode cX7_dies 60 = .ok (.astore 5, 2) := by decide +kernel
theorem dX7_dies_62 : decode cX7_dies 62 = .ok (.aload_n 3, 1) := by decide +kernel
theorem dX7_dies_63 : decode cX7_dies 63 = .ok (.iconst 5, 1) := by decide +kernel
theorem dX7_dies_64 : decode cX7_dies 64 = .ok (.aload_n 0, 1) := by decide +kernel
theorem dX7_dies_65 : decode cX7_dies 65 = .ok (.getfield 51, 3) := by decide +kernel
theorem dX7_dies_68 : decode cX7_dies 68 = .ok (.invokevirtual 114, 3) := by decide +kernel
theorem dX7_dies_71 : decode cX7_dies 71 = .ok (.iconst 1, 1) := by decide +kernel
theorem dX7_dies_72 : decode cX7_dies 72 = .ok (.if_icmp .ne 21, 3) := by decide +kernel
theorem dX7_dies_75 : decode cX7_dies 75 = .ok (.aload 4, 2) := by decide +kernel
theorem dX7_dies_77 : decode cX7_dies 77 = .ok (.aload_n 2, 1) := by decide +kernel
theorem dX7_dies_78 : decode cX7_dies 78 = .ok (.invokevirtual 172, 3) := by decide +kernel
theorem dX7_dies_81 : decode cX7_dies 81 = .ok (.invokestatic 266, 3) := by decide +kernel
theorem dX7_dies_84 : decode cX7_dies 84 = .ok (.aload 5, 2) := by decide +kernel
theorem dX7_dies_86 : decode cX7_dies 86 = .ok (.aload_n 2, 1) := by decide +kernel
theorem dX7_dies_87 : decode cX7_dies 87 = .ok (.invokevirtual 172, 3) := by decide +kernel
theorem dX7_dies_90 : decode cX7_dies 90 = .ok (.invokestatic 266, 3) := by decide +kernel
theorem dX7_dies_93 : decode cX7_dies 93 = .ok (.aload_n 0, 1) := by decide +kernel
theorem dX7_dies_94 : decode cX7_dies 94 = .ok (.aload_n 2, 1) := by decide +kernel
theorem dX7_dies_95 : decode cX7_dies 95 = .ok (.aload 4, 2) := by decide +kernel
theorem dX7_dies_97 : decode cX7_dies 97 = .ok (.aload 5, 2) := by decide +kernel
theorem dX7_dies_99 : decode cX7_dies 99 = .ok (.aload_n 3, 1) := by decide +kernel
theorem dX7_dies_100 : decode cX7_dies 100 = .ok (.invokevirtual 270, 3) := by decide +kernel
theorem dX7_dies_103 : decode cX7_dies 103 = .ok (.lreturn, 1) := by decide +kernel
theorem dX7_sue_0 : decode cX7_sue 0 = .ok (.aload_n 0, 1) := by decide +kernel
theorem dX7_sue_1 : decode cX7_sue 1 = .ok (.iload_n 1, 1) := by decide +kernel
theorem dX7_sue_2 : decode cX7_sue 2 = .ok (.invokevirtual 123, 3) := by decide +kernel
theorem dX7_sue_5 : decode cX7_sue 5 = .ok (.astore 5, 2) := by decide +kernel
theorem dX7_sue_7 : decode cX7_sue 7 = .ok (.aload_n 0, 1) := by decide +kernel
theorem dX7_sue_8 : decode cX7_sue 8 = .ok (.iload_n 2, 1) := by decide +kernel
theorem dX7_sue_9 : decode cX7_sue 9 = .ok (.invokevirtual 123, 3) := by decide +kernel
theorem dX7_sue_12 : decode cX7_sue 12 = .ok (.astore 6, 2) := by decide +kernel
theorem dX7_sue_14 : decode cX7_sue 14 = .ok (.aload_n 0, 1) := by decide +kernel
theorem dX7_sue_15 : decode cX7_sue 15 = .ok (.iload_n 3, 1) := by decide +kernel
theorem dX7_sue_16 : decode cX7_sue 16 = .ok (.invokevirtual 95, 3) := by decide +kernel
theorem dX7_sue_19 : decode cX7_sue 19 = .ok (.pop, 1) := by decide +kernel
theorem dX7_sue_20 : decode cX7_sue 20 = .ok (.iload_n 1, 1) := by decide +kernel
theorem dX7_sue_21 : decode cX7_sue 21 = .ok (.iload_n 2, 1) := by decide +kernel
theorem dX7_sue_22 : decode cX7_sue 22 = .ok (.if_icmp .ne 14, 3) := by decide +kernel
theorem dX7_sue_25 : decode cX7_sue 25 = .ok (.new 148, 3) := by decide +kernel
theorem dX7_sue_28 : decode cX7_sue 28 = .ok (.dup, 1) := by decide +kernel
theorem dX7_sue_29 : decode cX7_sue 29 = .ok (.ldc_w 274, 3) := by decide +kernel
theorem dX7_sue_32 : decode cX7_sue 32 = .ok (.invokespecial 152, 3) := by decide +kernel
theorem dX7_sue_35 : decode cX7_sue 35 = .ok (.athrow, 1) := by decide +kernel
theorem dX7_sue_36 : decode cX7_sue 36 = .ok (.iload 4, 2) := by decide +kernel
theorem dX7_sue_38 : decode cX7_sue 38 = .ok (.iconst 1, 1) := by decide +kernel
theorem dX7_sue_39 : decode cX7_sue 39 = .ok (.ldc 206, 2) := by decide +kernel
theorem dX7_sue_41 : decode cX7_sue 41 = .ok (.invokestatic 102, 3) := by decide +kernel
theorem dX7_sue_44 : decode cX7_sue 44 = .ok (.aload 5, 2) := by decide +kernel
theorem dX7_sue_46 : decode cX7_sue 46 = .ok (.getfield 251, 3) := by decide +kernel
theorem dX7_sue_49 : decode cX7_sue 49 = .ok (.ifCond .eq 11, 3) := by decide +kernel
theorem dX7_sue_52 : decode cX7_sue 52 = .ok (.aload 6, 2) := by decide +kernel
theorem dX7_sue_54 : decode cX7_sue 54 = .ok (.getfield 251, 3) := by decide +kernel
theorem dX7_sue_57 : decode cX7_sue 57 = .ok (.ifCond .ne 14, 3) := by decide +kernel
theorem dX7_sue_60 : decode cX7_sue 60 = .ok (.new 62, 3) := by decide +kernel
theorem dX7_sue_63 : decode cX7_sue 63 = .ok (.dup, 1) := by decide +kernel
theorem dX7_sue_64 : decode cX7_sue 64 = .ok (.ldc_w 276, 3) := by decide +kernel
theorem dX7_sue_67 : decode cX7_sue 67 = .ok (.invokespecial 66, 3) := by decide +kernel
theorem dX7_sue_70 : decode cX7_sue 70 = .ok (.athrow, 1) := by decide +kernel
theorem dX7_sue_71 : decode cX7_sue 71 = .ok (.aload_n 0, 1) := by decide +kernel
theorem dX7_sue_72 : decode cX7_sue 72 = .ok (.getfield 41, 3) := by decide +kernel
theorem dX7_sue_75 : decode cX7_sue 75 = .ok (.invokevirtual 58, 3) := by decide +kernel
theorem dX7_sue_78 : decode cX7_sue 78 = .ok (.bipush 20, 2) := by decide +kernel
theorem dX7_sue_80 : decode cX7_sue 80 = .ok (.if_icmp .lt 14, 3) := by decide +kernel
theorem dX7_sue_83 : decode cX7_sue 83 = .ok (.new 62, 3) := by decide +kernel
theorem dX7_sue_86 : decode cX7_sue 86 = .ok (.dup, 1) := by decide +kernel
theorem dX7_sue_87 : decode cX7_sue 87 = .ok (.ldc_w 278, 3) := by decide +kernel
theorem dX7_sue_90 : decode cX7_sue 90 = .ok (.invokespecial 66, 3) := by decide +kernel
theorem dX7_sue_93 : decode cX7_sue 93 = .ok (.athrow, 1) := by decide +kernel
theorem dX7_sue_94 : decode cX7_sue 94 = .ok (.new 280, 3) := by decide +kernel
theorem dX7_sue_97 : decode cX7_sue 97 = .ok (.dup, 1) := by decide +kernel
theorem dX7_sue_98 : decode cX7_sue 98 = .ok (.aload 5, 2) := by decide +kernel
theorem dX7_sue_100 : decode cX7_sue 100 = .ok (.aload 6, 2) := by decide +kernel
theorem dX7_sue_102 : decode cX7_sue 102 = .ok (.iload_n 3, 1) := by decide +kernel
theorem dX7_sue_103 : decode cX7_sue 103 = .ok (.iload 4, 2) := by decide +kernel
theorem dX7_sue_105 : decode cX7_sue 105 = .ok (.invokespecial 282, 3) := by decide +kernel
theorem dX7_sue_108 : decode cX7_sue 108 = .ok (.astore 7, 2) := by decide +kernel
theorem dX7_sue_110 : decode cX7_sue 110 = .ok (.aload 7, 2) := by decide +kernel
theorem dX7_sue_112 : decode cX7_sue 112 = .ok (.aload_n 0, 1) := by decide +kernel
theorem dX7_sue_113 : decode cX7_sue 113 = .ok (.aload 5, 2) := by decide +kernel
theorem dX7_sue_115 : decode cX7_sue 115 = .ok (.aload 6, 2) := by decide +kernel
theorem dX7_sue_117 : decode cX7_sue 117 = .ok (.invokevirtual 283, 3) := by decide +kernel
theorem dX7_sue_120 : decode cX7_sue 120 = .ok (.ifCond .eq 7, 3) := by decide +kernel
theorem dX7_sue_123 : decode cX7_sue 123 = .ok (.iconst 1, 1) := by decide +kernel
theorem dX7_sue_124 : decode cX7_sue 124 = .ok (.goto 4, 3) := by decide +kernel
theorem dX7_sue_127 : decode cX7_sue 127 = .ok (.iconst 0, 1) := by decide +kernel
theorem dX7_sue_128 : decode cX7_sue 128 = .ok (.putfield 287, 3) := by decide +kernel
theorem dX7_sue_131 : decode cX7_sue 131 = .ok (.aload 7, 2) := by decide +kernel
theorem dX7_sue_133 : decode cX7_sue 133 = .ok (.aload_n 0, 1) := by decide +kernel
theorem dX7_sue_134 : decode cX7_sue 134 = .ok (.iconst 3, 1) := by decide +kernel
theorem dX7_sue_135 : decode cX7_sue 135 = .ok (.aload 5, 2) := by decide +kernel
theorem dX7_sue_137 : decode cX7_sue 137 = .ok (.aload 6, 2) := by decide +kernel
theorem dX7_sue_139 : decode cX7_sue 139 = .ok (.aload_n 0, 1) := by decide +kernel
theorem dX7_sue_140 : decode cX7_sue 140 = .ok (.getfield 51, 3) := by decide +kernel
theorem dX7_sue_143 : decode cX7_sue 143 = .ok (.invokevirtual 137, 3) := by decide +kernel
theorem dX7_sue_146 : decode cX7_sue 146 = .ok (.iload_n 3, 1) := by decide +kernel
theorem dX7_sue_147 : decode cX7_sue 147 = .ok (.if_icmp .ne 7, 3) := by decide +kernel
theorem dX7_sue_150 : decode cX7_sue 150 = .ok (.iconst 1, 1) := by decide +kernel
theorem dX7_sue_151 : decode cX7_sue 151 = .ok (.goto 4, 3) := by decide +kernel
theorem dX7_sue_154 : decode cX7_sue 154 = .ok (.iconst 0, 1) := by decide +kernel
theorem dX7_sue_155 : decode cX7_sue 155 = .ok (.putfield 288, 3) := by decide +kernel
theorem dX7_sue_158 : decode cX7_sue 158 = .ok (.aload_n 0, 1) := by decide +kernel
theorem dX7_sue_159 : decode cX7_sue 159 = .ok (.getfield 41, 3) := by decide +kernel
theorem dX7_sue_162 : decode cX7_sue 162 = .ok (.aload 7, 2) := by decide +kernel
theorem dX7_sue_164 : decode cX7_sue 164 = .ok (.invokevirtual 74, 3) := by decide +kernel
theorem dX7_sue_167 : decode cX7_sue 167 = .ok (.pop, 1) := by decide +kernel
theorem dX7_sue_168 : decode cX7_sue 168 = .ok (.aload_n 0, 1) := by decide +kernel
theorem dX7_sue_169 : decode cX7_sue 169 = .ok (.getfield 41, 3) := by decide +kernel
theorem dX7_sue_172 : decode cX7_sue 172 = .ok (.invokevirtual 58, 3) := by decide +kernel
theorem dX7_sue_175 : decode cX7_sue 175 = .ok (.iconst 1, 1) := by decide +kernel
theorem dX7_sue_176 : decode cX7_sue 176 = .ok (.isub, 1) := by decide +kernel
theorem dX7_sue_177 : decode cX7_sue 177 = .ok (.ireturn, 1) := by decide +kernel
theorem dX7_appear_0 : decode cX7_appear 0 = .ok (.aload_n 0, 1) := by decide +kernel
theorem dX7_appear_1 : decode cX7_appear 1 = .ok (.iload_n 1, 1) := by decide +kernel
theorem dX7_appear_2 : decode cX7_appear 2 = .ok (.invokevirtual 291, 3) := by decide +kernel
theorem dX7_appear_5 : decode cX7_appear 5 = .ok (.astore_n 2, 1) := by decide +kernel
theorem dX7_appear_6 : decode cX7_appear 6 = .ok (.aload_n 2, 1) := by decide +kernel
theorem dX7_appear_7 : decode cX7_appear 7 = .ok (.invokestatic 295, 3) := by decide +kernel
theorem dX7_appear_10 : decode cX7_appear 10 = .ok (.aload_n 2, 1) := by decide +kernel
theorem dX7_appear_11 : decode cX7_appear 11 = .ok (.getfield 299, 3) := by decide +kernel
theorem dX7_appear_14 : decode cX7_appear 14 = .ok (.getfield 251, 3) := by decide +kernel
theorem dX7_appear_17 : decode cX7_appear 17 = .ok (.ifCond .ne 14, 3) := by decide +kernel
theorem dX7_appear_20 : decode cX7_appear 20 = .ok (.new 62, 3) := by decide +kernel
theorem dX7_appear_23 : decode cX7_appear 23 = .ok (.dup, 1) := by decide +kernel
theorem dX7_appear_24 : decode cX7_appear 24 = .ok (.ldc_w 302, 3) := by decide +kernel
theorem dX7_appear_27 : decode cX7_appear 27 = .ok (.invokespecial 66, 3) := by decide +kernel
theorem dX7_appear_30 : decode cX7_appear 30 = .ok (.athrow, 1) := by decide +kernel
theorem dX7_appear_31 : decode cX7_appear 31 = .ok (.aload_n 2, 1) := by decide +kernel
theorem dX7_appear_32 : decode cX7_appear 32 = .ok (.getfield 288, 3) := by decide +kernel
theorem dX7_appear_35 : decode cX7_appear 35 = .ok (.ifCond .ne 7, 3) := by decide +kernel
theorem dX7_appear_38 : decode cX7_appear 38 = .ok (.iconst 1, 1) := by decide +kernel
theorem dX7_appear_39 : decode cX7_appear 39 = .ok (.goto 4, 3) := by decide +kernel
theorem dX7_appear_42 : decode cX7_appear 42 = .ok (.iconst 0, 1) := by decide +kernel
theorem dX7_appear_43 : decode cX7_appear 43 = .ok (.istore_n 3, 1) := by decide +kernel
theorem dX7_appear_44 : decode cX7_appear 44 = .ok (.aload_n 2, 1) := by decide +kernel
theorem dX7_appear_45 : decode cX7_appear 45 = .ok (.iconst 1, 1) := by decide +kernel
theorem dX7_appear_46 : decode cX7_appear 46 = .ok (.putfield 288, 3) := by decide +kernel
theorem dX7_appear_49 : decode cX7_appear 49 = .ok (.iload_n 3, 1) := by decide +kernel
theorem dX7_appear_50 : decode cX7_appear 50 = .ok (.ireturn, 1) := by decide +kernel
theorem dX7_testify_0 : decode cX7_testify 0 = .ok (.aload_n 0, 1) := by decide +kernel
theorem dX7_testify_1 : decode cX7_testify 1 = .ok (.iload_n 1, 1) := by decide +kernel
theorem dX7_testify_2 : decode cX7_testify 2 = .ok (.invokevirtual 291, 3) := by decide +kernel
theorem dX7_testify_5 : decode cX7_testify 5 = .ok (.astore 4, 2) := by decide +kernel
theorem dX7_testify_7 : decode cX7_testify 7 = .ok (.aload_n 0, 1) := by decide +kernel
theorem dX7_testify_8 : decode cX7_testify 8 = .ok (.iload_n 2, 1) := by decide +kernel
theorem dX7_testify_9 : decode cX7_testify 9 = .ok (.invokevirtual 123, 3) := by decide +kernel
theorem dX7_testify_12 : decode cX7_testify 12 = .ok (.astore 5, 2) := by decide +kernel
theorem dX7_testify_14 : decode cX7_testify 14 = .ok (.aload 4, 2) := by decide +kernel
theorem dX7_testify_16 : decode cX7_testify 16 = .ok (.invokestatic 295, 3) := by decide +kernel
theorem dX7_testify_19 : decode cX7_testify 19 = .ok (.aload 5, 2) := by decide +kernel
theorem dX7_testify_21 : decode cX7_testify 21 = .ok (.aload_n 0, 1) := by decide +kernel
theorem dX7_testify_22 : decode cX7_testify 22 = .ok (.getfield 51, 3) := by decide +kernel
theorem dX7_testify_25 : decode cX7_testify 25 = .ok (.invokevirtual 168, 3) := by decide +kernel
theorem dX7_testify_28 : decode cX7_testify 28 = .ok (.ifCond .eq 23, 3) := by decide +kernel
theorem dX7_testify_31 : decode cX7_testify 31 = .ok (.aload 4, 2) := by decide +kernel
theorem dX7_testify_33 : decode cX7_testify 33 = .ok (.aload 5, 2) := by decide +kernel
theorem dX7_testify_35 : decode cX7_testify 35 = .ok (.invokevirtual 304, 3) := by decide +kernel
theorem dX7_testify_38 : decode cX7_testify 38 = .ok (.ifCond .ne 13, 3) := by decide +kernel
theorem dX7_testify_41 : decode cX7_testify 41 = .ok (.aload 4, 2) := by decide +kernel
theorem dX7_testify_43 : decode cX7_testify 43 = .ok (.aload 5, 2) := by decide +kernel
theorem dX7_testify_45 : decode cX7_testify 45 = .ok (.invokevirtual 308, 3) := by decide +kernel
theorem dX7_testify_48 : decode cX7_testify 48 = .ok (.ifCond .eq 14, 3) := by decide +kernel
theorem dX7_testify_51 : decode cX7_testify 51 = .ok (.new 62, 3) := by decide +kernel
theorem dX7_testify_54 : decode cX7_testify 54 = .ok (.dup, 1) := by decide +kernel
theorem dX7_testify_55 : decode cX7_testify 55 = .ok (.ldc_w 311, 3) := by decide +kernel
theorem dX7_testify_58 : decode cX7_testify 58 = .ok (.invokespecial 66, 3) := by decide +kernel
theorem dX7_testify_61 : decode cX7_testify 61 = .ok (.athrow, 1) := by decide +kernel
theorem dX7_testify_62 : decode cX7_testify 62 = .ok (.aload 4, 2) := by decide +kernel
theorem dX7_testify_64 : decode cX7_testify 64 = .ok (.getfield 313, 3) := by decide +kernel
theorem dX7_testify_67 : decode cX7_testify 67 = .ok (.new 316, 3) := by decide +kernel
theorem dX7_testify_70 : decode cX7_testify 70 = .ok (.dup, 1) := by decide +kernel
theorem dX7_testify_71 : decode cX7_testify 71 = .ok (.aload 5, 2) := by decide +kernel
theorem dX7_testify_73 : decode cX7_testify 73 = .ok (.iload_n 3, 1) := by decide +kernel
theorem dX7_testify_74 : decode cX7_testify 74 = .ok (.invokespecial 318, 3) := by decide +kernel
theorem dX7_testify_77 : decode cX7_testify 77 = .ok (.invokevirtual 74, 3) := by decide +kernel
theorem dX7_testify_80 : decode cX7_testify 80 = .ok (.pop, 1) := by decide +kernel
theorem dX7_testify_81 : decode cX7_testify 81 = .ok (.aload 4, 2) := by decide +kernel
theorem dX7_testify_83 : decode cX7_testify 83 = .ok (.getfield 313, 3) := by decide +kernel
theorem dX7_testify_86 : decode cX7_testify 86 = .ok (.invokevirtual 58, 3) := by decide +kernel
theorem dX7_testify_89 : decode cX7_testify 89 = .ok (.ireturn, 1) := by decide +kernel
theorem dX7_judge_0 : decode cX7_judge 0 = .ok (.aload_n 0, 1) := by decide +kernel
theorem dX7_judge_1 : decode cX7_judge 1 = .ok (.iload_n 1, 1) := by decide +kernel
theorem dX7_judge_2 : decode cX7_judge 2 = .ok (.invokevirtual 291, 3) := by decide +kernel
theorem dX7_judge_5 : decode cX7_judge 5 = .ok (.astore_n 2, 1) := by decide +kernel
theorem dX7_judge_6 : decode cX7_judge 6 = .ok (.aload_n 2, 1) := by decide +kernel
theorem dX7_judge_7 : decode cX7_judge 7 = .ok (.invokestatic 295, 3) := by decide +kernel
theorem dX7_judge_10 : decode cX7_judge 10 = .ok (.aload_n 2, 1) := by decide +kernel
theorem dX7_judge_11 : decode cX7_judge 11 = .ok (.getfield 288, 3) := by decide +kernel
theorem dX7_judge_14 : decode cX7_judge 14 = .ok (.ifCond .ne 14, 3) := by decide +kernel
theorem dX7_judge_17 : decode cX7_judge 17 = .ok (.new 62, 3) := by decide +kernel
theorem dX7_judge_20 : decode cX7_judge 20 = .ok (.dup, 1) := by decide +kernel
theorem dX7_judge_21 : decode cX7_judge 21 = .ok (.ldc_w 321, 3) := by decide +kernel
theorem dX7_judge_24 : decode cX7_judge 24 = .ok (.invokespecial 66, 3) := by decide +kernel
theorem dX7_judge_27 : decode cX7_judge 27 = .ok (.athrow, 1) := by decide +kernel
theorem dX7_judge_28 : decode cX7_judge 28 = .ok (.aload_n 0, 1) := by decide +kernel
theorem dX7_judge_29 : decode cX7_judge 29 = .ok (.aload_n 2, 1) := by decide +kernel
theorem dX7_judge_30 : decode cX7_judge 30 = .ok (.aload_n 0, 1) := by decide +kernel
theorem dX7_judge_31 : decode cX7_judge 31 = .ok (.aload_n 2, 1) := by decide +kernel
theorem dX7_judge_32 : decode cX7_judge 32 = .ok (.getfield 323, 3) := by decide +kernel
theorem dX7_judge_35 : decode cX7_judge 35 = .ok (.invokevirtual 95, 3) := by decide +kernel
theorem dX7_judge_38 : decode cX7_judge 38 = .ok (.invokevirtual 326, 3) := by decide +kernel
theorem dX7_judge_41 : decode cX7_judge 41 = .ok (.istore_n 3, 1) := by decide +kernel
theorem dX7_judge_42 : decode cX7_judge 42 = .ok (.aload_n 2, 1) := by decide +kernel
theorem dX7_judge_43 : decode cX7_judge 43 = .ok (.iload_n 3, 1) := by decide +kernel
theorem dX7_judge_44 : decode cX7_judge 44 = .ok (.aload_n 0, 1) := by decide +kernel
theorem dX7_judge_45 : decode cX7_judge 45 = .ok (.getfield 51, 3) := by decide +kernel
theorem dX7_judge_48 : decode cX7_judge 48 = .ok (.invokevirtual 330, 3) := by decide +kernel
theorem dX7_judge_51 : decode cX7_judge 51 = .ok (.iload_n 3, 1) := by decide +kernel
theorem dX7_judge_52 : decode cX7_judge 52 = .ok (.ifCond .eq 11, 3) := by decide +kernel
theorem dX7_judge_55 : decode cX7_judge 55 = .ok (.aload_n 2, 1) := by decide +kernel
theorem dX7_judge_56 : decode cX7_judge 56 = .ok (.aload_n 2, 1) := by decide +kernel
theorem dX7_judge_57 : decode cX7_judge 57 = .ok (.getfield 334, 3) := by decide +kernel
theorem dX7_judge_60 : decode cX7_judge 60 = .ok (.putfield 337, 3) := by decide +kernel
theorem dX7_judge_63 : decode cX7_judge 63 = .ok (.iload_n 3, 1) := by decide +kernel
theorem dX7_judge_64 : decode cX7_judge 64 = .ok (.ireturn, 1) := by decide +kernel
theorem dX7_appeal_0 : decode cX7_appeal 0 = .ok (.aload_n 0, 1) := by decide +kernel
theorem dX7_appeal_1 : decode cX7_appeal 1 = .ok (.iload_n 1, 1) := by decide +kernel
theorem dX7_appeal_2 : decode cX7_appeal 2 = .ok (.invokevirtual 291, 3) := by decide +kernel
theorem dX7_appeal_5 : decode cX7_appeal 5 = .ok (.astore_n 2, 1) := by decide +kernel
theorem dX7_appeal_6 : decode cX7_appeal 6 = .ok (.aload_n 2, 1) := by decide +kernel
theorem dX7_appeal_7 : decode cX7_appeal 7 = .ok (.getfield 287, 3) := by decide +kernel
theorem dX7_appeal_10 : decode cX7_appeal 10 = .ok (.iconst 2, 1) := by decide +kernel
theorem dX7_appeal_11 : decode cX7_appeal 11 = .ok (.if_icmp .eq 22, 3) := by decide +kernel
theorem dX7_appeal_14 : decode cX7_appeal 14 = .ok (.aload_n 2, 1) := by decide +kernel
theorem dX7_appeal_15 : decode cX7_appeal 15 = .ok (.getfield 287, 3) := by decide +kernel
theorem dX7_appeal_18 : decode cX7_appeal 18 = .ok (.iconst 3, 1) := by decide +kernel
theorem dX7_appeal_19 : decode cX7_appeal 19 = .ok (.if_icmp .eq 14, 3) := by decide +kernel
theorem dX7_appeal_22 : decode cX7_appeal 22 = .ok (.new 62, 3) := by decide +kernel
theorem dX7_appeal_25 : decode cX7_appeal 25 = .ok (.dup, 1) := by decide +kernel
theorem dX7_appeal_26 : decode cX7_appeal 26 = .ok (.ldc_w 340, 3) := by decide +kernel
theorem dX7_appeal_29 : decode cX7_appeal 29 = .ok (.invokespecial 66, 3) := by decide +kernel
theorem dX7_appeal_32 : decode cX7_appeal 32 = .ok (.athrow, 1) := by decide +kernel
theorem dX7_appeal_33 : decode cX7_appeal 33 = .ok (.aload_n 2, 1) := by decide +kernel
theorem dX7_appeal_34 : decode cX7_appeal 34 = .ok (.getfield 323, 3) := by decide +kernel
theorem dX7_appeal_37 : decode cX7_appeal 37 = .ok (.iconst (-1), 1) := by decide +kernel
theorem dX7_appeal_38 : decode cX7_appeal 38 = .ok (.if_icmp .eq 24, 3) := by decide +kernel
theorem dX7_appeal_41 : decode cX7_appeal 41 = .ok (.aload_n 2, 1) := by decide +kernel
theorem dX7_appeal_42 : decode cX7_appeal 42 = .ok (.getfield 342, 3) := by decide +kernel
theorem dX7_appeal_45 : decode cX7_appeal 45 = .ok (.ifCond .ne 17, 3) := by decide +kernel
theorem dX7_appeal_48 : decode cX7_appeal 48 = .ok (.aload_n 0, 1) := by decide +kernel
theorem dX7_appeal_49 : decode cX7_appeal 49 = .ok (.getfield 51, 3) := by decide +kernel
theorem dX7_appeal_52 : decode cX7_appeal 52 = .ok (.aload_n 2, 1) := by decide +kernel
theorem dX7_appeal_53 : decode cX7_appeal 53 = .ok (.getfield 345, 3) := by decide +kernel
theorem dX7_appeal_56 : decode cX7_appeal 56 = .ok (.isub, 1) := by decide +kernel
theorem dX7_appeal_57 : decode cX7_appeal 57 = .ok (.bipush 60, 2) := by decide +kernel
theorem dX7_appeal_59 : decode cX7_appeal 59 = .ok (.if_icmp .le 14, 3) := by decide +kernel
theorem dX7_appeal_62 : decode cX7_appeal 62 = .ok (.new 62, 3) := by decide +kernel
theorem dX7_appeal_65 : decode cX7_appeal 65 = .ok (.dup, 1) := by decide +kernel
theorem dX7_appeal_66 : decode cX7_appeal 66 = .ok (.ldc_w 348, 3) := by decide +kernel
theorem dX7_appeal_69 : decode cX7_appeal 69 = .ok (.invokespecial 66, 3) := by decide +kernel
theorem dX7_appeal_72 : decode cX7_appeal 72 = .ok (.athrow, 1) := by decide +kernel
theorem dX7_appeal_73 : decode cX7_appeal 73 = .ok (.aload_n 2, 1) := by decide +kernel
theorem dX7_appeal_74 : decode cX7_appeal 74 = .ok (.getfield 287, 3) := by decide +kernel
theorem dX7_appeal_77 : decode cX7_appeal 77 = .ok (.iconst 2, 1) := by decide +kernel
theorem dX7_appeal_78 : decode cX7_appeal 78 = .ok (.if_icmp .ne 7, 3) := by decide +kernel
theorem dX7_appeal_81 : decode cX7_appeal 81 = .ok (.iconst 1, 1) := by decide +kernel
theorem dX7_appeal_82 : decode cX7_appeal 82 = .ok (.goto 4, 3) := by decide +kernel
theorem dX7_appeal_85 : decode cX7_appeal 85 = .ok (.iconst 0, 1) := by decide +kernel
theorem dX7_appeal_86 : decode cX7_appeal 86 = .ok (.istore_n 3, 1) := by decide +kernel
theorem dX7_appeal_87 : decode cX7_appeal 87 = .ok (.aload_n 0, 1) := by decide +kernel
theorem dX7_appeal_88 : decode cX7_appeal 88 = .ok (.aload_n 2, 1) := by decide +kernel
theorem dX7_appeal_89 : decode cX7_appeal 89 = .ok (.aload_n 0, 1) := by decide +kernel
theorem dX7_appeal_90 : decode cX7_appeal 90 = .ok (.getfield 10, 3) := by decide +kernel
theorem dX7_appeal_93 : decode cX7_appeal 93 = .ok (.invokevirtual 326, 3) := by decide +kernel
theorem dX7_appeal_96 : decode cX7_appeal 96 = .ok (.istore 4, 2) := by decide +kernel
theorem dX7_appeal_98 : decode cX7_appeal 98 = .ok (.aload_n 2, 1) := by decide +kernel
theorem dX7_appeal_99 : decode cX7_appeal 99 = .ok (.iconst 1, 1) := by decide +kernel
theorem dX7_appeal_100 : decode cX7_appeal 100 = .ok (.putfield 342, 3) := by decide +kernel
theorem dX7_appeal_103 : decode cX7_appeal 103 = .ok (.aload_n 2, 1) := by decide +kernel
theorem dX7_appeal_104 : decode cX7_appeal 104 = .ok (.iload 4, 2) := by decide +kernel
theorem dX7_appeal_106 : decode cX7_appeal 106 = .ok (.aload_n 0, 1) := by decide +kernel
theorem dX7_appeal_107 : decode cX7_appeal 107 = .ok (.getfield 51, 3) := by decide +kernel
theorem dX7_appeal_110 : decode cX7_appeal 110 = .ok (.invokevirtual 330, 3) := by decide +kernel
theorem dX7_appeal_113 : decode cX7_appeal 113 = .ok (.iload_n 3, 1) := by decide +kernel
theorem dX7_appeal_114 : decode cX7_appeal 114 = .ok (.ifCond .eq 15, 3) := by decide +kernel
theorem dX7_appeal_117 : decode cX7_appeal 117 = .ok (.iload 4, 2) := by decide +kernel
theorem dX7_appeal_119 : decode cX7_appeal 119 = .ok (.ifCond .ne 10, 3) := by decide +kernel
theorem dX7_appeal_122 : decode cX7_appeal 122 = .ok (.aload_n 2, 1) := by decide +kernel
theorem dX7_appeal_123 : decode cX7_appeal 123 = .ok (.invokevirtual 350, 3) := by decide +kernel
theorem dX7_appeal_126 : decode cX7_appeal 126 = .ok (.goto 20, 3) := by decide +kernel
theorem dX7_appeal_129 : decode cX7_appeal 129 = .ok (.iload 4, 2) := by decide +kernel
theorem dX7_appeal_131 : decode cX7_appeal 131 = .ok (.ifCond .eq 15, 3) := by decide +kernel
theorem dX7_appeal_134 : decode cX7_appeal 134 = .ok (.iload_n 3, 1) := by decide +kernel
theorem dX7_appeal_135 : decode cX7_appeal 135 = .ok (.ifCond .ne 11, 3) := by decide +kernel
theorem dX7_appeal_138 : decode cX7_appeal 138 = .ok (.aload_n 2, 1) := by decide +kernel
theorem dX7_appeal_139 : decode cX7_appeal 139 = .ok (.aload_n 2, 1) := by decide +kernel
theorem dX7_appeal_140 : decode cX7_appeal 140 = .ok (.getfield 334, 3) := by decide +kernel
theorem dX7_appeal_143 : decode cX7_appeal 143 = .ok (.putfield 337, 3) := by decide +kernel
theorem dX7_appeal_146 : decode cX7_appeal 146 = .ok (.iload 4, 2) := by decide +kernel
theorem dX7_appeal_148 : decode cX7_appeal 148 = .ok (.ireturn, 1) := by decide +kernel
theorem dX7_execute_0 : decode cX7_execute 0 = .ok (.aload_n 0, 1) := by decide +kernel
theorem dX7_execute_1 : decode cX7_execute 1 = .ok (.iload_n 1, 1) := by decide +kernel
theorem dX7_execute_2 : decode cX7_execute 2 = .ok (.invokevirtual 291, 3) := by decide +kernel
theorem dX7_execute_5 : decode cX7_execute 5 = .ok (.astore_n 2, 1) := by decide +kernel
theorem dX7_execute_6 : decode cX7_execute 6 = .ok (.aload_n 2, 1) := by decide +kernel
theorem dX7_execute_7 : decode cX7_execute 7 = .ok (.getfield 287, 3) := by decide +kernel
theorem dX7_execute_10 : decode cX7_execute 10 = .ok (.iconst 2, 1) := by decide +kernel
theorem dX7_execute_11 : decode cX7_execute 11 = .ok (.if_icmp .ne 10, 3) := by decide +kernel
theorem dX7_execute_14 : decode cX7_execute 14 = .ok (.aload_n 2, 1) := by decide +kernel
theorem dX7_execute_15 : decode cX7_execute 15 = .ok (.getfield 337, 3) := by decide +kernel
theorem dX7_execute_18 : decode cX7_execute 18 = .ok (.ifCond .ne 14, 3) := by decide +kernel
theorem dX7_execute_21 : decode cX7_execute 21 = .ok (.new 62, 3) := by decide +kernel
theorem dX7_execute_24 : decode cX7_execute 24 = .ok (.dup, 1) := by decide +kernel
theorem dX7_execute_25 : decode cX7_execute 25 = .ok (.ldc_w 353, 3) := by decide +kernel
theorem dX7_execute_28 : decode cX7_execute 28 = .ok (.invokespecial 66, 3) := by decide +kernel
theorem dX7_execute_31 : decode cX7_execute 31 = .ok (.athrow, 1) := by decide +kernel
theorem dX7_execute_32 : decode cX7_execute 32 = .ok (.aload_n 2, 1) := by decide +kernel
theorem dX7_execute_33 : decode cX7_execute 33 = .ok (.invokevirtual 355, 3) := by decide +kernel
theorem dX7_execute_36 : decode cX7_execute 36 = .ok (.ifCond .ne 14, 3) := by decide +kernel
theorem dX7_execute_39 : decode cX7_execute 39 = .ok (.new 62, 3) := by decide +kernel
theorem dX7_execute_42 : decode cX7_execute 42 = .ok (.dup, 1) := by decide +kernel
theorem dX7_execute_43 : decode cX7_execute 43 = .ok (.ldc_w 358, 3) := by decide +kernel
theorem dX7_execute_46 : decode cX7_execute 46 = .ok (.invokespecial 66, 3) := by decide +kernel
theorem dX7_execute_49 : decode cX7_execute 49 = .ok (.athrow, 1) := by decide +kernel
theorem dX7_execute_50 : decode cX7_execute 50 = .ok (.aload_n 2, 1) := by decide +kernel
theorem dX7_execute_51 : decode cX7_execute 51 = .ok (.getfield 299, 3) := by decide +kernel
theorem dX7_execute_54 : decode cX7_execute 54 = .ok (.aload_n 2, 1) := by decide +kernel
theorem dX7_execute_55 : decode cX7_execute 55 = .ok (.getfield 337, 3) := by decide +kernel
theorem dX7_execute_58 : decode cX7_execute 58 = .ok (.aload_n 2, 1) := by decide +kernel
theorem dX7_execute_59 : decode cX7_execute 59 = .ok (.getfield 360, 3) := by decide +kernel
theorem dX7_execute_62 : decode cX7_execute 62 = .ok (.invokevirtual 363, 3) := by decide +kernel
theorem dX7_execute_65 : decode cX7_execute 65 = .ok (.istore_n 3, 1) := by decide +kernel
theorem dX7_execute_66 : decode cX7_execute 66 = .ok (.aload_n 2, 1) := by decide +kernel
theorem dX7_execute_67 : decode cX7_execute 67 = .ok (.dup, 1) := by decide +kernel
theorem dX7_execute_68 : decode cX7_execute 68 = .ok (.getfield 337, 3) := by decide +kernel
theorem dX7_execute_71 : decode cX7_execute 71 = .ok (.iload_n 3, 1) := by decide +kernel
theorem dX7_execute_72 : decode cX7_execute 72 = .ok (.isub, 1) := by decide +kernel
theorem dX7_execute_73 : decode cX7_execute 73 = .ok (.putfield 337, 3) := by decide +kernel
theorem dX7_execute_76 : decode cX7_execute 76 = .ok (.iload_n 3, 1) := by decide +kernel
theorem dX7_execute_77 : decode cX7_execute 77 = .ok (.i2l, 1) := by decide +kernel
theorem dX7_execute_78 : decode cX7_execute 78 = .ok (.lreturn, 1) := by decide +kernel
theorem dX7_wins_0 : decode cX7_wins 0 = .ok (.aload_n 0, 1) := by decide +kernel
theorem dX7_wins_1 : decode cX7_wins 1 = .ok (.iload_n 1, 1) := by decide +kernel
theorem dX7_wins_2 : decode cX7_wins 2 = .ok (.invokevirtual 291, 3) := by decide +kernel
theorem dX7_wins_5 : decode cX7_wins 5 = .ok (.astore_n 3, 1) := by decide +kernel
theorem dX7_wins_6 : decode cX7_wins 6 = .ok (.aload_n 0, 1) := by decide +kernel
theorem dX7_wins_7 : decode cX7_wins 7 = .ok (.aload_n 3, 1) := by decide +kernel
theorem dX7_wins_8 : decode cX7_wins 8 = .ok (.aload_n 0, 1) := by decide +kernel
theorem dX7_wins_9 : decode cX7_wins 9 = .ok (.iload_n 2, 1) := by decide +kernel
theorem dX7_wins_10 : decode cX7_wins 10 = .ok (.invokevirtual 95, 3) := by decide +kernel
theorem dX7_wins_13 : decode cX7_wins 13 = .ok (.invokevirtual 326, 3) := by decide +kernel
theorem dX7_wins_16 : decode cX7_wins 16 = .ok (.ireturn, 1) := by decide +kernel
theorem dX7_ofPerson_0 : decode cX7_ofPerson 0 = .ok (.aload_n 0, 1) := by decide +kernel
theorem dX7_ofPerson_1 : decode cX7_ofPerson 1 = .ok (.iload_n 1, 1) := by decide +kernel
theorem dX7_ofPerson_2 : decode cX7_ofPerson 2 = .ok (.invokevirtual 123, 3) := by decide +kernel
theorem dX7_ofPerson_5 : decode cX7_ofPerson 5 = .ok (.astore_n 3, 1) := by decide +kernel
theorem dX7_ofPerson_6 : decode cX7_ofPerson 6 = .ok (.iload_n 2, 1) := by decide +kernel
theorem dX7_ofPerson_7 : decode cX7_ofPerson 7 = .ok (.tableswitch 82 0 5 #[37, 42, 55, 62, 68, 75], 37) := by decide +kernel
theorem dX7_ofPerson_44 : decode cX7_ofPerson 44 = .ok (.aload_n 3, 1) := by decide +kernel
theorem dX7_ofPerson_45 : decode cX7_ofPerson 45 = .ok (.getfield 256, 3) := by decide +kernel
theorem dX7_ofPerson_48 : decode cX7_ofPerson 48 = .ok (.lreturn, 1) := by decide +kernel
theorem dX7_ofPerson_49 : decode cX7_ofPerson 49 = .ok (.aload_n 3, 1) := by decide +kernel
theorem dX7_ofPerson_50 : decode cX7_ofPerson 50 = .ok (.getfield 251, 3) := by decide +kernel
theorem dX7_ofPerson_53 : decode cX7_ofPerson 53 = .ok (.ifCond .eq 7, 3) := by decide +kernel
theorem dX7_ofPerson_56 : decode cX7_ofPerson 56 = .ok (.lconst 1, 1) := by decide +kernel
theorem dX7_ofPerson_57 : decode cX7_ofPerson 57 = .ok (.goto 4, 3) := by decide +kernel
theorem dX7_ofPerson_60 : decode cX7_ofPerson 60 = .ok (.lconst 0, 1) := by decide +kernel
theorem dX7_ofPerson_61 : decode cX7_ofPerson 61 = .ok (.lreturn, 1) := by decide +kernel
theorem dX7_ofPerson_62 : decode cX7_ofPerson 62 = .ok (.aload_n 0, 1) := by decide +kernel
theorem dX7_ofPerson_63 : decode cX7_ofPerson 63 = .ok (.aload_n 3, 1) := by decide +kernel
theorem dX7_ofPerson_64 : decode cX7_ofPerson 64 = .ok (.invokevirtual 367, 3) := by decide +kernel
theorem dX7_ofPerson_67 : decode cX7_ofPerson 67 = .ok (.i2l, 1) := by decide +kernel
theorem dX7_ofPerson_68 : decode cX7_ofPerson 68 = .ok (.lreturn, 1) := by decide +kernel
theorem dX7_ofPerson_69 : decode cX7_ofPerson 69 = .ok (.aload_n 3, 1) := by decide +kernel
theorem dX7_ofPerson_70 : decode cX7_ofPerson 70 = .ok (.getfield 190, 3) := by decide +kernel
theorem dX7_ofPerson_73 : decode cX7_ofPerson 73 = .ok (.i2l, 1) := by decide +kernel
theorem dX7_ofPerson_74 : decode cX7_ofPerson 74 = .ok (.lreturn, 1) := by decide +kernel
theorem dX7_ofPerson_75 : decode cX7_ofPerson 75 = .ok (.aload_n 0, 1) := by decide +kernel
theorem dX7_ofPerson_76 : decode cX7_ofPerson 76 = .ok (.aload_n 3, 1) := by decide +kernel
theorem dX7_ofPerson_77 : decode cX7_ofPerson 77 = .ok (.invokevirtual 371, 3) := by decide +kernel
theorem dX7_ofPerson_80 : decode cX7_ofPerson 80 = .ok (.i2l, 1) := by decide +kernel
theorem dX7_ofPerson_81 : decode cX7_ofPerson 81 = .ok (.lreturn, 1) := by decide +kernel
theorem dX7_ofPerson_82 : decode cX7_ofPerson 82 = .ok (.aload_n 0, 1) := by decide +kernel
theorem dX7_ofPerson_83 : decode cX7_ofPerson 83 = .ok (.aload_n 3, 1) := by decide +kernel
theorem dX7_ofPerson_84 : decode cX7_ofPerson 84 = .ok (.invokevirtual 374, 3) := by decide +kernel
theorem dX7_ofPerson_87 : decode cX7_ofPerson 87 = .ok (.i2l, 1) := by decide +kernel
theorem dX7_ofPerson_88 : decode cX7_ofPerson 88 = .ok (.lreturn, 1) := by decide +kernel
theorem dX7_ofPerson_89 : decode cX7_ofPerson 89 = .ok (.new 148, 3) := by decide +kernel
theorem dX7_ofPerson_92 : decode cX7_ofPerson 92 = .ok (.dup, 1) := by decide +kernel
theorem dX7_ofPerson_93 : decode cX7_ofPerson 93 = .ok (.ldc_w 377, 3) := by decide +kernel
theorem dX7_ofPerson_96 : decode cX7_ofPerson 96 = .ok (.invokespecial 152, 3) := by decide +kernel
theorem dX7_ofPerson_99 : decode cX7_ofPerson 99 = .ok (.athrow, 1) := by decide +kernel
theorem dX7_ofMarriage_0 : decode cX7_ofMarriage 0 = .ok (.aload_n 0, 1) := by decide +kernel
theorem dX7_ofMarriage_1 : decode cX7_ofMarriage 1 = .ok (.iload_n 1, 1) := by decide +kernel
theorem dX7_ofMarriage_2 : decode cX7_ofMarriage 2 = .ok (.invokevirtual 222, 3) := by decide +kernel
theorem dX7_ofMarriage_5 : decode cX7_ofMarriage 5 = .ok (.astore_n 3, 1) := by decide +kernel
theorem dX7_ofMarriage_6 : decode cX7_ofMarriage 6 = .ok (.iload_n 2, 1) := by decide +kernel
theorem dX7_ofMarriage_7 : decode cX7_ofMarriage 7 = .ok (.tableswitch 64 0 4 #[33, 38, 46, 54, 59], 33) := by decide +kernel
theorem dX7_ofMarriage_40 : decode cX7_ofMarriage 40 = .ok (.aload_n 3, 1) := by decide +kernel
theorem dX7_ofMarriage_41 : decode cX7_ofMarriage 41 = .ok (.getfield 226, 3) := by decide +kernel
theorem dX7_ofMarriage_44 : decode cX7_ofMarriage 44 = .ok (.ireturn, 1) := by decide +kernel
theorem dX7_ofMarriage_45 : decode cX7_ofMarriage 45 = .ok (.aload_n 3, 1) := by decide +kernel
theorem dX7_ofMarriage_46 : decode cX7_ofMarriage 46 = .ok (.getfield 237, 3) := by decide +kernel
theorem dX7_ofMarriage_49 : decode cX7_ofMarriage 49 = .ok (.getfield 379, 3) := by decide +kernel
theorem dX7_ofMarriage_52 : decode cX7_ofMarriage 52 = .ok (.ireturn, 1) := by decide +kernel
theorem dX7_ofMarriage_53 : decode cX7_ofMarriage 53 = .ok (.aload_n 3, 1) := by decide +kernel
theorem dX7_ofMarriage_54 : decode cX7_ofMarriage 54 = .ok (.getfield 241, 3) := by decide +kernel
theorem dX7_ofMarriage_57 : decode cX7_ofMarriage 57 = .ok (.getfield 379, 3) := by decide +kernel
theorem dX7_ofMarriage_60 : decode cX7_ofMarriage 60 = .ok (.ireturn, 1) := by decide +kernel
theorem dX7_ofMarriage_61 : decode cX7_ofMarriage 61 = .ok (.aload_n 3, 1) := by decide +kernel
theorem dX7_ofMarriage_62 : decode cX7_ofMarriage 62 = .ok (.getfield 382, 3) := by decide +kernel
theorem dX7_ofMarriage_65 : decode cX7_ofMarriage 65 = .ok (.ireturn, 1) := by decide +kernel
theorem dX7_ofMarriage_66 : decode cX7_ofMarriage 66 = .ok (.aload_n 3, 1) := by decide +kernel
theorem dX7_ofMarriage_67 : decode cX7_ofMarriage 67 = .ok (.getfield 383, 3) := by decide +kernel
theorem dX7_ofMarriage_70 : decode cX7_ofMarriage 70 = .ok (.ireturn, 1) := by decide +kernel
theorem dX7_ofMarriage_71 : decode cX7_ofMarriage 71 = .ok (.new 148, 3) := by decide +kernel
theorem dX7_ofMarriage_74 : decode cX7_ofMarriage 74 = .ok (.dup, 1) := by decide +kernel
theorem dX7_ofMarriage_75 : decode cX7_ofMarriage 75 = .ok (.ldc_w 377, 3) := by decide +kernel
theorem dX7_ofMarriage_78 : decode cX7_ofMarriage 78 = .ok (.invokespecial 152, 3) := by decide +kernel
theorem dX7_ofMarriage_81 : decode cX7_ofMarriage 81 = .ok (.athrow, 1) := by decide +kernel
theorem dX7_ofSuit_0 : decode cX7_ofSuit 0 = .ok (.aload_n 0, 1) := by decide +kernel
theorem dX7_ofSuit_1 : decode cX7_ofSuit 1 = .ok (.iload_n 1, 1) := by decide +kernel
theorem dX7_ofSuit_2 : decode cX7_ofSuit 2 = .ok (.invokevirtual 291, 3) := by decide +kernel
theorem dX7_ofSuit_5 : decode cX7_ofSuit 5 = .ok (.astore_n 3, 1) := by decide +kernel
theorem dX7_ofSuit_6 : decode cX7_ofSuit 6 = .ok (.iload_n 2, 1) := by decide +kernel
theorem dX7_ofSuit_7 : decode cX7_ofSuit 7 = .ok (.tableswitch 61 0 4 #[33, 38, 43, 51, 56], 33) := by decide +kernel
theorem dX7_ofSuit_40 : decode cX7_ofSuit 40 = .ok (.aload_n 3, 1) := by decide +kernel
theorem dX7_ofSuit_41 : decode cX7_ofSuit 41 = .ok (.getfield 287, 3) := by decide +kernel
theorem dX7_ofSuit_44 : decode cX7_ofSuit 44 = .ok (.ireturn, 1) := by decide +kernel
theorem dX7_ofSuit_45 : decode cX7_ofSuit 45 = .ok (.aload_n 3, 1) := by decide +kernel
theorem dX7_ofSuit_46 : decode cX7_ofSuit 46 = .ok (.getfield 323, 3) := by decide +kernel
theorem dX7_ofSuit_49 : decode cX7_ofSuit 49 = .ok (.ireturn, 1) := by decide +kernel
theorem dX7_ofSuit_50 : decode cX7_ofSuit 50 = .ok (.aload_n 3, 1) := by decide +kernel
theorem dX7_ofSuit_51 : decode cX7_ofSuit 51 = .ok (.getfield 313, 3) := by decide +kernel
theorem dX7_ofSuit_54 : decode cX7_ofSuit 54 = .ok (.invokevirtual 58, 3) := by decide +kernel
theorem dX7_ofSuit_57 : decode cX7_ofSuit 57 = .ok (.ireturn, 1) := by decide +kernel
theorem dX7_ofSuit_58 : decode cX7_ofSuit 58 = .ok (.aload_n 3, 1) := by decide +kernel
theorem dX7_ofSuit_59 : decode cX7_ofSuit 59 = .ok (.getfield 337, 3) := by decide +kernel
theorem dX7_ofSuit_62 : decode cX7_ofSuit 62 = .ok (.ireturn, 1) := by decide +kernel
theorem dX7_ofSuit_63 : decode cX7_ofSuit 63 = .ok (.aload_n 3, 1) := by decide +kernel
theorem dX7_ofSuit_64 : decode cX7_ofSuit 64 = .ok (.getfield 345, 3) := by decide +kernel
theorem dX7_ofSuit_67 : decode cX7_ofSuit 67 = .ok (.ireturn, 1) := by decide +kernel
theorem dX7_ofSuit_68 : decode cX7_ofSuit 68 = .ok (.new 148, 3) := by decide +kernel
theorem dX7_ofSuit_71 : decode cX7_ofSuit 71 = .ok (.dup, 1) := by decide +kernel
theorem dX7_ofSuit_72 : decode cX7_ofSuit 72 = .ok (.ldc_w 377, 3) := by decide +kernel
theorem dX7_ofSuit_75 : decode cX7_ofSuit 75 = .ok (.invokespecial 152, 3) := by decide +kernel
theorem dX7_ofSuit_78 : decode cX7_ofSuit 78 = .ok (.athrow, 1) := by decide +kernel
theorem dX7_treasury_0 : decode cX7_treasury 0 = .ok (.aload_n 0, 1) := by decide +kernel
theorem dX7_treasury_1 : decode cX7_treasury 1 = .ok (.getfield 54, 3) := by decide +kernel
theorem dX7_treasury_4 : decode cX7_treasury 4 = .ok (.lreturn, 1) := by decide +kernel
theorem dX7_all_0 : decode cX7_all 0 = .ok (.aload_n 0, 1) := by decide +kernel
theorem dX7_all_1 : decode cX7_all 1 = .ok (.getfield 54, 3) := by decide +kernel
theorem dX7_all_4 : decode cX7_all 4 = .ok (.lstore_n 1, 1) := by decide +kernel
theorem dX7_all_5 : decode cX7_all 5 = .ok (.iconst 0, 1) := by decide +kernel
theorem dX7_all_6 : decode cX7_all 6 = .ok (.istore_n 3, 1) := by decide +kernel
theorem dX7_all_7 : decode cX7_all 7 = .ok (.iload_n 3, 1) := by decide +kernel
theorem dX7_all_8 : decode cX7_all 8 = .ok (.aload_n 0, 1) := by decide +kernel
theorem dX7_all_9 : decode cX7_all 9 = .ok (.getfield 35, 3) := by decide +kernel
theorem dX7_all_12 : decode cX7_all 12 = .ok (.invokevirtual 58, 3) := by decide +kernel
theorem dX7_all_15 : decode cX7_all 15 = .ok (.if_icmp .ge 26, 3) := by decide +kernel
theorem dX7_all_18 : decode cX7_all 18 = .ok (.lload_n 1, 1) := by decide +kernel
theorem dX7_all_19 : decode cX7_all 19 = .ok (.aload_n 0, 1) := by decide +kernel
theorem dX7_all_20 : decode cX7_all 20 = .ok (.getfield 35, 3) := by decide +kernel
theorem dX7_all_23 : decode cX7_all 23 = .ok (.iload_n 3, 1) := by decide +kernel
theorem dX7_all_24 : decode cX7_all 24 = .ok (.invokevirtual 384, 3) := by decide +kernel
theorem dX7_all_27 : decode cX7_all 27 = .ok (.checkcast 128, 3) := by decide +kernel
theorem dX7_all_30 : decode cX7_all 30 = .ok (.getfield 256, 3) := by decide +kernel
theorem dX7_all_33 : decode cX7_all 33 = .ok (.ladd, 1) := by decide +kernel
theorem dX7_all_34 : decode cX7_all 34 = .ok (.lstore_n 1, 1) := by decide +kernel
theorem dX7_all_35 : decode cX7_all 35 = .ok (.iinc 3 1, 3) := by decide +kernel
theorem dX7_all_38 : decode cX7_all 38 = .ok (.goto (-31), 3) := by decide +kernel
theorem dX7_all_41 : decode cX7_all 41 = .ok (.lload_n 1, 1) := by decide +kernel
theorem dX7_all_42 : decode cX7_all 42 = .ok (.lreturn, 1) := by decide +kernel
theorem dX7_pass_0 : decode cX7_pass 0 = .ok (.iload_n 1, 1) := by decide +kernel
theorem dX7_pass_1 : decode cX7_pass 1 = .ok (.iconst 1, 1) := by decide +kernel
theorem dX7_pass_2 : decode cX7_pass 2 = .ok (.sipush 2000, 3) := by decide +kernel
theorem dX7_pass_5 : decode cX7_pass 5 = .ok (.invokestatic 102, 3) := by decide +kernel
theorem dX7_pass_8 : decode cX7_pass 8 = .ok (.iload_n 1, 1) := by decide +kernel
theorem dX7_pass_9 : decode cX7_pass 9 = .ok (.sipush 30000, 3) := by decide +kernel
theorem dX7_pass_12 : decode cX7_pass 12 = .ok (.aload_n 0, 1) := by decide +kernel
theorem dX7_pass_13 : decode cX7_pass 13 = .ok (.getfield 51, 3) := by decide +kernel
theorem dX7_pass_16 : decode cX7_pass 16 = .ok (.isub, 1) := by decide +kernel
theorem dX7_pass_17 : decode cX7_pass 17 = .ok (.if_icmp .le 14, 3) := by decide +kernel
theorem dX7_pass_20 : decode cX7_pass 20 = .ok (.new 62, 3) := by decide +kernel
theorem dX7_pass_23 : decode cX7_pass 23 = .ok (.dup, 1) := by decide +kernel
theorem dX7_pass_24 : decode cX7_pass 24 = .ok (.ldc_w 388, 3) := by decide +kernel
theorem dX7_pass_27 : decode cX7_pass 27 = .ok (.invokespecial 66, 3) := by decide +kernel
theorem dX7_pass_30 : decode cX7_pass 30 = .ok (.athrow, 1) := by decide +kernel
theorem dX7_pass_31 : decode cX7_pass 31 = .ok (.iconst 0, 1) := by decide +kernel
theorem dX7_pass_32 : decode cX7_pass 32 = .ok (.istore_n 2, 1) := by decide +kernel
theorem dX7_pass_33 : decode cX7_pass 33 = .ok (.iload_n 2, 1) := by decide +kernel
theorem dX7_pass_34 : decode cX7_pass 34 = .ok (.iload_n 1, 1) := by decide +kernel
theorem dX7_pass_35 : decode cX7_pass 35 = .ok (.if_icmp .ge 23, 3) := by decide +kernel
theorem dX7_pass_38 : decode cX7_pass 38 = .ok (.aload_n 0, 1) := by decide +kernel
theorem dX7_pass_39 : decode cX7_pass 39 = .ok (.dup, 1) := by decide +kernel
theorem dX7_pass_40 : decode cX7_pass 40 = .ok (.getfield 51, 3) := by decide +kernel
theorem dX7_pass_43 : decode cX7_pass 43 = .ok (.iconst 1, 1) := by decide +kernel
theorem dX7_pass_44 : decode cX7_pass 44 = .ok (.iadd, 1) := by decide +kernel
theorem dX7_pass_45 : decode cX7_pass 45 = .ok (.putfield 51, 3) := by decide +kernel
theorem dX7_pass_48 : decode cX7_pass 48 = .ok (.aload_n 0, 1) := by decide +kernel
theorem dX7_pass_49 : decode cX7_pass 49 = .ok (.invokevirtual 390, 3) := by decide +kernel
theorem dX7_pass_52 : decode cX7_pass 52 = .ok (.iinc 2 1, 3) := by decide +kernel
theorem dX7_pass_55 : decode cX7_pass 55 = .ok (.goto (-22), 3) := by decide +kernel
theorem dX7_pass_58 : decode cX7_pass 58 = .ok (.aload_n 0, 1) := by decide +kernel
theorem dX7_pass_59 : decode cX7_pass 59 = .ok (.getfield 51, 3) := by decide +kernel
theorem dX7_pass_62 : decode cX7_pass 62 = .ok (.ireturn, 1) := by decide +kernel
theorem dX7_needWithin_0 : decode cX7_needWithin 0 = .ok (.iload_n 0, 1) := by decide +kernel
theorem dX7_needWithin_1 : decode cX7_needWithin 1 = .ok (.iload_n 1, 1) := by decide +kernel
theorem dX7_needWithin_2 : decode cX7_needWithin 2 = .ok (.if_icmp .lt 8, 3) := by decide +kernel
theorem dX7_needWithin_5 : decode cX7_needWithin 5 = .ok (.iload_n 0, 1) := by decide +kernel
theorem dX7_needWithin_6 : decode cX7_needWithin 6 = .ok (.iload_n 2, 1) := by decide +kernel
theorem dX7_needWithin_7 : decode cX7_needWithin 7 = .ok (.if_icmp .le 14, 3) := by decide +kernel
theorem dX7_needWithin_10 : decode cX7_needWithin 10 = .ok (.new 148, 3) := by decide +kernel
theorem dX7_needWithin_13 : decode cX7_needWithin 13 = .ok (.dup, 1) := by decide +kernel
theorem dX7_needWithin_14 : decode cX7_needWithin 14 = .ok (.ldc_w 393, 3) := by decide +kernel
theorem dX7_needWithin_17 : decode cX7_needWithin 17 = .ok (.invokespecial 152, 3) := by decide +kernel
theorem dX7_needWithin_20 : decode cX7_needWithin 20 = .ok (.athrow, 1) := by decide +kernel
theorem dX7_needWithin_21 : decode cX7_needWithin 21 = .ok (.return_, 1) := by decide +kernel
theorem dX7_communityAt_0 : decode cX7_communityAt 0 = .ok (.iload_n 1, 1) := by decide +kernel
theorem dX7_communityAt_1 : decode cX7_communityAt 1 = .ok (.ifCond .lt 14, 3) := by decide +kernel
theorem dX7_communityAt_4 : decode cX7_communityAt 4 = .ok (.iload_n 1, 1) := by decide +kernel
theorem dX7_communityAt_5 : decode cX7_communityAt 5 = .ok (.aload_n 0, 1) := by decide +kernel
theorem dX7_communityAt_6 : decode cX7_communityAt 6 = .ok (.getfield 19, 3) := by decide +kernel
theorem dX7_communityAt_9 : decode cX7_communityAt 9 = .ok (.invokevirtual 58, 3) := by decide +kernel
theorem dX7_communityAt_12 : decode cX7_communityAt 12 = .ok (.if_icmp .lt 14, 3) := by decide +kernel
theorem dX7_communityAt_15 : decode cX7_communityAt 15 = .ok (.new 395, 3) := by decide +kernel
theorem dX7_communityAt_18 : decode cX7_communityAt 18 = .ok (.dup, 1) := by decide +kernel
theorem dX7_communityAt_19 : decode cX7_communityAt 19 = .ok (.ldc_w 397, 3) := by decide +kernel
theorem dX7_communityAt_22 : decode cX7_communityAt 22 = .ok (.invokespecial 399, 3) := by decide +kernel
theorem dX7_communityAt_25 : decode cX7_communityAt 25 = .ok (.athrow, 1) := by decide +kernel
theorem dX7_communityAt_26 : decode cX7_communityAt 26 = .ok (.aload_n 0, 1) := by decide +kernel
theorem dX7_communityAt_27 : decode cX7_communityAt 27 = .ok (.getfield 19, 3) := by decide +kernel
theorem dX7_communityAt_30 : decode cX7_communityAt 30 = .ok (.iload_n 1, 1) := by decide +kernel
theorem dX7_communityAt_31 : decode cX7_communityAt 31 = .ok (.invokevirtual 384, 3) := by decide +kernel
theorem dX7_communityAt_34 : decode cX7_communityAt 34 = .ok (.checkcast 69, 3) := by decide +kernel
theorem dX7_communityAt_37 : decode cX7_communityAt 37 = .ok (.areturn, 1) := by decide +kernel
theorem dX7_lawAt_0 : decode cX7_lawAt 0 = .ok (.iload_n 1, 1) := by decide +kernel
theorem dX7_lawAt_1 : decode cX7_lawAt 1 = .ok (.iconst (-1), 1) := by decide +kernel
theorem dX7_lawAt_2 : decode cX7_lawAt 2 = .ok (.if_icmp .ne 10, 3) := by decide +kernel
theorem dX7_lawAt_5 : decode cX7_lawAt 5 = .ok (.aload_n 0, 1) := by decide +kernel
theorem dX7_lawAt_6 : decode cX7_lawAt 6 = .ok (.getfield 10, 3) := by decide +kernel
theorem dX7_lawAt_9 : decode cX7_lawAt 9 = .ok (.goto 11, 3) := by decide +kernel
theorem dX7_lawAt_12 : decode cX7_lawAt 12 = .ok (.aload_n 0, 1) := by decide +kernel
theorem dX7_lawAt_13 : decode cX7_lawAt 13 = .ok (.iload_n 1, 1) := by decide +kernel
theorem dX7_lawAt_14 : decode cX7_lawAt 14 = .ok (.invokevirtual 78, 3) := by decide +kernel
theorem dX7_lawAt_17 : decode cX7_lawAt 17 = .ok (.getfield 400, 3) := by decide +kernel
theorem dX7_lawAt_20 : decode cX7_lawAt 20 = .ok (.areturn, 1) := by decide +kernel
theorem dX7_personAt_0 : decode cX7_personAt 0 = .ok (.iload_n 1, 1) := by decide +kernel
theorem dX7_personAt_1 : decode cX7_personAt 1 = .ok (.ifCond .lt 14, 3) := by decide +kernel
theorem dX7_personAt_4 : decode cX7_personAt 4 = .ok (.iload_n 1, 1) := by decide +kernel
theorem dX7_personAt_5 : decode cX7_personAt 5 = .ok (.aload_n 0, 1) := by decide +kernel
theorem dX7_personAt_6 : decode cX7_personAt 6 = .ok (.getfield 35, 3) := by decide +kernel
theorem dX7_personAt_9 : decode cX7_personAt 9 = .ok (.invokevirtual 58, 3) := by decide +kernel
theorem dX7_personAt_12 : decode cX7_personAt 12 = .ok (.if_icmp .lt 14, 3) := by decide +kernel
theorem dX7_personAt_15 : decode cX7_personAt 15 = .ok (.new 395, 3) := by decide +kernel
theorem dX7_personAt_18 : decode cX7_personAt 18 = .ok (.dup, 1) := by decide +kernel
theorem dX7_personAt_19 : decode cX7_personAt 19 = .ok (.ldc_w 403, 3) := by decide +kernel
theorem dX7_personAt_22 : decode cX7_personAt 22 = .ok (.invokespecial 399, 3) := by decide +kernel
theorem dX7_personAt_25 : decode cX7_personAt 25 = .ok (.athrow, 1) := by decide +kernel
theorem dX7_personAt_26 : decode cX7_personAt 26 = .ok (.aload_n 0, 1) := by decide +kernel
theorem dX7_personAt_27 : decode cX7_personAt 27 = .ok (.getfield 35, 3) := by decide +kernel
theorem dX7_personAt_30 : decode cX7_personAt 30 = .ok (.iload_n 1, 1) := by decide +kernel
theorem dX7_personAt_31 : decode cX7_personAt 31 = .ok (.invokevirtual 384, 3) := by decide +kernel
theorem dX7_personAt_34 : decode cX7_personAt 34 = .ok (.checkcast 128, 3) := by decide +kernel
theorem dX7_personAt_37 : decode cX7_personAt 37 = .ok (.areturn, 1) := by decide +kernel
theorem dX7_personOrNullAt_0 : decode cX7_personOrNullAt 0 = .ok (.iload_n 1, 1) := by decide +kernel
theorem dX7_personOrNullAt_1 : decode cX7_personOrNullAt 1 = .ok (.iconst (-1), 1) := by decide +kernel
theorem dX7_personOrNullAt_2 : decode cX7_personOrNullAt 2 = .ok (.if_icmp .ne 7, 3) := by decide +kernel
theorem dX7_personOrNullAt_5 : decode cX7_personOrNullAt 5 = .ok (.aconst_null, 1) := by decide +kernel
theorem dX7_personOrNullAt_6 : decode cX7_personOrNullAt 6 = .ok (.goto 8, 3) := by decide +kernel
theorem dX7_personOrNullAt_9 : decode cX7_personOrNullAt 9 = .ok (.aload_n 0, 1) := by decide +kernel
theorem dX7_personOrNullAt_10 : decode cX7_personOrNullAt 10 = .ok (.iload_n 1, 1) := by decide +kernel
theorem dX7_personOrNullAt_11 : decode cX7_personOrNullAt 11 = .ok (.invokevirtual 123, 3) := by decide +kernel
theorem dX7_personOrNullAt_14 : decode cX7_personOrNullAt 14 = .ok (.areturn, 1) := by decide +kernel
theorem dX7_marriageAt_0 : decode cX7_marriageAt 0 = .ok (.iload_n 1, 1) := by decide +kernel
theorem dX7_marriageAt_1 : decode cX7_marriageAt 1 = .ok (.ifCond .lt 14, 3) := by decide +kernel
theorem dX7_marriageAt_4 : decode cX7_marriageAt 4 = .ok (.iload_n 1, 1) := by decide +kernel
theorem dX7_marriageAt_5 : decode cX7_marriageAt 5 = .ok (.aload_n 0, 1) := by decide +kernel
theorem dX7_marriageAt_6 : decode cX7_marriageAt 6 = .ok (.getfield 38, 3) := by decide +kernel
theorem dX7_marriageAt_9 : decode cX7_marriageAt 9 = .ok (.invokevirtual 58, 3) := by decide +kernel
theorem dX7_marriageAt_12 : decode cX7_marriageAt 12 = .ok (.if_icmp .lt 14, 3) := by decide +kernel
theorem dX7_marriageAt_15 : decode cX7_marriageAt 15 = .ok (.new 395, 3) := by decide +kernel
theorem dX7_marriageAt_18 : decode cX7_marriageAt 18 = .ok (.dup, 1) := by decide +kernel
theorem dX7_marriageAt_19 : decode cX7_marriageAt 19 = .ok (.ldc_w 405, 3) := by decide +kernel
theorem dX7_marriageAt_22 : decode cX7_marriageAt 22 = .ok (.invokespecial 399, 3) := by decide +kernel
theorem dX7_marriageAt_25 : decode cX7_marriageAt 25 = .ok (.athrow, 1) := by decide +kernel
theorem dX7_marriageAt_26 : decode cX7_marriageAt 26 = .ok (.aload_n 0, 1) := by decide +kernel
theorem dX7_marriageAt_27 : decode cX7_marriageAt 27 = .ok (.getfield 38, 3) := by decide +kernel
theorem dX7_marriageAt_30 : decode cX7_marriageAt 30 = .ok (.iload_n 1, 1) := by decide +kernel
theorem dX7_marriageAt_31 : decode cX7_marriageAt 31 = .ok (.invokevirtual 384, 3) := by decide +kernel
theorem dX7_marriageAt_34 : decode cX7_marriageAt 34 = .ok (.checkcast 217, 3) := by decide +kernel
theorem dX7_marriageAt_37 : decode cX7_marriageAt 37 = .ok (.areturn, 1) := by decide +kernel
theorem dX7_suitAt_0 : decode cX7_suitAt 0 = .ok (.iload_n 1, 1) := by decide +kernel
theorem dX7_suitAt_1 : decode cX7_suitAt 1 = .ok (.ifCond .lt 14, 3) := by decide +kernel
theorem dX7_suitAt_4 : decode cX7_suitAt 4 = .ok (.iload_n 1, 1) := by decide +kernel
theorem dX7_suitAt_5 : decode cX7_suitAt 5 = .ok (.aload_n 0, 1) := by decide +kernel
theorem dX7_suitAt_6 : decode cX7_suitAt 6 = .ok (.getfield 41, 3) := by decide +kernel
theorem dX7_suitAt_9 : decode cX7_suitAt 9 = .ok (.invokevirtual 58, 3) := by decide +kernel
theorem dX7_suitAt_12 : decode cX7_suitAt 12 = .ok (.if_icmp .lt 14, 3) := by decide +kernel
theorem dX7_suitAt_15 : decode cX7_suitAt 15 = .ok (.new 395, 3) := by decide +kernel
theorem dX7_suitAt_18 : decode cX7_suitAt 18 = .ok (.dup, 1) := by decide +kernel
theorem dX7_suitAt_19 : decode cX7_suitAt 19 = .ok (.ldc_w 407, 3) := by decide +kernel
theorem dX7_suitAt_22 : decode cX7_suitAt 22 = .ok (.invokespecial 399, 3) := by decide +kernel
theorem dX7_suitAt_25 : decode cX7_suitAt 25 = .ok (.athrow, 1) := by decide +kernel
theorem dX7_suitAt_26 : decode cX7_suitAt 26 = .ok (.aload_n 0, 1) := by decide +kernel
theorem dX7_suitAt_27 : decode cX7_suitAt 27 = .ok (.getfield 41, 3) := by decide +kernel
theorem dX7_suitAt_30 : decode cX7_suitAt 30 = .ok (.iload_n 1, 1) := by decide +kernel
theorem dX7_suitAt_31 : decode cX7_suitAt 31 = .ok (.invokevirtual 384, 3) := by decide +kernel
theorem dX7_suitAt_34 : decode cX7_suitAt 34 = .ok (.checkcast 280, 3) := by decide +kernel
theorem dX7_suitAt_37 : decode cX7_suitAt 37 = .ok (.areturn, 1) := by decide +kernel
theorem dX7_needSeised_0 : decode cX7_needSeised 0 = .ok (.aload_n 0, 1) := by decide +kernel
theorem dX7_needSeised_1 : decode cX7_needSeised 1 = .ok (.getfield 287, 3) := by decide +kernel
theorem dX7_needSeised_4 : decode cX7_needSeised 4 = .ok (.ifCond .eq 14, 3) := by decide +kernel
theorem dX7_needSeised_7 : decode cX7_needSeised 7 = .ok (.new 62, 3) := by decide +kernel
theorem dX7_needSeised_10 : decode cX7_needSeised 10 = .ok (.dup, 1) := by decide +kernel
theorem dX7_needSeised_11 : decode cX7_needSeised 11 = .ok (.ldc_w 409, 3) := by decide +kernel
theorem dX7_needSeised_14 : decode cX7_needSeised 14 = .ok (.invokespecial 66, 3) := by decide +kernel
theorem dX7_needSeised_17 : decode cX7_needSeised 17 = .ok (.athrow, 1) := by decide +kernel
theorem dX7_needSeised_18 : decode cX7_needSeised 18 = .ok (.return_, 1) := by decide +kernel
theorem dX7_chroniclesFrom_0 : decode cX7_chroniclesFrom 0 = .ok (.aload_n 0, 1) := by decide +kernel
theorem dX7_chroniclesFrom_1 : decode cX7_chroniclesFrom 1 = .ok (.arraylength, 1) := by decide +kernel
theorem dX7_chroniclesFrom_2 : decode cX7_chroniclesFrom 2 = .ok (.anewarray 87, 3) := by decide +kernel
theorem dX7_chroniclesFrom_5 : decode cX7_chroniclesFrom 5 = .ok (.astore_n 1, 1) := by decide +kernel
theorem dX7_chroniclesFrom_6 : decode cX7_chroniclesFrom 6 = .ok (.iconst 0, 1) := by decide +kernel
theorem dX7_chroniclesFrom_7 : decode cX7_chroniclesFrom 7 = .ok (.istore_n 2, 1) := by decide +kernel
theorem dX7_chroniclesFrom_8 : decode cX7_chroniclesFrom 8 = .ok (.iload_n 2, 1) := by decide +kernel
theorem dX7_chroniclesFrom_9 : decode cX7_chroniclesFrom 9 = .ok (.aload_n 0, 1) := by decide +kernel
theorem dX7_chroniclesFrom_10 : decode cX7_chroniclesFrom 10 = .ok (.arraylength, 1) := by decide +kernel
theorem dX7_chroniclesFrom_11 : decode cX7_chroniclesFrom 11 = .ok (.if_icmp .ge 23, 3) := by decide +kernel
theorem dX7_chroniclesFrom_14 : decode cX7_chroniclesFrom 14 = .ok (.aload_n 1, 1) := by decide +kernel
theorem dX7_chroniclesFrom_15 : decode cX7_chroniclesFrom 15 = .ok (.iload_n 2, 1) := by decide +kernel
theorem dX7_chroniclesFrom_16 : decode cX7_chroniclesFrom 16 = .ok (.new 87, 3) := by decide +kernel
theorem dX7_chroniclesFrom_19 : decode cX7_chroniclesFrom 19 = .ok (.dup, 1) := by decide +kernel
theorem dX7_chroniclesFrom_20 : decode cX7_chroniclesFrom 20 = .ok (.iconst 0, 1) := by decide +kernel
theorem dX7_chroniclesFrom_21 : decode cX7_chroniclesFrom 21 = .ok (.aload_n 0, 1) := by decide +kernel
theorem dX7_chroniclesFrom_22 : decode cX7_chroniclesFrom 22 = .ok (.iload_n 2, 1) := by decide +kernel
theorem dX7_chroniclesFrom_23 : decode cX7_chroniclesFrom 23 = .ok (.iaload, 1) := by decide +kernel
theorem dX7_chroniclesFrom_24 : decode cX7_chroniclesFrom 24 = .ok (.invokespecial 411, 3) := by decide +kernel
theorem dX7_chroniclesFrom_27 : decode cX7_chroniclesFrom 27 = .ok (.aastore, 1) := by decide +kernel
theorem dX7_chroniclesFrom_28 : decode cX7_chroniclesFrom 28 = .ok (.iinc 2 1, 3) := by decide +kernel
theorem dX7_chroniclesFrom_31 : decode cX7_chroniclesFrom 31 = .ok (.goto (-23), 3) := by decide +kernel
theorem dX7_chroniclesFrom_34 : decode cX7_chroniclesFrom 34 = .ok (.aload_n 1, 1) := by decide +kernel
theorem dX7_chroniclesFrom_35 : decode cX7_chroniclesFrom 35 = .ok (.areturn, 1) := by decide +kernel
theorem dX7_courtOf_0 : decode cX7_courtOf 0 = .ok (.aload_n 0, 1) := by decide +kernel
theorem dX7_courtOf_1 : decode cX7_courtOf 1 = .ok (.getfield 31, 3) := by decide +kernel
theorem dX7_courtOf_4 : decode cX7_courtOf 4 = .ok (.iload_n 1, 1) := by decide +kernel
theorem dX7_courtOf_5 : decode cX7_courtOf 5 = .ok (.aaload, 1) := by decide +kernel
theorem dX7_courtOf_6 : decode cX7_courtOf 6 = .ok (.iload 4, 2) := by decide +kernel
theorem dX7_courtOf_8 : decode cX7_courtOf 8 = .ok (.invokevirtual 201, 3) := by decide +kernel
theorem dX7_courtOf_11 : decode cX7_courtOf 11 = .ok (.aload_n 2, 1) := by decide +kernel
theorem dX7_courtOf_12 : decode cX7_courtOf 12 = .ok (.getfield 198, 3) := by decide +kernel
theorem dX7_courtOf_15 : decode cX7_courtOf 15 = .ok (.iload 4, 2) := by decide +kernel
theorem dX7_courtOf_17 : decode cX7_courtOf 17 = .ok (.invokevirtual 201, 3) := by decide +kernel
theorem dX7_courtOf_20 : decode cX7_courtOf 20 = .ok (.aload_n 3, 1) := by decide +kernel
theorem dX7_courtOf_21 : decode cX7_courtOf 21 = .ok (.getfield 198, 3) := by decide +kernel
theorem dX7_courtOf_24 : decode cX7_courtOf 24 = .ok (.iload 4, 2) := by decide +kernel
theorem dX7_courtOf_26 : decode cX7_courtOf 26 = .ok (.invokevirtual 201, 3) := by decide +kernel
theorem dX7_courtOf_29 : decode cX7_courtOf 29 = .ok (.invokestatic 413, 3) := by decide +kernel
theorem dX7_courtOf_32 : decode cX7_courtOf 32 = .ok (.istore 5, 2) := by decide +kernel
theorem dX7_courtOf_34 : decode cX7_courtOf 34 = .ok (.iload 5, 2) := by decide +kernel
theorem dX7_courtOf_36 : decode cX7_courtOf 36 = .ok (.iconst (-1), 1) := by decide +kernel
theorem dX7_courtOf_37 : decode cX7_courtOf 37 = .ok (.if_icmp .eq 20, 3) := by decide +kernel
theorem dX7_courtOf_40 : decode cX7_courtOf 40 = .ok (.aload_n 0, 1) := by decide +kernel
theorem dX7_courtOf_41 : decode cX7_courtOf 41 = .ok (.iload 5, 2) := by decide +kernel
theorem dX7_courtOf_43 : decode cX7_courtOf 43 = .ok (.invokevirtual 78, 3) := by decide +kernel
theorem dX7_courtOf_46 : decode cX7_courtOf 46 = .ok (.getfield 82, 3) := by decide +kernel
theorem dX7_courtOf_49 : decode cX7_courtOf 49 = .ok (.iload 4, 2) := by decide +kernel
theorem dX7_courtOf_51 : decode cX7_courtOf 51 = .ok (.invokevirtual 201, 3) := by decide +kernel
theorem dX7_courtOf_54 : decode cX7_courtOf 54 = .ok (.ifCond .ne 5, 3) := by decide +kernel
theorem dX7_courtOf_57 : decode cX7_courtOf 57 = .ok (.iconst (-1), 1) := by decide +kernel
theorem dX7_courtOf_58 : decode cX7_courtOf 58 = .ok (.ireturn, 1) := by decide +kernel
theorem dX7_courtOf_59 : decode cX7_courtOf 59 = .ok (.iload 5, 2) := by decide +kernel
theorem dX7_courtOf_61 : decode cX7_courtOf 61 = .ok (.ireturn, 1) := by decide +kernel
theorem dX7_faithThatRules_0 : decode cX7_faithThatRules 0 = .ok (.iload_n 0, 1) := by decide +kernel
theorem dX7_faithThatRules_1 : decode cX7_faithThatRules 1 = .ok (.tableswitch 42 0 2 #[27, 29, 31], 27) := by decide +kernel
theorem dX7_faithThatRules_28 : decode cX7_faithThatRules 28 = .ok (.iload_n 1, 1) := by decide +kernel
theorem dX7_faithThatRules_29 : decode cX7_faithThatRules 29 = .ok (.ireturn, 1) := by decide +kernel
theorem dX7_faithThatRules_30 : decode cX7_faithThatRules 30 = .ok (.iload_n 2, 1) := by decide +kernel
theorem dX7_faithThatRules_31 : decode cX7_faithThatRules 31 = .ok (.ireturn, 1) := by decide +kernel
theorem dX7_faithThatRules_32 : decode cX7_faithThatRules 32 = .ok (.iload_n 1, 1) := by decide +kernel
theorem dX7_faithThatRules_33 : decode cX7_faithThatRules 33 = .ok (.iload_n 2, 1) := by decide +kernel
theorem dX7_faithThatRules_34 : decode cX7_faithThatRules 34 = .ok (.if_icmp .ne 7, 3) := by decide +kernel
theorem dX7_faithThatRules_37 : decode cX7_faithThatRules 37 = .ok (.iload_n 1, 1) := by decide +kernel
theorem dX7_faithThatRules_38 : decode cX7_faithThatRules 38 = .ok (.goto 4, 3) := by decide +kernel
theorem dX7_faithThatRules_41 : decode cX7_faithThatRules 41 = .ok (.iconst (-1), 1) := by decide +kernel
theorem dX7_faithThatRules_42 : decode cX7_faithThatRules 42 = .ok (.ireturn, 1) := by decide +kernel
theorem dX7_faithThatRules_43 : decode cX7_faithThatRules 43 = .ok (.iconst (-1), 1) := by decide +kernel
theorem dX7_faithThatRules_44 : decode cX7_faithThatRules 44 = .ok (.ireturn, 1) := by decide +kernel
theorem dX7_faithAtBirth_0 : decode cX7_faithAtBirth 0 = .ok (.aload_n 1, 1) := by decide +kernel
theorem dX7_faithAtBirth_1 : decode cX7_faithAtBirth 1 = .ok (.ifnull 8, 3) := by decide +kernel
theorem dX7_faithAtBirth_4 : decode cX7_faithAtBirth 4 = .ok (.aload_n 1, 1) := by decide +kernel
theorem dX7_faithAtBirth_5 : decode cX7_faithAtBirth 5 = .ok (.invokevirtual 172, 3) := by decide +kernel
theorem dX7_faithAtBirth_8 : decode cX7_faithAtBirth 8 = .ok (.ireturn, 1) := by decide +kernel
theorem dX7_faithAtBirth_9 : decode cX7_faithAtBirth 9 = .ok (.aload_n 0, 1) := by decide +kernel
theorem dX7_faithAtBirth_10 : decode cX7_faithAtBirth 10 = .ok (.ifnull 10, 3) := by decide +kernel
theorem dX7_faithAtBirth_13 : decode cX7_faithAtBirth 13 = .ok (.aload_n 0, 1) := by decide +kernel
theorem dX7_faithAtBirth_14 : decode cX7_faithAtBirth 14 = .ok (.invokevirtual 172, 3) := by decide +kernel
theorem dX7_faithAtBirth_17 : decode cX7_faithAtBirth 17 = .ok (.goto 4, 3) := by decide +kernel
theorem dX7_faithAtBirth_20 : decode cX7_faithAtBirth 20 = .ok (.iload_n 2, 1) := by decide +kernel
theorem dX7_faithAtBirth_21 : decode cX7_faithAtBirth 21 = .ok (.ireturn, 1) := by decide +kernel
theorem dX7_canWitnessTurn_0 : decode cX7_canWitnessTurn 0 = .ok (.aload_n 1, 1) := by decide +kernel
theorem dX7_canWitnessTurn_1 : decode cX7_canWitnessTurn 1 = .ok (.aload_n 0, 1) := by decide +kernel
theorem dX7_canWitnessTurn_2 : decode cX7_canWitnessTurn 2 = .ok (.getfield 51, 3) := by decide +kernel
theorem dX7_canWitnessTurn_5 : decode cX7_canWitnessTurn 5 = .ok (.invokevirtual 168, 3) := by decide +kernel
theorem dX7_canWitnessTurn_8 : decode cX7_canWitnessTurn 8 = .ok (.ifCond .eq 15, 3) := by decide +kernel
theorem dX7_canWitnessTurn_11 : decode cX7_canWitnessTurn 11 = .ok (.aload_n 1, 1) := by decide +kernel
theorem dX7_canWitnessTurn_12 : decode cX7_canWitnessTurn 12 = .ok (.invokevirtual 172, 3) := by decide +kernel
theorem dX7_canWitnessTurn_15 : decode cX7_canWitnessTurn 15 = .ok (.iload_n 2, 1) := by decide +kernel
theorem dX7_canWitnessTurn_16 : decode cX7_canWitnessTurn 16 = .ok (.if_icmp .ne 7, 3) := by decide +kernel
theorem dX7_canWitnessTurn_19 : decode cX7_canWitnessTurn 19 = .ok (.iconst 1, 1) := by decide +kernel
theorem dX7_canWitnessTurn_20 : decode cX7_canWitnessTurn 20 = .ok (.goto 4, 3) := by decide +kernel
theorem dX7_canWitnessTurn_23 : decode cX7_canWitnessTurn 23 = .ok (.iconst 0, 1) := by decide +kernel
theorem dX7_canWitnessTurn_24 : decode cX7_canWitnessTurn 24 = .ok (.ireturn, 1) := by decide +kernel
theorem dX7_takeFaithsDue_0 : decode cX7_takeFaithsDue 0 = .ok (.iconst 0, 1) := by decide +kernel
theorem dX7_takeFaithsDue_1 : decode cX7_takeFaithsDue 1 = .ok (.istore_n 1, 1) := by decide +kernel
theorem dX7_takeFaithsDue_2 : decode cX7_takeFaithsDue 2 = .ok (.iload_n 1, 1) := by decide +kernel
theorem dX7_takeFaithsDue_3 : decode cX7_takeFaithsDue 3 = .ok (.aload_n 0, 1) := by decide +kernel
theorem dX7_takeFaithsDue_4 : decode cX7_takeFaithsDue 4 = .ok (.getfield 35, 3) := by decide +kernel
theorem dX7_takeFaithsDue_7 : decode cX7_takeFaithsDue 7 = .ok (.invokevirtual 58, 3) := by decide +kernel
theorem dX7_takeFaithsDue_10 : decode cX7_takeFaithsDue 10 = .ok (.if_icmp .ge 53, 3) := by decide +kernel
theorem dX7_takeFaithsDue_13 : decode cX7_takeFaithsDue 13 = .ok (.aload_n 0, 1) := by decide +kernel
theorem dX7_takeFaithsDue_14 : decode cX7_takeFaithsDue 14 = .ok (.getfield 35, 3) := by decide +kernel
theorem dX7_takeFaithsDue_17 : decode cX7_takeFaithsDue 17 = .ok (.iload_n 1, 1) := by decide +kernel
theorem dX7_takeFaithsDue_18 : decode cX7_takeFaithsDue 18 = .ok (.invokevirtual 384, 3) := by decide +kernel
theorem dX7_takeFaithsDue_21 : decode cX7_takeFaithsDue 21 = .ok (.checkcast 128, 3) := by decide +kernel
theorem dX7_takeFaithsDue_24 : decode cX7_takeFaithsDue 24 = .ok (.astore_n 2, 1) := by decide +kernel
theorem dX7_takeFaithsDue_25 : decode cX7_takeFaithsDue 25 = .ok (.aload_n 2, 1) := by decide +kernel
theorem dX7_takeFaithsDue_26 : decode cX7_takeFaithsDue 26 = .ok (.getfield 190, 3) := by decide +kernel
theorem dX7_takeFaithsDue_29 : decode cX7_takeFaithsDue 29 = .ok (.aload_n 0, 1) := by decide +kernel
theorem dX7_takeFaithsDue_30 : decode cX7_takeFaithsDue 30 = .ok (.getfield 51, 3) := by decide +kernel
theorem dX7_takeFaithsDue_33 : decode cX7_takeFaithsDue 33 = .ok (.if_icmp .ne 24, 3) := by decide +kernel
theorem dX7_takeFaithsDue_36 : decode cX7_takeFaithsDue 36 = .ok (.aload_n 2, 1) := by decide +kernel
theorem dX7_takeFaithsDue_37 : decode cX7_takeFaithsDue 37 = .ok (.getfield 187, 3) := by decide +kernel
theorem dX7_takeFaithsDue_40 : decode cX7_takeFaithsDue 40 = .ok (.istore_n 3, 1) := by decide +kernel
theorem dX7_takeFaithsDue_41 : decode cX7_takeFaithsDue 41 = .ok (.aload_n 2, 1) := by decide +kernel
theorem dX7_takeFaithsDue_42 : decode cX7_takeFaithsDue 42 = .ok (.invokevirtual 195, 3) := by decide +kernel
theorem dX7_takeFaithsDue_45 : decode cX7_takeFaithsDue 45 = .ok (.aload_n 0, 1) := by decide +kernel
theorem dX7_takeFaithsDue_46 : decode cX7_takeFaithsDue 46 = .ok (.aload_n 2, 1) := by decide +kernel
theorem dX7_takeFaithsDue_47 : decode cX7_takeFaithsDue 47 = .ok (.iload_n 3, 1) := by decide +kernel
theorem dX7_takeFaithsDue_48 : decode cX7_takeFaithsDue 48 = .ok (.invokevirtual 417, 3) := by decide +kernel
theorem dX7_takeFaithsDue_51 : decode cX7_takeFaithsDue 51 = .ok (.aload_n 0, 1) := by decide +kernel
theorem dX7_takeFaithsDue_52 : decode cX7_takeFaithsDue 52 = .ok (.aload_n 2, 1) := by decide +kernel
theorem dX7_takeFaithsDue_53 : decode cX7_takeFaithsDue 53 = .ok (.iload_n 3, 1) := by decide +kernel
theorem dX7_takeFaithsDue_54 : decode cX7_takeFaithsDue 54 = .ok (.invokevirtual 421, 3) := by decide +kernel
theorem dX7_takeFaithsDue_57 : decode cX7_takeFaithsDue 57 = .ok (.iinc 1 1, 3) := by decide +kernel
theorem dX7_takeFaithsDue_60 : decode cX7_takeFaithsDue 60 = .ok (.goto (-58), 3) := by decide +kernel
theorem dX7_takeFaithsDue_63 : decode cX7_takeFaithsDue 63 = .ok (.return_, 1) := by decide +kernel
theorem dX7_takeByTurning_0 : decode cX7_takeByTurning 0 = .ok (.aload_n 1, 1) := by decide +kernel
theorem dX7_takeByTurning_1 : decode cX7_takeByTurning 1 = .ok (.getfield 198, 3) := by decide +kernel
theorem dX7_takeByTurning_4 : decode cX7_takeByTurning 4 = .ok (.astore_n 3, 1) := by decide +kernel
theorem dX7_takeByTurning_5 : decode cX7_takeByTurning 5 = .ok (.aload_n 3, 1) := by decide +kernel
theorem dX7_takeByTurning_6 : decode cX7_takeByTurning 6 = .ok (.iload_n 2, 1) := by decide +kernel
theorem dX7_takeByTurning_7 : decode cX7_takeByTurning 7 = .ok (.invokevirtual 424, 3) := by decide +kernel
theorem dX7_takeByTurning_10 : decode cX7_takeByTurning 10 = .ok (.ifCond .eq 24, 3) := by decide +kernel
theorem dX7_takeByTurning_13 : decode cX7_takeByTurning 13 = .ok (.aload_n 0, 1) := by decide +kernel
theorem dX7_takeByTurning_14 : decode cX7_takeByTurning 14 = .ok (.getfield 51, 3) := by decide +kernel
theorem dX7_takeByTurning_17 : decode cX7_takeByTurning 17 = .ok (.aload_n 3, 1) := by decide +kernel
theorem dX7_takeByTurning_18 : decode cX7_takeByTurning 18 = .ok (.invokevirtual 427, 3) := by decide +kernel
theorem dX7_takeByTurning_21 : decode cX7_takeByTurning 21 = .ok (.isub, 1) := by decide +kernel
theorem dX7_takeByTurning_22 : decode cX7_takeByTurning 22 = .ok (.bipush 100, 2) := by decide +kernel
theorem dX7_takeByTurning_24 : decode cX7_takeByTurning 24 = .ok (.if_icmp .ge 10, 3) := by decide +kernel
theorem dX7_takeByTurning_27 : decode cX7_takeByTurning 27 = .ok (.aload_n 3, 1) := by decide +kernel
theorem dX7_takeByTurning_28 : decode cX7_takeByTurning 28 = .ok (.invokevirtual 430, 3) := by decide +kernel
theorem dX7_takeByTurning_31 : decode cX7_takeByTurning 31 = .ok (.goto 12, 3) := by decide +kernel
theorem dX7_takeByTurning_34 : decode cX7_takeByTurning 34 = .ok (.aload_n 3, 1) := by decide +kernel
theorem dX7_takeByTurning_35 : decode cX7_takeByTurning 35 = .ok (.aload_n 0, 1) := by decide +kernel
theorem dX7_takeByTurning_36 : decode cX7_takeByTurning 36 = .ok (.getfield 51, 3) := by decide +kernel
theorem dX7_takeByTurning_39 : decode cX7_takeByTurning 39 = .ok (.iload_n 2, 1) := by decide +kernel
theorem dX7_takeByTurning_40 : decode cX7_takeByTurning 40 = .ok (.invokevirtual 91, 3) := by decide +kernel
theorem dX7_takeByTurning_43 : decode cX7_takeByTurning 43 = .ok (.return_, 1) := by decide +kernel
theorem dX7_leadChildren_0 : decode cX7_leadChildren 0 = .ok (.iconst 0, 1) := by decide +kernel
theorem dX7_leadChildren_1 : decode cX7_leadChildren 1 = .ok (.istore_n 3, 1) := by decide +kernel
theorem dX7_leadChildren_2 : decode cX7_leadChildren 2 = .ok (.iload_n 3, 1) := by decide +kernel
theorem dX7_leadChildren_3 : decode cX7_leadChildren 3 = .ok (.aload_n 0, 1) := by decide +kernel
theorem dX7_leadChildren_4 : decode cX7_leadChildren 4 = .ok (.getfield 35, 3) := by decide +kernel
theorem dX7_leadChildren_7 : decode cX7_leadChildren 7 = .ok (.invokevirtual 58, 3) := by decide +kernel
theorem dX7_leadChildren_10 : decode cX7_leadChildren 10 = .ok (.if_icmp .ge 24, 3) := by decide +kernel
theorem dX7_leadChildren_13 : decode cX7_leadChildren 13 = .ok (.aload_n 0, 1) := by decide +kernel
theorem dX7_leadChildren_14 : decode cX7_leadChildren 14 = .ok (.getfield 35, 3) := by decide +kernel
theorem dX7_leadChildren_17 : decode cX7_leadChildren 17 = .ok (.iload_n 3, 1) := by decide +kernel
theorem dX7_leadChildren_18 : decode cX7_leadChildren 18 = .ok (.invokevirtual 384, 3) := by decide +kernel
theorem dX7_leadChildren_21 : decode cX7_leadChildren 21 = .ok (.checkcast 128, 3) := by decide +kernel
theorem dX7_leadChildren_24 : decode cX7_leadChildren 24 = .ok (.iconst 0, 1) := by decide +kernel
theorem dX7_leadChildren_25 : decode cX7_leadChildren 25 = .ok (.putfield 433, 3) := by decide +kernel
theorem dX7_leadChildren_28 : decode cX7_leadChildren 28 = .ok (.iinc 3 1, 3) := by decide +kernel
theorem dX7_leadChildren_31 : decode cX7_leadChildren 31 = .ok (.goto (-29), 3) := by decide +kernel
theorem dX7_leadChildren_34 : decode cX7_leadChildren 34 = .ok (.aload_n 1, 1) := by decide +kernel
theorem dX7_leadChildren_35 : decode cX7_leadChildren 35 = .ok (.iconst 1, 1) := by decide +kernel
theorem dX7_leadChildren_36 : decode cX7_leadChildren 36 = .ok (.putfield 433, 3) := by decide +kernel
theorem dX7_leadChildren_39 : decode cX7_leadChildren 39 = .ok (.aload_n 1, 1) := by decide +kernel
theorem dX7_leadChildren_40 : decode cX7_leadChildren 40 = .ok (.getfield 379, 3) := by decide +kernel
theorem dX7_leadChildren_43 : decode cX7_leadChildren 43 = .ok (.iconst 1, 1) := by decide +kernel
theorem dX7_leadChildren_44 : decode cX7_leadChildren 44 = .ok (.iadd, 1) := by decide +kernel
theorem dX7_leadChildren_45 : decode cX7_leadChildren 45 = .ok (.istore_n 3, 1) := by decide +kernel
theorem dX7_leadChildren_46 : decode cX7_leadChildren 46 = .ok (.iload_n 3, 1) := by decide +kernel
theorem dX7_leadChildren_47 : decode cX7_leadChildren 47 = .ok (.aload_n 0, 1) := by decide +kernel
theorem dX7_leadChildren_48 : decode cX7_leadChildren 48 = .ok (.getfield 35, 3) := by decide +kernel
theorem dX7_leadChildren_51 : decode cX7_leadChildren 51 = .ok (.invokevirtual 58, 3) := by decide +kernel
theorem dX7_leadChildren_54 : decode cX7_leadChildren 54 = .ok (.if_icmp .ge 102, 3) := by decide +kernel
theorem dX7_leadChildren_57 : decode cX7_leadChildren 57 = .ok (.aload_n 0, 1) := by decide +kernel
theorem dX7_leadChildren_58 : decode cX7_leadChildren 58 = .ok (.getfield 35, 3) := by decide +kernel
theorem dX7_leadChildren_61 : decode cX7_leadChildren 61 = .ok (.iload_n 3, 1) := by decide +kernel
theorem dX7_leadChildren_62 : decode cX7_leadChildren 62 = .ok (.invokevirtual 384, 3) := by decide +kernel
theorem dX7_leadChildren_65 : decode cX7_leadChildren 65 = .ok (.checkcast 128, 3) := by decide +kernel
theorem dX7_leadChildren_68 : decode cX7_leadChildren 68 = .ok (.astore 4, 2) := by decide +kernel
theorem dX7_leadChildren_70 : decode cX7_leadChildren 70 = .ok (.aload 4, 2) := by decide +kernel
theorem dX7_leadChildren_72 : decode cX7_leadChildren 72 = .ok (.invokevirtual 436, 3) := by decide +kernel
theorem dX7_leadChildren_75 : decode cX7_leadChildren 75 = .ok (.astore 5, 2) := by decide +kernel
theorem dX7_leadChildren_77 : decode cX7_leadChildren 77 = .ok (.aload 5, 2) := by decide +kernel
theorem dX7_leadChildren_79 : decode cX7_leadChildren 79 = .ok (.ifnull 44, 3) := by decide +kernel
theorem dX7_leadChildren_82 : decode cX7_leadChildren 82 = .ok (.aload 5, 2) := by decide +kernel
theorem dX7_leadChildren_84 : decode cX7_leadChildren 84 = .ok (.getfield 433, 3) := by decide +kernel
theorem dX7_leadChildren_87 : decode cX7_leadChildren 87 = .ok (.ifCond .eq 36, 3) := by decide +kernel
theorem dX7_leadChildren_90 : decode cX7_leadChildren 90 = .ok (.aload 4, 2) := by decide +kernel
theorem dX7_leadChildren_92 : decode cX7_leadChildren 92 = .ok (.getfield 251, 3) := by decide +kernel
theorem dX7_leadChildren_95 : decode cX7_leadChildren 95 = .ok (.ifCond .eq 28, 3) := by decide +kernel
theorem dX7_leadChildren_98 : decode cX7_leadChildren 98 = .ok (.aload 4, 2) := by decide +kernel
theorem dX7_leadChildren_100 : decode cX7_leadChildren 100 = .ok (.aload_n 0, 1) := by decide +kernel
theorem dX7_leadChildren_101 : decode cX7_leadChildren 101 = .ok (.getfield 51, 3) := by decide +kernel
theorem dX7_leadChildren_104 : decode cX7_leadChildren 104 = .ok (.invokevirtual 440, 3) := by decide +kernel
theorem dX7_leadChildren_107 : decode cX7_leadChildren 107 = .ok (.ifCond .eq 16, 3) := by decide +kernel
theorem dX7_leadChildren_110 : decode cX7_leadChildren 110 = .ok (.aload 4, 2) := by decide +kernel
theorem dX7_leadChildren_112 : decode cX7_leadChildren 112 = .ok (.invokevirtual 172, 3) := by decide +kernel
theorem dX7_leadChildren_115 : decode cX7_leadChildren 115 = .ok (.iload_n 2, 1) := by decide +kernel
theorem dX7_leadChildren_116 : decode cX7_leadChildren 116 = .ok (.if_icmp .eq 7, 3) := by decide +kernel
theorem dX7_leadChildren_119 : decode cX7_leadChildren 119 = .ok (.iconst 1, 1) := by decide +kernel
theorem dX7_leadChildren_120 : decode cX7_leadChildren 120 = .ok (.goto 4, 3) := by decide +kernel
theorem dX7_leadChildren_123 : decode cX7_leadChildren 123 = .ok (.iconst 0, 1) := by decide +kernel
theorem dX7_leadChildren_124 : decode cX7_leadChildren 124 = .ok (.istore 6, 2) := by decide +kernel
theorem dX7_leadChildren_126 : decode cX7_leadChildren 126 = .ok (.iload 6, 2) := by decide +kernel
theorem dX7_leadChildren_128 : decode cX7_leadChildren 128 = .ok (.ifCond .eq 22, 3) := by decide +kernel
theorem dX7_leadChildren_131 : decode cX7_leadChildren 131 = .ok (.aload 4, 2) := by decide +kernel
theorem dX7_leadChildren_133 : decode cX7_leadChildren 133 = .ok (.getfield 198, 3) := by decide +kernel
theorem dX7_leadChildren_136 : decode cX7_leadChildren 136 = .ok (.aload_n 0, 1) := by decide +kernel
theorem dX7_leadChildren_137 : decode cX7_leadChildren 137 = .ok (.getfield 51, 3) := by decide +kernel
theorem dX7_leadChildren_140 : decode cX7_leadChildren 140 = .ok (.iload_n 2, 1) := by decide +kernel
theorem dX7_leadChildren_141 : decode cX7_leadChildren 141 = .ok (.invokevirtual 91, 3) := by decide +kernel
theorem dX7_leadChildren_144 : decode cX7_leadChildren 144 = .ok (.aload 4, 2) := by decide +kernel
theorem dX7_leadChildren_146 : decode cX7_leadChildren 146 = .ok (.iconst 1, 1) := by decide +kernel
theorem dX7_leadChildren_147 : decode cX7_leadChildren 147 = .ok (.putfield 433, 3) := by decide +kernel
theorem dX7_leadChildren_150 : decode cX7_leadChildren 150 = .ok (.iinc 3 1, 3) := by decide +kernel
theorem dX7_leadChildren_153 : decode cX7_leadChildren 153 = .ok (.goto (-107), 3) := by decide +kernel
theorem dX7_leadChildren_156 : decode cX7_leadChildren 156 = .ok (.return_, 1) := by decide +kernel
theorem dX7_mayMarry_0 : decode cX7_mayMarry 0 = .ok (.aload_n 0, 1) := by decide +kernel
theorem dX7_mayMarry_1 : decode cX7_mayMarry 1 = .ok (.aload_n 2, 1) := by decide +kernel
theorem dX7_mayMarry_2 : decode cX7_mayMarry 2 = .ok (.invokevirtual 367, 3) := by decide +kernel
theorem dX7_mayMarry_5 : decode cX7_mayMarry 5 = .ok (.ifCond .ne 48, 3) := by decide +kernel
theorem dX7_mayMarry_8 : decode cX7_mayMarry 8 = .ok (.aload_n 0, 1) := by decide +kernel
theorem dX7_mayMarry_9 : decode cX7_mayMarry 9 = .ok (.aload_n 1, 1) := by decide +kernel
theorem dX7_mayMarry_10 : decode cX7_mayMarry 10 = .ok (.invokevirtual 367, 3) := by decide +kernel
theorem dX7_mayMarry_13 : decode cX7_mayMarry 13 = .ok (.aload_n 3, 1) := by decide +kernel
theorem dX7_mayMarry_14 : decode cX7_mayMarry 14 = .ok (.iconst 2, 1) := by decide +kernel
theorem dX7_mayMarry_15 : decode cX7_mayMarry 15 = .ok (.aload_n 0, 1) := by decide +kernel
theorem dX7_mayMarry_16 : decode cX7_mayMarry 16 = .ok (.getfield 51, 3) := by decide +kernel
theorem dX7_mayMarry_19 : decode cX7_mayMarry 19 = .ok (.invokevirtual 114, 3) := by decide +kernel
theorem dX7_mayMarry_22 : decode cX7_mayMarry 22 = .ok (.if_icmp .ge 31, 3) := by decide +kernel
theorem dX7_mayMarry_25 : decode cX7_mayMarry 25 = .ok (.aload_n 1, 1) := by decide +kernel
theorem dX7_mayMarry_26 : decode cX7_mayMarry 26 = .ok (.invokevirtual 172, 3) := by decide +kernel
theorem dX7_mayMarry_29 : decode cX7_mayMarry 29 = .ok (.aload_n 2, 1) := by decide +kernel
theorem dX7_mayMarry_30 : decode cX7_mayMarry 30 = .ok (.invokevirtual 172, 3) := by decide +kernel
theorem dX7_mayMarry_33 : decode cX7_mayMarry 33 = .ok (.if_icmp .eq 16, 3) := by decide +kernel
theorem dX7_mayMarry_36 : decode cX7_mayMarry 36 = .ok (.aload_n 3, 1) := by decide +kernel
theorem dX7_mayMarry_37 : decode cX7_mayMarry 37 = .ok (.iconst 4, 1) := by decide +kernel
theorem dX7_mayMarry_38 : decode cX7_mayMarry 38 = .ok (.aload_n 0, 1) := by decide +kernel
theorem dX7_mayMarry_39 : decode cX7_mayMarry 39 = .ok (.getfield 51, 3) := by decide +kernel
theorem dX7_mayMarry_42 : decode cX7_mayMarry 42 = .ok (.invokevirtual 114, 3) := by decide +kernel
theorem dX7_mayMarry_45 : decode cX7_mayMarry 45 = .ok (.iconst 1, 1) := by decide +kernel
theorem dX7_mayMarry_46 : decode cX7_mayMarry 46 = .ok (.if_icmp .ne 7, 3) := by decide +kernel
theorem dX7_mayMarry_49 : decode cX7_mayMarry 49 = .ok (.iconst 1, 1) := by decide +kernel
theorem dX7_mayMarry_50 : decode cX7_mayMarry 50 = .ok (.goto 4, 3) := by decide +kernel
theorem dX7_mayMarry_53 : decode cX7_mayMarry 53 = .ok (.iconst 0, 1) := by decide +kernel
theorem dX7_mayMarry_54 : decode cX7_mayMarry 54 = .ok (.ireturn, 1) := by decide +kernel
theorem dX7_howManyLast_0 : decode cX7_howManyLast 0 = .ok (.iconst 0, 1) := by decide +kernel
theorem dX7_howManyLast_1 : decode cX7_howManyLast 1 = .ok (.istore_n 2, 1) := by decide +kernel
theorem dX7_howManyLast_2 : decode cX7_howManyLast 2 = .ok (.iconst 0, 1) := by decide +kernel
theorem dX7_howManyLast_3 : decode cX7_howManyLast 3 = .ok (.istore_n 3, 1) := by decide +kernel
theorem dX7_howManyLast_4 : decode cX7_howManyLast 4 = .ok (.iload_n 3, 1) := by decide +kernel
theorem dX7_howManyLast_5 : decode cX7_howManyLast 5 = .ok (.aload_n 0, 1) := by decide +kernel
theorem dX7_howManyLast_6 : decode cX7_howManyLast 6 = .ok (.getfield 38, 3) := by decide +kernel
theorem dX7_howManyLast_9 : decode cX7_howManyLast 9 = .ok (.invokevirtual 58, 3) := by decide +kernel
theorem dX7_howManyLast_12 : decode cX7_howManyLast 12 = .ok (.if_icmp .ge 30, 3) := by decide +kernel
theorem dX7_howManyLast_15 : decode cX7_howManyLast 15 = .ok (.aload_n 0, 1) := by decide +kernel
theorem dX7_howManyLast_16 : decode cX7_howManyLast 16 = .ok (.getfield 38, 3) := by decide +kernel
theorem dX7_howManyLast_19 : decode cX7_howManyLast 19 = .ok (.iload_n 3, 1) := by decide +kernel
theorem dX7_howManyLast_20 : decode cX7_howManyLast 20 = .ok (.invokevirtual 384, 3) := by decide +kernel
theorem dX7_howManyLast_23 : decode cX7_howManyLast 23 = .ok (.checkcast 217, 3) := by decide +kernel
theorem dX7_howManyLast_26 : decode cX7_howManyLast 26 = .ok (.aload_n 1, 1) := by decide +kernel
theorem dX7_howManyLast_27 : decode cX7_howManyLast 27 = .ok (.invokevirtual 443, 3) := by decide +kernel
theorem dX7_howManyLast_30 : decode cX7_howManyLast 30 = .ok (.ifCond .eq 6, 3) := by decide +kernel
theorem dX7_howManyLast_33 : decode cX7_howManyLast 33 = .ok (.iinc 2 1, 3) := by decide +kernel
theorem dX7_howManyLast_36 : decode cX7_howManyLast 36 = .ok (.iinc 3 1, 3) := by decide +kernel
theorem dX7_howManyLast_39 : decode cX7_howManyLast 39 = .ok (.goto (-35), 3) := by decide +kernel
theorem dX7_howManyLast_42 : decode cX7_howManyLast 42 = .ok (.iload_n 2, 1) := by decide +kernel
theorem dX7_howManyLast_43 : decode cX7_howManyLast 43 = .ok (.ireturn, 1) := by decide +kernel
theorem dX7_lowestThatLasts_0 : decode cX7_lowestThatLasts 0 = .ok (.iconst 0, 1) := by decide +kernel
theorem dX7_lowestThatLasts_1 : decode cX7_lowestThatLasts 1 = .ok (.istore_n 2, 1) := by decide +kernel
theorem dX7_lowestThatLasts_2 : decode cX7_lowestThatLasts 2 = .ok (.iload_n 2, 1) := by decide +kernel
theorem dX7_lowestThatLasts_3 : decode cX7_lowestThatLasts 3 = .ok (.aload_n 0, 1) := by decide +kernel
theorem dX7_lowestThatLasts_4 : decode cX7_lowestThatLasts 4 = .ok (.getfield 38, 3) := by decide +kernel
theorem dX7_lowestThatLasts_7 : decode cX7_lowestThatLasts 7 = .ok (.invokevirtual 58, 3) := by decide +kernel
theorem dX7_lowestThatLasts_10 : decode cX7_lowestThatLasts 10 = .ok (.if_icmp .ge 29, 3) := by decide +kernel
theorem dX7_lowestThatLasts_13 : decode cX7_lowestThatLasts 13 = .ok (.aload_n 0, 1) := by decide +kernel
theorem dX7_lowestThatLasts_14 : decode cX7_lowestThatLasts 14 = .ok (.getfield 38, 3) := by decide +kernel
theorem dX7_lowestThatLasts_17 : decode cX7_lowestThatLasts 17 = .ok (.iload_n 2, 1) := by decide +kernel
theorem dX7_lowestThatLasts_18 : decode cX7_lowestThatLasts 18 = .ok (.invokevirtual 384, 3) := by decide +kernel
theorem dX7_lowestThatLasts_21 : decode cX7_lowestThatLasts 21 = .ok (.checkcast 217, 3) := by decide +kernel
theorem dX7_lowestThatLasts_24 : decode cX7_lowestThatLasts 24 = .ok (.aload_n 1, 1) := by decide +kernel
theorem dX7_lowestThatLasts_25 : decode cX7_lowestThatLasts 25 = .ok (.invokevirtual 443, 3) := by decide +kernel
theorem dX7_lowestThatLasts_28 : decode cX7_lowestThatLasts 28 = .ok (.ifCond .eq 5, 3) := by decide +kernel
theorem dX7_lowestThatLasts_31 : decode cX7_lowestThatLasts 31 = .ok (.iload_n 2, 1) := by decide +kernel
theorem dX7_lowestThatLasts_32 : decode cX7_lowestThatLasts 32 = .ok (.ireturn, 1) := by decide +kernel
theorem dX7_lowestThatLasts_33 : decode cX7_lowestThatLasts 33 = .ok (.iinc 2 1, 3) := by decide +kernel
theorem dX7_lowestThatLasts_36 : decode cX7_lowestThatLasts 36 = .ok (.goto (-34), 3) := by decide +kernel
theorem dX7_lowestThatLasts_39 : decode cX7_lowestThatLasts 39 = .ok (.iconst (-1), 1) := by decide +kernel
theorem dX7_lowestThatLasts_40 : decode cX7_lowestThatLasts 40 = .ok (.ireturn, 1) := by decide +kernel
theorem dX7_endsByAsking_0 : decode cX7_endsByAsking 0 = .ok (.iload_n 2, 1) := by decide +kernel
theorem dX7_endsByAsking_1 : decode cX7_endsByAsking 1 = .ok (.tableswitch 51 0 2 #[27, 29, 31], 27) := by decide +kernel
theorem dX7_endsByAsking_28 : decode cX7_endsByAsking 28 = .ok (.iload_n 1, 1) := by decide +kernel
theorem dX7_endsByAsking_29 : decode cX7_endsByAsking 29 = .ok (.ireturn, 1) := by decide +kernel
theorem dX7_endsByAsking_30 : decode cX7_endsByAsking 30 = .ok (.iconst 1, 1) := by decide +kernel
theorem dX7_endsByAsking_31 : decode cX7_endsByAsking 31 = .ok (.ireturn, 1) := by decide +kernel
theorem dX7_endsByAsking_32 : decode cX7_endsByAsking 32 = .ok (.aload_n 0, 1) := by decide +kernel
theorem dX7_endsByAsking_33 : decode cX7_endsByAsking 33 = .ok (.getfield 231, 3) := by decide +kernel
theorem dX7_endsByAsking_36 : decode cX7_endsByAsking 36 = .ok (.ifCond .eq 14, 3) := by decide +kernel
theorem dX7_endsByAsking_39 : decode cX7_endsByAsking 39 = .ok (.aload_n 0, 1) := by decide +kernel
theorem dX7_endsByAsking_40 : decode cX7_endsByAsking 40 = .ok (.getfield 234, 3) := by decide +kernel
theorem dX7_endsByAsking_43 : decode cX7_endsByAsking 43 = .ok (.ifCond .eq 7, 3) := by decide +kernel
theorem dX7_endsByAsking_46 : decode cX7_endsByAsking 46 = .ok (.iconst 1, 1) := by decide +kernel
theorem dX7_endsByAsking_47 : decode cX7_endsByAsking 47 = .ok (.goto 4, 3) := by decide +kernel
theorem dX7_endsByAsking_50 : decode cX7_endsByAsking 50 = .ok (.iconst 0, 1) := by decide +kernel
theorem dX7_endsByAsking_51 : decode cX7_endsByAsking 51 = .ok (.ireturn, 1) := by decide +kernel
theorem dX7_endsByAsking_52 : decode cX7_endsByAsking 52 = .ok (.iconst 0, 1) := by decide +kernel
theorem dX7_endsByAsking_53 : decode cX7_endsByAsking 53 = .ok (.ireturn, 1) := by decide +kernel
theorem dX7_endMarriagesOf_0 : decode cX7_endMarriagesOf 0 = .ok (.new 16, 3) := by decide +kernel
theorem dX7_endMarriagesOf_3 : decode cX7_endMarriagesOf 3 = .ok (.dup, 1) := by decide +kernel
theorem dX7_endMarriagesOf_4 : decode cX7_endMarriagesOf 4 = .ok (.invokespecial 18, 3) := by decide +kernel
theorem dX7_endMarriagesOf_7 : decode cX7_endMarriagesOf 7 = .ok (.astore_n 2, 1) := by decide +kernel
theorem dX7_endMarriagesOf_8 : decode cX7_endMarriagesOf 8 = .ok (.iconst 0, 1) := by decide +kernel
theorem dX7_endMarriagesOf_9 : decode cX7_endMarriagesOf 9 = .ok (.istore_n 3, 1) := by decide +kernel
theorem dX7_endMarriagesOf_10 : decode cX7_endMarriagesOf 10 = .ok (.iload_n 3, 1) := by decide +kernel
theorem dX7_endMarriagesOf_11 : decode cX7_endMarriagesOf 11 = .ok (.aload_n 0, 1) := by decide +kernel
theorem dX7_endMarriagesOf_12 : decode cX7_endMarriagesOf 12 = .ok (.getfield 38, 3) := by decide +kernel
theorem dX7_endMarriagesOf_15 : decode cX7_endMarriagesOf 15 = .ok (.invokevirtual 58, 3) := by decide +kernel
theorem dX7_endMarriagesOf_18 : decode cX7_endMarriagesOf 18 = .ok (.if_icmp .ge 80, 3) := by decide +kernel
theorem dX7_endMarriagesOf_21 : decode cX7_endMarriagesOf 21 = .ok (.aload_n 0, 1) := by decide +kernel
theorem dX7_endMarriagesOf_22 : decode cX7_endMarriagesOf 22 = .ok (.getfield 38, 3) := by decide +kernel
theorem dX7_endMarriagesOf_25 : decode cX7_endMarriagesOf 25 = .ok (.iload_n 3, 1) := by decide +kernel
theorem dX7_endMarriagesOf_26 : decode cX7_endMarriagesOf 26 = .ok (.invokevirtual 384, 3) := by decide +kernel
theorem dX7_endMarriagesOf_29 : decode cX7_endMarriagesOf 29 = .ok (.checkcast 217, 3) := by decide +kernel
theorem dX7_endMarriagesOf_32 : decode cX7_endMarriagesOf 32 = .ok (.astore 4, 2) := by decide +kernel
theorem dX7_endMarriagesOf_34 : decode cX7_endMarriagesOf 34 = .ok (.aload 4, 2) := by decide +kernel
theorem dX7_endMarriagesOf_36 : decode cX7_endMarriagesOf 36 = .ok (.aload_n 1, 1) := by decide +kernel
theorem dX7_endMarriagesOf_37 : decode cX7_endMarriagesOf 37 = .ok (.invokevirtual 443, 3) := by decide +kernel
theorem dX7_endMarriagesOf_40 : decode cX7_endMarriagesOf 40 = .ok (.ifCond .eq 52, 3) := by decide +kernel
theorem dX7_endMarriagesOf_43 : decode cX7_endMarriagesOf 43 = .ok (.aload 4, 2) := by decide +kernel
theorem dX7_endMarriagesOf_45 : decode cX7_endMarriagesOf 45 = .ok (.iconst 2, 1) := by decide +kernel
theorem dX7_endMarriagesOf_46 : decode cX7_endMarriagesOf 46 = .ok (.putfield 226, 3) := by decide +kernel
theorem dX7_endMarriagesOf_49 : decode cX7_endMarriagesOf 49 = .ok (.aload 4, 2) := by decide +kernel
theorem dX7_endMarriagesOf_51 : decode cX7_endMarriagesOf 51 = .ok (.getfield 237, 3) := by decide +kernel
theorem dX7_endMarriagesOf_54 : decode cX7_endMarriagesOf 54 = .ok (.aload_n 1, 1) := by decide +kernel
theorem dX7_endMarriagesOf_55 : decode cX7_endMarriagesOf 55 = .ok (.if_acmp .ne 21, 3) := by decide +kernel
theorem dX7_endMarriagesOf_58 : decode cX7_endMarriagesOf 58 = .ok (.aload 4, 2) := by decide +kernel
theorem dX7_endMarriagesOf_60 : decode cX7_endMarriagesOf 60 = .ok (.invokevirtual 248, 3) := by decide +kernel
theorem dX7_endMarriagesOf_63 : decode cX7_endMarriagesOf 63 = .ok (.aload_n 2, 1) := by decide +kernel
theorem dX7_endMarriagesOf_64 : decode cX7_endMarriagesOf 64 = .ok (.aload 4, 2) := by decide +kernel
theorem dX7_endMarriagesOf_66 : decode cX7_endMarriagesOf 66 = .ok (.getfield 241, 3) := by decide +kernel
theorem dX7_endMarriagesOf_69 : decode cX7_endMarriagesOf 69 = .ok (.invokevirtual 74, 3) := by decide +kernel
theorem dX7_endMarriagesOf_72 : decode cX7_endMarriagesOf 72 = .ok (.pop, 1) := by decide +kernel
theorem dX7_endMarriagesOf_73 : decode cX7_endMarriagesOf 73 = .ok (.goto 19, 3) := by decide +kernel
theorem dX7_endMarriagesOf_76 : decode cX7_endMarriagesOf 76 = .ok (.aload 4, 2) := by decide +kernel
theorem dX7_endMarriagesOf_78 : decode cX7_endMarriagesOf 78 = .ok (.iconst 0, 1) := by decide +kernel
theorem dX7_endMarriagesOf_79 : decode cX7_endMarriagesOf 79 = .ok (.putfield 382, 3) := by decide +kernel
theorem dX7_endMarriagesOf_82 : decode cX7_endMarriagesOf 82 = .ok (.aload_n 2, 1) := by decide +kernel
theorem dX7_endMarriagesOf_83 : decode cX7_endMarriagesOf 83 = .ok (.aload 4, 2) := by decide +kernel
theorem dX7_endMarriagesOf_85 : decode cX7_endMarriagesOf 85 = .ok (.getfield 237, 3) := by decide +kernel
theorem dX7_endMarriagesOf_88 : decode cX7_endMarriagesOf 88 = .ok (.invokevirtual 74, 3) := by decide +kernel
theorem dX7_endMarriagesOf_91 : decode cX7_endMarriagesOf 91 = .ok (.pop, 1) := by decide +kernel
theorem dX7_endMarriagesOf_92 : decode cX7_endMarriagesOf 92 = .ok (.iinc 3 1, 3) := by decide +kernel
theorem dX7_endMarriagesOf_95 : decode cX7_endMarriagesOf 95 = .ok (.goto (-85), 3) := by decide +kernel
theorem dX7_endMarriagesOf_98 : decode cX7_endMarriagesOf 98 = .ok (.aload_n 2, 1) := by decide +kernel
theorem dX7_endMarriagesOf_99 : decode cX7_endMarriagesOf 99 = .ok (.areturn, 1) := by decide +kernel
theorem dX7_livingChildrenOf_0 : decode cX7_livingChildrenOf 0 = .ok (.new 16, 3) := by decide +kernel
theorem dX7_livingChildrenOf_3 : decode cX7_livingChildrenOf 3 = .ok (.dup, 1) := by decide +kernel
theorem dX7_livingChildrenOf_4 : decode cX7_livingChildrenOf 4 = .ok (.invokespecial 18, 3) := by decide +kernel
theorem dX7_livingChildrenOf_7 : decode cX7_livingChildrenOf 7 = .ok (.astore_n 2, 1) := by decide +kernel
theorem dX7_livingChildrenOf_8 : decode cX7_livingChildrenOf 8 = .ok (.iconst 0, 1) := by decide +kernel
theorem dX7_livingChildrenOf_9 : decode cX7_livingChildrenOf 9 = .ok (.istore_n 3, 1) := by decide +kernel
theorem dX7_livingChildrenOf_10 : decode cX7_livingChildrenOf 10 = .ok (.iload_n 3, 1) := by decide +kernel
theorem dX7_livingChildrenOf_11 : decode cX7_livingChildrenOf 11 = .ok (.aload_n 0, 1) := by decide +kernel
theorem dX7_livingChildrenOf_12 : decode cX7_livingChildrenOf 12 = .ok (.getfield 35, 3) := by decide +kernel
theorem dX7_livingChildrenOf_15 : decode cX7_livingChildrenOf 15 = .ok (.invokevirtual 58, 3) := by decide +kernel
theorem dX7_livingChildrenOf_18 : decode cX7_livingChildrenOf 18 = .ok (.if_icmp .ge 43, 3) := by decide +kernel
theorem dX7_livingChildrenOf_21 : decode cX7_livingChildrenOf 21 = .ok (.aload_n 0, 1) := by decide +kernel
theorem dX7_livingChildrenOf_22 : decode cX7_livingChildrenOf 22 = .ok (.getfield 35, 3) := by decide +kernel
theorem dX7_livingChildrenOf_25 : decode cX7_livingChildrenOf 25 = .ok (.iload_n 3, 1) := by decide +kernel
theorem dX7_livingChildrenOf_26 : decode cX7_livingChildrenOf 26 = .ok (.invokevirtual 384, 3) := by decide +kernel
theorem dX7_livingChildrenOf_29 : decode cX7_livingChildrenOf 29 = .ok (.checkcast 128, 3) := by decide +kernel
theorem dX7_livingChildrenOf_32 : decode cX7_livingChildrenOf 32 = .ok (.aload_n 1, 1) := by decide +kernel
theorem dX7_livingChildrenOf_33 : decode cX7_livingChildrenOf 33 = .ok (.invokevirtual 446, 3) := by decide +kernel
theorem dX7_livingChildrenOf_36 : decode cX7_livingChildrenOf 36 = .ok (.ifCond .eq 19, 3) := by decide +kernel
theorem dX7_livingChildrenOf_39 : decode cX7_livingChildrenOf 39 = .ok (.aload_n 2, 1) := by decide +kernel
theorem dX7_livingChildrenOf_40 : decode cX7_livingChildrenOf 40 = .ok (.aload_n 0, 1) := by decide +kernel
theorem dX7_livingChildrenOf_41 : decode cX7_livingChildrenOf 41 = .ok (.getfield 35, 3) := by decide +kernel
theorem dX7_livingChildrenOf_44 : decode cX7_livingChildrenOf 44 = .ok (.iload_n 3, 1) := by decide +kernel
theorem dX7_livingChildrenOf_45 : decode cX7_livingChildrenOf 45 = .ok (.invokevirtual 384, 3) := by decide +kernel
theorem dX7_livingChildrenOf_48 : decode cX7_livingChildrenOf 48 = .ok (.checkcast 128, 3) := by decide +kernel
theorem dX7_livingChildrenOf_51 : decode cX7_livingChildrenOf 51 = .ok (.invokevirtual 74, 3) := by decide +kernel
theorem dX7_livingChildrenOf_54 : decode cX7_livingChildrenOf 54 = .ok (.pop, 1) := by decide +kernel
theorem dX7_livingChildrenOf_55 : decode cX7_livingChildrenOf 55 = .ok (.iinc 3 1, 3) := by decide +kernel
theorem dX7_livingChildrenOf_58 : decode cX7_livingChildrenOf 58 = .ok (.goto (-48), 3) := by decide +kernel
theorem dX7_livingChildrenOf_61 : decode cX7_livingChildrenOf 61 = .ok (.aload_n 2, 1) := by decide +kernel
theorem dX7_livingChildrenOf_62 : decode cX7_livingChildrenOf 62 = .ok (.areturn, 1) := by decide +kernel
theorem dX7_howManyChildrenLive_0 : decode cX7_howManyChildrenLive 0 = .ok (.iconst 0, 1) := by decide +kernel
theorem dX7_howManyChildrenLive_1 : decode cX7_howManyChildrenLive 1 = .ok (.istore_n 2, 1) := by decide +kernel
theorem dX7_howManyChildrenLive_2 : decode cX7_howManyChildrenLive 2 = .ok (.iconst 0, 1) := by decide +kernel
theorem dX7_howManyChildrenLive_3 : decode cX7_howManyChildrenLive 3 = .ok (.istore_n 3, 1) := by decide +kernel
theorem dX7_howManyChildrenLive_4 : decode cX7_howManyChildrenLive 4 = .ok (.iload_n 3, 1) := by decide +kernel
theorem dX7_howManyChildrenLive_5 : decode cX7_howManyChildrenLive 5 = .ok (.aload_n 0, 1) := by decide +kernel
theorem dX7_howManyChildrenLive_6 : decode cX7_howManyChildrenLive 6 = .ok (.getfield 35, 3) := by decide +kernel
theorem dX7_howManyChildrenLive_9 : decode cX7_howManyChildrenLive 9 = .ok (.invokevirtual 58, 3) := by decide +kernel
theorem dX7_howManyChildrenLive_12 : decode cX7_howManyChildrenLive 12 = .ok (.if_icmp .ge 30, 3) := by decide +kernel
theorem dX7_howManyChildrenLive_15 : decode cX7_howManyChildrenLive 15 = .ok (.aload_n 0, 1) := by decide +kernel
theorem dX7_howManyChildrenLive_16 : decode cX7_howManyChildrenLive 16 = .ok (.getfield 35, 3) := by decide +kernel
theorem dX7_howManyChildrenLive_19 : decode cX7_howManyChildrenLive 19 = .ok (.iload_n 3, 1) := by decide +kernel
theorem dX7_howManyChildrenLive_20 : decode cX7_howManyChildrenLive 20 = .ok (.invokevirtual 384, 3) := by decide +kernel
theorem dX7_howManyChildrenLive_23 : decode cX7_howManyChildrenLive 23 = .ok (.checkcast 128, 3) := by decide +kernel
theorem dX7_howManyChildrenLive_26 : decode cX7_howManyChildrenLive 26 = .ok (.aload_n 1, 1) := by decide +kernel
theorem dX7_howManyChildrenLive_27 : decode cX7_howManyChildrenLive 27 = .ok (.invokevirtual 446, 3) := by decide +kernel
theorem dX7_howManyChildrenLive_30 : decode cX7_howManyChildrenLive 30 = .ok (.ifCond .eq 6, 3) := by decide +kernel
theorem dX7_howManyChildrenLive_33 : decode cX7_howManyChildrenLive 33 = .ok (.iinc 2 1, 3) := by decide +kernel
theorem dX7_howManyChildrenLive_36 : decode cX7_howManyChildrenLive 36 = .ok (.iinc 3 1, 3) := by decide +kernel
theorem dX7_howManyChildrenLive_39 : decode cX7_howManyChildrenLive 39 = .ok (.goto (-35), 3) := by decide +kernel
theorem dX7_howManyChildrenLive_42 : decode cX7_howManyChildrenLive 42 = .ok (.iload_n 2, 1) := by decide +kernel
theorem dX7_howManyChildrenLive_43 : decode cX7_howManyChildrenLive 43 = .ok (.ireturn, 1) := by decide +kernel
theorem dX7_removeOtherFaiths_0 : decode cX7_removeOtherFaiths 0 = .ok (.aload_n 0, 1) := by decide +kernel
theorem dX7_removeOtherFaiths_1 : decode cX7_removeOtherFaiths 1 = .ok (.invokevirtual 58, 3) := by decide +kernel
theorem dX7_removeOtherFaiths_4 : decode cX7_removeOtherFaiths 4 = .ok (.iconst 1, 1) := by decide +kernel
theorem dX7_removeOtherFaiths_5 : decode cX7_removeOtherFaiths 5 = .ok (.isub, 1) := by decide +kernel
theorem dX7_removeOtherFaiths_6 : decode cX7_removeOtherFaiths 6 = .ok (.istore_n 2, 1) := by decide +kernel
theorem dX7_removeOtherFaiths_7 : decode cX7_removeOtherFaiths 7 = .ok (.iload_n 2, 1) := by decide +kernel
theorem dX7_removeOtherFaiths_8 : decode cX7_removeOtherFaiths 8 = .ok (.ifCond .lt 30, 3) := by decide +kernel
theorem dX7_removeOtherFaiths_11 : decode cX7_removeOtherFaiths 11 = .ok (.aload_n 0, 1) := by decide +kernel
theorem dX7_removeOtherFaiths_12 : decode cX7_removeOtherFaiths 12 = .ok (.iload_n 2, 1) := by decide +kernel
theorem dX7_removeOtherFaiths_13 : decode cX7_removeOtherFaiths 13 = .ok (.invokevirtual 384, 3) := by decide +kernel
theorem dX7_removeOtherFaiths_16 : decode cX7_removeOtherFaiths 16 = .ok (.checkcast 128, 3) := by decide +kernel
theorem dX7_removeOtherFaiths_19 : decode cX7_removeOtherFaiths 19 = .ok (.invokevirtual 172, 3) := by decide +kernel
theorem dX7_removeOtherFaiths_22 : decode cX7_removeOtherFaiths 22 = .ok (.iload_n 1, 1) := by decide +kernel
theorem dX7_removeOtherFaiths_23 : decode cX7_removeOtherFaiths 23 = .ok (.if_icmp .eq 9, 3) := by decide +kernel
theorem dX7_removeOtherFaiths_26 : decode cX7_removeOtherFaiths 26 = .ok (.aload_n 0, 1) := by decide +kernel
theorem dX7_removeOtherFaiths_27 : decode cX7_removeOtherFaiths 27 = .ok (.iload_n 2, 1) := by decide +kernel
theorem dX7_removeOtherFaiths_28 : decode cX7_removeOtherFaiths 28 = .ok (.invokevirtual 449, 3) := by decide +kernel
theorem dX7_removeOtherFaiths_31 : decode cX7_removeOtherFaiths 31 = .ok (.pop, 1) := by decide +kernel
theorem dX7_removeOtherFaiths_32 : decode cX7_removeOtherFaiths 32 = .ok (.iinc 2 (-1), 3) := by decide +kernel
theorem dX7_removeOtherFaiths_35 : decode cX7_removeOtherFaiths 35 = .ok (.goto (-28), 3) := by decide +kernel
theorem dX7_removeOtherFaiths_38 : decode cX7_removeOtherFaiths 38 = .ok (.return_, 1) := by decide +kernel
theorem dX7_leaveEstate_0 : decode cX7_leaveEstate 0 = .ok (.aload_n 1, 1) := by decide +kernel
theorem dX7_leaveEstate_1 : decode cX7_leaveEstate 1 = .ok (.getfield 256, 3) := by decide +kernel
theorem dX7_leaveEstate_4 : decode cX7_leaveEstate 4 = .ok (.lstore 5, 2) := by decide +kernel
theorem dX7_leaveEstate_6 : decode cX7_leaveEstate 6 = .ok (.aload_n 1, 1) := by decide +kernel
theorem dX7_leaveEstate_7 : decode cX7_leaveEstate 7 = .ok (.lconst 0, 1) := by decide +kernel
theorem dX7_leaveEstate_8 : decode cX7_leaveEstate 8 = .ok (.putfield 256, 3) := by decide +kernel
theorem dX7_leaveEstate_11 : decode cX7_leaveEstate 11 = .ok (.aload_n 2, 1) := by decide +kernel
theorem dX7_leaveEstate_12 : decode cX7_leaveEstate 12 = .ok (.invokevirtual 452, 3) := by decide +kernel
theorem dX7_leaveEstate_15 : decode cX7_leaveEstate 15 = .ok (.ifCond .ne 37, 3) := by decide +kernel
theorem dX7_leaveEstate_18 : decode cX7_leaveEstate 18 = .ok (.lload 5, 2) := by decide +kernel
theorem dX7_leaveEstate_20 : decode cX7_leaveEstate 20 = .ok (.aload 4, 2) := by decide +kernel
theorem dX7_leaveEstate_22 : decode cX7_leaveEstate 22 = .ok (.iconst 3, 1) := by decide +kernel
theorem dX7_leaveEstate_23 : decode cX7_leaveEstate 23 = .ok (.aload_n 0, 1) := by decide +kernel
theorem dX7_leaveEstate_24 : decode cX7_leaveEstate 24 = .ok (.getfield 51, 3) := by decide +kernel
theorem dX7_leaveEstate_27 : decode cX7_leaveEstate 27 = .ok (.invokevirtual 114, 3) := by decide +kernel
theorem dX7_leaveEstate_30 : decode cX7_leaveEstate 30 = .ok (.i2l, 1) := by decide +kernel
theorem dX7_leaveEstate_31 : decode cX7_leaveEstate 31 = .ok (.lmul, 1) := by decide +kernel
theorem dX7_leaveEstate_32 : decode cX7_leaveEstate 32 = .ok (.ldc2_w 455, 3) := by decide +kernel
theorem dX7_leaveEstate_35 : decode cX7_leaveEstate 35 = .ok (.ldiv, 1) := by decide +kernel
theorem dX7_leaveEstate_36 : decode cX7_leaveEstate 36 = .ok (.lstore 7, 2) := by decide +kernel
theorem dX7_leaveEstate_38 : decode cX7_leaveEstate 38 = .ok (.lload 7, 2) := by decide +kernel
theorem dX7_leaveEstate_40 : decode cX7_leaveEstate 40 = .ok (.aload_n 2, 1) := by decide +kernel
theorem dX7_leaveEstate_41 : decode cX7_leaveEstate 41 = .ok (.iconst 0, 1) := by decide +kernel
theorem dX7_leaveEstate_42 : decode cX7_leaveEstate 42 = .ok (.invokestatic 457, 3) := by decide +kernel
theorem dX7_leaveEstate_45 : decode cX7_leaveEstate 45 = .ok (.lload 5, 2) := by decide +kernel
theorem dX7_leaveEstate_47 : decode cX7_leaveEstate 47 = .ok (.lload 7, 2) := by decide +kernel
theorem dX7_leaveEstate_49 : decode cX7_leaveEstate 49 = .ok (.lsub, 1) := by decide +kernel
theorem dX7_leaveEstate_50 : decode cX7_leaveEstate 50 = .ok (.lstore 5, 2) := by decide +kernel
theorem dX7_leaveEstate_52 : decode cX7_leaveEstate 52 = .ok (.aload_n 3, 1) := by decide +kernel
theorem dX7_leaveEstate_53 : decode cX7_leaveEstate 53 = .ok (.invokevirtual 452, 3) := by decide +kernel
theorem dX7_leaveEstate_56 : decode cX7_leaveEstate 56 = .ok (.ifCond .eq 17, 3) := by decide +kernel
theorem dX7_leaveEstate_59 : decode cX7_leaveEstate 59 = .ok (.aload_n 0, 1) := by decide +kernel
theorem dX7_leaveEstate_60 : decode cX7_leaveEstate 60 = .ok (.dup, 1) := by decide +kernel
theorem dX7_leaveEstate_61 : decode cX7_leaveEstate 61 = .ok (.getfield 54, 3) := by decide +kernel
theorem dX7_leaveEstate_64 : decode cX7_leaveEstate 64 = .ok (.lload 5, 2) := by decide +kernel
theorem dX7_leaveEstate_66 : decode cX7_leaveEstate 66 = .ok (.ladd, 1) := by decide +kernel
theorem dX7_leaveEstate_67 : decode cX7_leaveEstate 67 = .ok (.putfield 54, 3) := by decide +kernel
theorem dX7_leaveEstate_70 : decode cX7_leaveEstate 70 = .ok (.lload 5, 2) := by decide +kernel
theorem dX7_leaveEstate_72 : decode cX7_leaveEstate 72 = .ok (.lreturn, 1) := by decide +kernel
theorem dX7_leaveEstate_73 : decode cX7_leaveEstate 73 = .ok (.aload 4, 2) := by decide +kernel
theorem dX7_leaveEstate_75 : decode cX7_leaveEstate 75 = .ok (.iconst 0, 1) := by decide +kernel
theorem dX7_leaveEstate_76 : decode cX7_leaveEstate 76 = .ok (.aload_n 0, 1) := by decide +kernel
theorem dX7_leaveEstate_77 : decode cX7_leaveEstate 77 = .ok (.getfield 51, 3) := by decide +kernel
theorem dX7_leaveEstate_80 : decode cX7_leaveEstate 80 = .ok (.invokevirtual 114, 3) := by decide +kernel
theorem dX7_leaveEstate_83 : decode cX7_leaveEstate 83 = .ok (.istore 7, 2) := by decide +kernel
theorem dX7_leaveEstate_85 : decode cX7_leaveEstate 85 = .ok (.iload 7, 2) := by decide +kernel
theorem dX7_leaveEstate_87 : decode cX7_leaveEstate 87 = .ok (.iconst 2, 1) := by decide +kernel
theorem dX7_leaveEstate_88 : decode cX7_leaveEstate 88 = .ok (.if_icmp .ne 20, 3) := by decide +kernel
theorem dX7_leaveEstate_91 : decode cX7_leaveEstate 91 = .ok (.aload_n 3, 1) := by decide +kernel
theorem dX7_leaveEstate_92 : decode cX7_leaveEstate 92 = .ok (.invokestatic 461, 3) := by decide +kernel
theorem dX7_leaveEstate_95 : decode cX7_leaveEstate 95 = .ok (.dup, 1) := by decide +kernel
theorem dX7_leaveEstate_96 : decode cX7_leaveEstate 96 = .ok (.getfield 256, 3) := by decide +kernel
theorem dX7_leaveEstate_99 : decode cX7_leaveEstate 99 = .ok (.lload 5, 2) := by decide +kernel
theorem dX7_leaveEstate_101 : decode cX7_leaveEstate 101 = .ok (.ladd, 1) := by decide +kernel
theorem dX7_leaveEstate_102 : decode cX7_leaveEstate 102 = .ok (.putfield 256, 3) := by decide +kernel
theorem dX7_leaveEstate_105 : decode cX7_leaveEstate 105 = .ok (.goto 20, 3) := by decide +kernel
theorem dX7_leaveEstate_108 : decode cX7_leaveEstate 108 = .ok (.lload 5, 2) := by decide +kernel
theorem dX7_leaveEstate_110 : decode cX7_leaveEstate 110 = .ok (.aload_n 3, 1) := by decide +kernel
theorem dX7_leaveEstate_111 : decode cX7_leaveEstate 111 = .ok (.iload 7, 2) := by decide +kernel
theorem dX7_leaveEstate_113 : decode cX7_leaveEstate 113 = .ok (.iconst 1, 1) := by decide +kernel
theorem dX7_leaveEstate_114 : decode cX7_leaveEstate 114 = .ok (.if_icmp .ne 7, 3) := by decide +kernel
theorem dX7_leaveEstate_117 : decode cX7_leaveEstate 117 = .ok (.iconst 1, 1) := by decide +kernel
theorem dX7_leaveEstate_118 : decode cX7_leaveEstate 118 = .ok (.goto 4, 3) := by decide +kernel
theorem dX7_leaveEstate_121 : decode cX7_leaveEstate 121 = .ok (.iconst 0, 1) := by decide +kernel
theorem dX7_leaveEstate_122 : decode cX7_leaveEstate 122 = .ok (.invokestatic 457, 3) := by decide +kernel
theorem dX7_leaveEstate_125 : decode cX7_leaveEstate 125 = .ok (.lconst 0, 1) := by decide +kernel
theorem dX7_leaveEstate_126 : decode cX7_leaveEstate 126 = .ok (.lreturn, 1) := by decide +kernel
theorem dX7_divide_0 : decode cX7_divide 0 = .ok (.aload_n 2, 1) := by decide +kernel
theorem dX7_divide_1 : decode cX7_divide 1 = .ok (.invokevirtual 452, 3) := by decide +kernel
theorem dX7_divide_4 : decode cX7_divide 4 = .ok (.ifCond .eq 4, 3) := by decide +kernel
theorem dX7_divide_7 : decode cX7_divide 7 = .ok (.return_, 1) := by decide +kernel
theorem dX7_divide_8 : decode cX7_divide 8 = .ok (.iconst 0, 1) := by decide +kernel
theorem dX7_divide_9 : decode cX7_divide 9 = .ok (.istore 4, 2) := by decide +kernel
theorem dX7_divide_11 : decode cX7_divide 11 = .ok (.iconst 0, 1) := by decide +kernel
theorem dX7_divide_12 : decode cX7_divide 12 = .ok (.istore 5, 2) := by decide +kernel
theorem dX7_divide_14 : decode cX7_divide 14 = .ok (.iload 5, 2) := by decide +kernel
theorem dX7_divide_16 : decode cX7_divide 16 = .ok (.aload_n 2, 1) := by decide +kernel
theorem dX7_divide_17 : decode cX7_divide 17 = .ok (.invokevirtual 58, 3) := by decide +kernel
theorem dX7_divide_20 : decode cX7_divide 20 = .ok (.if_icmp .ge 27, 3) := by decide +kernel
theorem dX7_divide_23 : decode cX7_divide 23 = .ok (.iload 4, 2) := by decide +kernel
theorem dX7_divide_25 : decode cX7_divide 25 = .ok (.aload_n 2, 1) := by decide +kernel
theorem dX7_divide_26 : decode cX7_divide 26 = .ok (.iload 5, 2) := by decide +kernel
theorem dX7_divide_28 : decode cX7_divide 28 = .ok (.invokevirtual 384, 3) := by decide +kernel
theorem dX7_divide_31 : decode cX7_divide 31 = .ok (.checkcast 128, 3) := by decide +kernel
theorem dX7_divide_34 : decode cX7_divide 34 = .ok (.iload_n 3, 1) := by decide +kernel
theorem dX7_divide_35 : decode cX7_divide 35 = .ok (.invokevirtual 465, 3) := by decide +kernel
theorem dX7_divide_38 : decode cX7_divide 38 = .ok (.iadd, 1) := by decide +kernel
theorem dX7_divide_39 : decode cX7_divide 39 = .ok (.istore 4, 2) := by decide +kernel
theorem dX7_divide_41 : decode cX7_divide 41 = .ok (.iinc 5 1, 3) := by decide +kernel
theorem dX7_divide_44 : decode cX7_divide 44 = .ok (.goto (-30), 3) := by decide +kernel
theorem dX7_divide_47 : decode cX7_divide 47 = .ok (.lload_n 0, 1) := by decide +kernel
theorem dX7_divide_48 : decode cX7_divide 48 = .ok (.iload 4, 2) := by decide +kernel
theorem dX7_divide_50 : decode cX7_divide 50 = .ok (.iconst 1, 1) := by decide +kernel
theorem dX7_divide_51 : decode cX7_divide 51 = .ok (.invokestatic 132, 3) := by decide +kernel
theorem dX7_divide_54 : decode cX7_divide 54 = .ok (.i2l, 1) := by decide +kernel
theorem dX7_divide_55 : decode cX7_divide 55 = .ok (.ldiv, 1) := by decide +kernel
theorem dX7_divide_56 : decode cX7_divide 56 = .ok (.lstore 5, 2) := by decide +kernel
theorem dX7_divide_58 : decode cX7_divide 58 = .ok (.iconst 0, 1) := by decide +kernel
theorem dX7_divide_59 : decode cX7_divide 59 = .ok (.istore 7, 2) := by decide +kernel
theorem dX7_divide_61 : decode cX7_divide 61 = .ok (.iload 7, 2) := by decide +kernel
theorem dX7_divide_63 : decode cX7_divide 63 = .ok (.aload_n 2, 1) := by decide +kernel
theorem dX7_divide_64 : decode cX7_divide 64 = .ok (.invokevirtual 58, 3) := by decide +kernel
theorem dX7_divide_67 : decode cX7_divide 67 = .ok (.if_icmp .ge 43, 3) := by decide +kernel
theorem dX7_divide_70 : decode cX7_divide 70 = .ok (.aload_n 2, 1) := by decide +kernel
theorem dX7_divide_71 : decode cX7_divide 71 = .ok (.iload 7, 2) := by decide +kernel
theorem dX7_divide_73 : decode cX7_divide 73 = .ok (.invokevirtual 384, 3) := by decide +kernel
theorem dX7_divide_76 : decode cX7_divide 76 = .ok (.checkcast 128, 3) := by decide +kernel
theorem dX7_divide_79 : decode cX7_divide 79 = .ok (.dup, 1) := by decide +kernel
theorem dX7_divide_80 : decode cX7_divide 80 = .ok (.getfield 256, 3) := by decide +kernel
theorem dX7_divide_83 : decode cX7_divide 83 = .ok (.lload 5, 2) := by decide +kernel
theorem dX7_divide_85 : decode cX7_divide 85 = .ok (.aload_n 2, 1) := by decide +kernel
theorem dX7_divide_86 : decode cX7_divide 86 = .ok (.iload 7, 2) := by decide +kernel
theorem dX7_divide_88 : decode cX7_divide 88 = .ok (.invokevirtual 384, 3) := by decide +kernel
theorem dX7_divide_91 : decode cX7_divide 91 = .ok (.checkcast 128, 3) := by decide +kernel
theorem dX7_divide_94 : decode cX7_divide 94 = .ok (.iload_n 3, 1) := by decide +kernel
theorem dX7_divide_95 : decode cX7_divide 95 = .ok (.invokevirtual 465, 3) := by decide +kernel
theorem dX7_divide_98 : decode cX7_divide 98 = .ok (.i2l, 1) := by decide +kernel
theorem dX7_divide_99 : decode cX7_divide 99 = .ok (.lmul, 1) := by decide +kernel
theorem dX7_divide_100 : decode cX7_divide 100 = .ok (.ladd, 1) := by decide +kernel
theorem dX7_divide_101 : decode cX7_divide 101 = .ok (.putfield 256, 3) := by decide +kernel
theorem dX7_divide_104 : decode cX7_divide 104 = .ok (.iinc 7 1, 3) := by decide +kernel
theorem dX7_divide_107 : decode cX7_divide 107 = .ok (.goto (-46), 3) := by decide +kernel
theorem dX7_divide_110 : decode cX7_divide 110 = .ok (.aload_n 2, 1) := by decide +kernel
theorem dX7_divide_111 : decode cX7_divide 111 = .ok (.invokestatic 461, 3) := by decide +kernel
theorem dX7_divide_114 : decode cX7_divide 114 = .ok (.dup, 1) := by decide +kernel
theorem dX7_divide_115 : decode cX7_divide 115 = .ok (.getfield 256, 3) := by decide +kernel
theorem dX7_divide_118 : decode cX7_divide 118 = .ok (.lload_n 0, 1) := by decide +kernel
theorem dX7_divide_119 : decode cX7_divide 119 = .ok (.lload 5, 2) := by decide +kernel
theorem dX7_divide_121 : decode cX7_divide 121 = .ok (.iload 4, 2) := by decide +kernel
theorem dX7_divide_123 : decode cX7_divide 123 = .ok (.i2l, 1) := by decide +kernel
theorem dX7_divide_124 : decode cX7_divide 124 = .ok (.lmul, 1) := by decide +kernel
theorem dX7_divide_125 : decode cX7_divide 125 = .ok (.lsub, 1) := by decide +kernel
theorem dX7_divide_126 : decode cX7_divide 126 = .ok (.ladd, 1) := by decide +kernel
theorem dX7_divide_127 : decode cX7_divide 127 = .ok (.putfield 256, 3) := by decide +kernel
theorem dX7_divide_130 : decode cX7_divide 130 = .ok (.return_, 1) := by decide +kernel
theorem dX7_lowestOf_0 : decode cX7_lowestOf 0 = .ok (.aload_n 0, 1) := by decide +kernel
theorem dX7_lowestOf_1 : decode cX7_lowestOf 1 = .ok (.iconst 0, 1) := by decide +kernel
theorem dX7_lowestOf_2 : decode cX7_lowestOf 2 = .ok (.invokevirtual 384, 3) := by decide +kernel
theorem dX7_lowestOf_5 : decode cX7_lowestOf 5 = .ok (.checkcast 128, 3) := by decide +kernel
theorem dX7_lowestOf_8 : decode cX7_lowestOf 8 = .ok (.astore_n 1, 1) := by decide +kernel
theorem dX7_lowestOf_9 : decode cX7_lowestOf 9 = .ok (.iconst 1, 1) := by decide +kernel
theorem dX7_lowestOf_10 : decode cX7_lowestOf 10 = .ok (.istore_n 2, 1) := by decide +kernel
theorem dX7_lowestOf_11 : decode cX7_lowestOf 11 = .ok (.iload_n 2, 1) := by decide +kernel
theorem dX7_lowestOf_12 : decode cX7_lowestOf 12 = .ok (.aload_n 0, 1) := by decide +kernel
theorem dX7_lowestOf_13 : decode cX7_lowestOf 13 = .ok (.invokevirtual 58, 3) := by decide +kernel
theorem dX7_lowestOf_16 : decode cX7_lowestOf 16 = .ok (.if_icmp .ge 36, 3) := by decide +kernel
theorem dX7_lowestOf_19 : decode cX7_lowestOf 19 = .ok (.aload_n 0, 1) := by decide +kernel
theorem dX7_lowestOf_20 : decode cX7_lowestOf 20 = .ok (.iload_n 2, 1) := by decide +kernel
theorem dX7_lowestOf_21 : decode cX7_lowestOf 21 = .ok (.invokevirtual 384, 3) := by decide +kernel
theorem dX7_lowestOf_24 : decode cX7_lowestOf 24 = .ok (.checkcast 128, 3) := by decide +kernel
theorem dX7_lowestOf_27 : decode cX7_lowestOf 27 = .ok (.getfield 379, 3) := by decide +kernel
theorem dX7_lowestOf_30 : decode cX7_lowestOf 30 = .ok (.aload_n 1, 1) := by decide +kernel
theorem dX7_lowestOf_31 : decode cX7_lowestOf 31 = .ok (.getfield 379, 3) := by decide +kernel
theorem dX7_lowestOf_34 : decode cX7_lowestOf 34 = .ok (.if_icmp .ge 12, 3) := by decide +kernel
theorem dX7_lowestOf_37 : decode cX7_lowestOf 37 = .ok (.aload_n 0, 1) := by decide +kernel
theorem dX7_lowestOf_38 : decode cX7_lowestOf 38 = .ok (.iload_n 2, 1) := by decide +kernel
theorem dX7_lowestOf_39 : decode cX7_lowestOf 39 = .ok (.invokevirtual 384, 3) := by decide +kernel
theorem dX7_lowestOf_42 : decode cX7_lowestOf 42 = .ok (.checkcast 128, 3) := by decide +kernel
theorem dX7_lowestOf_45 : decode cX7_lowestOf 45 = .ok (.astore_n 1, 1) := by decide +kernel
theorem dX7_lowestOf_46 : decode cX7_lowestOf 46 = .ok (.iinc 2 1, 3) := by decide +kernel
theorem dX7_lowestOf_49 : decode cX7_lowestOf 49 = .ok (.goto (-38), 3) := by decide +kernel
theorem dX7_lowestOf_52 : decode cX7_lowestOf 52 = .ok (.aload_n 1, 1) := by decide +kernel
theorem dX7_lowestOf_53 : decode cX7_lowestOf 53 = .ok (.areturn, 1) := by decide +kernel
theorem dX7_isSeisedBetween_0 : decode cX7_isSeisedBetween 0 = .ok (.iconst 0, 1) := by decide +kernel
theorem dX7_isSeisedBetween_1 : decode cX7_isSeisedBetween 1 = .ok (.istore_n 3, 1) := by decide +kernel
theorem dX7_isSeisedBetween_2 : decode cX7_isSeisedBetween 2 = .ok (.iload_n 3, 1) := by decide +kernel
theorem dX7_isSeisedBetween_3 : decode cX7_isSeisedBetween 3 = .ok (.aload_n 0, 1) := by decide +kernel
theorem dX7_isSeisedBetween_4 : decode cX7_isSeisedBetween 4 = .ok (.getfield 41, 3) := by decide +kernel
theorem dX7_isSeisedBetween_7 : decode cX7_isSeisedBetween 7 = .ok (.invokevirtual 58, 3) := by decide +kernel
theorem dX7_isSeisedBetween_10 : decode cX7_isSeisedBetween 10 = .ok (.if_icmp .ge 50, 3) := by decide +kernel
theorem dX7_isSeisedBetween_13 : decode cX7_isSeisedBetween 13 = .ok (.aload_n 0, 1) := by decide +kernel
theorem dX7_isSeisedBetween_14 : decode cX7_isSeisedBetween 14 = .ok (.getfield 41, 3) := by decide +kernel
theorem dX7_isSeisedBetween_17 : decode cX7_isSeisedBetween 17 = .ok (.iload_n 3, 1) := by decide +kernel
theorem dX7_isSeisedBetween_18 : decode cX7_isSeisedBetween 18 = .ok (.invokevirtual 384, 3) := by decide +kernel
theorem dX7_isSeisedBetween_21 : decode cX7_isSeisedBetween 21 = .ok (.checkcast 280, 3) := by decide +kernel
theorem dX7_isSeisedBetween_24 : decode cX7_isSeisedBetween 24 = .ok (.astore 4, 2) := by decide +kernel
theorem dX7_isSeisedBetween_26 : decode cX7_isSeisedBetween 26 = .ok (.aload 4, 2) := by decide +kernel
theorem dX7_isSeisedBetween_28 : decode cX7_isSeisedBetween 28 = .ok (.getfield 287, 3) := by decide +kernel
theorem dX7_isSeisedBetween_31 : decode cX7_isSeisedBetween 31 = .ok (.ifCond .ne 23, 3) := by decide +kernel
theorem dX7_isSeisedBetween_34 : decode cX7_isSeisedBetween 34 = .ok (.aload 4, 2) := by decide +kernel
theorem dX7_isSeisedBetween_36 : decode cX7_isSeisedBetween 36 = .ok (.aload_n 1, 1) := by decide +kernel
theorem dX7_isSeisedBetween_37 : decode cX7_isSeisedBetween 37 = .ok (.invokevirtual 304, 3) := by decide +kernel
theorem dX7_isSeisedBetween_40 : decode cX7_isSeisedBetween 40 = .ok (.ifCond .eq 14, 3) := by decide +kernel
theorem dX7_isSeisedBetween_43 : decode cX7_isSeisedBetween 43 = .ok (.aload 4, 2) := by decide +kernel
theorem dX7_isSeisedBetween_45 : decode cX7_isSeisedBetween 45 = .ok (.aload_n 2, 1) := by decide +kernel
theorem dX7_isSeisedBetween_46 : decode cX7_isSeisedBetween 46 = .ok (.invokevirtual 304, 3) := by decide +kernel
theorem dX7_isSeisedBetween_49 : decode cX7_isSeisedBetween 49 = .ok (.ifCond .eq 5, 3) := by decide +kernel
theorem dX7_isSeisedBetween_52 : decode cX7_isSeisedBetween 52 = .ok (.iconst 1, 1) := by decide +kernel
theorem dX7_isSeisedBetween_53 : decode cX7_isSeisedBetween 53 = .ok (.ireturn, 1) := by decide +kernel
theorem dX7_isSeisedBetween_54 : decode cX7_isSeisedBetween 54 = .ok (.iinc 3 1, 3) := by decide +kernel
theorem dX7_isSeisedBetween_57 : decode cX7_isSeisedBetween 57 = .ok (.goto (-55), 3) := by decide +kernel
theorem dX7_isSeisedBetween_60 : decode cX7_isSeisedBetween 60 = .ok (.iconst 0, 1) := by decide +kernel
theorem dX7_isSeisedBetween_61 : decode cX7_isSeisedBetween 61 = .ok (.ireturn, 1) := by decide +kernel
theorem dX7_isWonBefore_0 : decode cX7_isWonBefore 0 = .ok (.aload_n 2, 1) := by decide +kernel
theorem dX7_isWonBefore_1 : decode cX7_isWonBefore 1 = .ok (.bipush 6, 2) := by decide +kernel
theorem dX7_isWonBefore_3 : decode cX7_isWonBefore 3 = .ok (.aload_n 0, 1) := by decide +kernel
theorem dX7_isWonBefore_4 : decode cX7_isWonBefore 4 = .ok (.getfield 51, 3) := by decide +kernel
theorem dX7_isWonBefore_7 : decode cX7_isWonBefore 7 = .ok (.invokevirtual 114, 3) := by decide +kernel
theorem dX7_isWonBefore_10 : decode cX7_isWonBefore 10 = .ok (.istore_n 3, 1) := by decide +kernel
theorem dX7_isWonBefore_11 : decode cX7_isWonBefore 11 = .ok (.iconst 0, 1) := by decide +kernel
theorem dX7_isWonBefore_12 : decode cX7_isWonBefore 12 = .ok (.istore 4, 2) := by decide +kernel
theorem dX7_isWonBefore_14 : decode cX7_isWonBefore 14 = .ok (.iconst 0, 1) := by decide +kernel
theorem dX7_isWonBefore_15 : decode cX7_isWonBefore 15 = .ok (.istore 5, 2) := by decide +kernel
theorem dX7_isWonBefore_17 : decode cX7_isWonBefore 17 = .ok (.iconst 0, 1) := by decide +kernel
theorem dX7_isWonBefore_18 : decode cX7_isWonBefore 18 = .ok (.istore 6, 2) := by decide +kernel
theorem dX7_isWonBefore_20 : decode cX7_isWonBefore 20 = .ok (.iload 6, 2) := by decide +kernel
theorem dX7_isWonBefore_22 : decode cX7_isWonBefore 22 = .ok (.aload_n 1, 1) := by decide +kernel
theorem dX7_isWonBefore_23 : decode cX7_isWonBefore 23 = .ok (.getfield 313, 3) := by decide +kernel
theorem dX7_isWonBefore_26 : decode cX7_isWonBefore 26 = .ok (.invokevirtual 58, 3) := by decide +kernel
theorem dX7_isWonBefore_29 : decode cX7_isWonBefore 29 = .ok (.if_icmp .ge 64, 3) := by decide +kernel
theorem dX7_isWonBefore_32 : decode cX7_isWonBefore 32 = .ok (.aload_n 1, 1) := by decide +kernel
theorem dX7_isWonBefore_33 : decode cX7_isWonBefore 33 = .ok (.getfield 313, 3) := by decide +kernel
theorem dX7_isWonBefore_36 : decode cX7_isWonBefore 36 = .ok (.iload 6, 2) := by decide +kernel
theorem dX7_isWonBefore_38 : decode cX7_isWonBefore 38 = .ok (.invokevirtual 384, 3) := by decide +kernel
theorem dX7_isWonBefore_41 : decode cX7_isWonBefore 41 = .ok (.checkcast 316, 3) := by decide +kernel
theorem dX7_isWonBefore_44 : decode cX7_isWonBefore 44 = .ok (.astore 7, 2) := by decide +kernel
theorem dX7_isWonBefore_46 : decode cX7_isWonBefore 46 = .ok (.iconst 1, 1) := by decide +kernel
theorem dX7_isWonBefore_47 : decode cX7_isWonBefore 47 = .ok (.iload_n 3, 1) := by decide +kernel
theorem dX7_isWonBefore_48 : decode cX7_isWonBefore 48 = .ok (.aload 7, 2) := by decide +kernel
theorem dX7_isWonBefore_50 : decode cX7_isWonBefore 50 = .ok (.getfield 469, 3) := by decide +kernel
theorem dX7_isWonBefore_53 : decode cX7_isWonBefore 53 = .ok (.invokevirtual 172, 3) := by decide +kernel
theorem dX7_isWonBefore_56 : decode cX7_isWonBefore 56 = .ok (.ishr, 1) := by decide +kernel
theorem dX7_isWonBefore_57 : decode cX7_isWonBefore 57 = .ok (.iconst 1, 1) := by decide +kernel
theorem dX7_isWonBefore_58 : decode cX7_isWonBefore 58 = .ok (.iand, 1) := by decide +kernel
theorem dX7_isWonBefore_59 : decode cX7_isWonBefore 59 = .ok (.iadd, 1) := by decide +kernel
theorem dX7_isWonBefore_60 : decode cX7_isWonBefore 60 = .ok (.istore 8, 2) := by decide +kernel
theorem dX7_isWonBefore_62 : decode cX7_isWonBefore 62 = .ok (.aload 7, 2) := by decide +kernel
theorem dX7_isWonBefore_64 : decode cX7_isWonBefore 64 = .ok (.getfield 472, 3) := by decide +kernel
theorem dX7_isWonBefore_67 : decode cX7_isWonBefore 67 = .ok (.ifCond .eq 13, 3) := by decide +kernel
theorem dX7_isWonBefore_70 : decode cX7_isWonBefore 70 = .ok (.iload 4, 2) := by decide +kernel
theorem dX7_isWonBefore_72 : decode cX7_isWonBefore 72 = .ok (.iload 8, 2) := by decide +kernel
theorem dX7_isWonBefore_74 : decode cX7_isWonBefore 74 = .ok (.iadd, 1) := by decide +kernel
theorem dX7_isWonBefore_75 : decode cX7_isWonBefore 75 = .ok (.istore 4, 2) := by decide +kernel
theorem dX7_isWonBefore_77 : decode cX7_isWonBefore 77 = .ok (.goto 10, 3) := by decide +kernel
theorem dX7_isWonBefore_80 : decode cX7_isWonBefore 80 = .ok (.iload 5, 2) := by decide +kernel
theorem dX7_isWonBefore_82 : decode cX7_isWonBefore 82 = .ok (.iload 8, 2) := by decide +kernel
theorem dX7_isWonBefore_84 : decode cX7_isWonBefore 84 = .ok (.iadd, 1) := by decide +kernel
theorem dX7_isWonBefore_85 : decode cX7_isWonBefore 85 = .ok (.istore 5, 2) := by decide +kernel
theorem dX7_isWonBefore_87 : decode cX7_isWonBefore 87 = .ok (.iinc 6 1, 3) := by decide +kernel
theorem dX7_isWonBefore_90 : decode cX7_isWonBefore 90 = .ok (.goto (-70), 3) := by decide +kernel
theorem dX7_isWonBefore_93 : decode cX7_isWonBefore 93 = .ok (.iload 4, 2) := by decide +kernel
theorem dX7_isWonBefore_95 : decode cX7_isWonBefore 95 = .ok (.iload 5, 2) := by decide +kernel
theorem dX7_isWonBefore_97 : decode cX7_isWonBefore 97 = .ok (.if_icmp .le 13, 3) := by decide +kernel
theorem dX7_isWonBefore_100 : decode cX7_isWonBefore 100 = .ok (.iload 4, 2) := by decide +kernel
theorem dX7_isWonBefore_102 : decode cX7_isWonBefore 102 = .ok (.iconst 4, 1) := by decide +kernel
theorem dX7_isWonBefore_103 : decode cX7_isWonBefore 103 = .ok (.if_icmp .lt 7, 3) := by decide +kernel
theorem dX7_isWonBefore_106 : decode cX7_isWonBefore 106 = .ok (.iconst 1, 1) := by decide +kernel
theorem dX7_isWonBefore_107 : decode cX7_isWonBefore 107 = .ok (.goto 4, 3) := by decide +kernel
theorem dX7_isWonBefore_110 : decode cX7_isWonBefore 110 = .ok (.iconst 0, 1) := by decide +kernel
theorem dX7_isWonBefore_111 : decode cX7_isWonBefore 111 = .ok (.ireturn, 1) := by decide +kernel
