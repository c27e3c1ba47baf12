theorem dX6_readSum_6 : decode cX6_readSum 6 = .ok (.istore_n 2, 1) := by decide +kernel
theorem dX6_readSum_7 : decode cX6_readSum 7 = .ok (.iload_n 2, 1) := by decide +kernel
theorem dX6_readSum_8 : decode cX6_readSum 8 = .ok (.sipush 240, 3) := by decide +kernel
theorem dX6_readSum_11 : decode cX6_readSum 11 = .ok (.if_icmp .ge 52, 3) := by decide +kernel
theorem dX6_readSum_14 : decode cX6_readSum 14 = .ok (.aload_n 0, 1) := by decide +kernel
theorem dX6_readSum_15 : decode cX6_readSum 15 = .ok (.getfield 18, 3) := by decide +kernel
theorem dX6_readSum_18 : decode cX6_readSum 18 = .ok (.invokevirtual 38, 3) := by decide +kernel
theorem dX6_readSum_21 : decode cX6_readSum 21 = .ok (.invokestatic 89, 3) := by decide +kernel
theorem dX6_readSum_24 : decode cX6_readSum 24 = .ok (.ifCond .eq 39, 3) := by decide +kernel
theorem dX6_readSum_27 : decode cX6_readSum 27 = .ok (.aload_n 0, 1) := by decide +kernel
theorem dX6_readSum_28 : decode cX6_readSum 28 = .ok (.getfield 18, 3) := by decide +kernel
theorem dX6_readSum_31 : decode cX6_readSum 31 = .ok (.invokevirtual 38, 3) := by decide +kernel
theorem dX6_readSum_34 : decode cX6_readSum 34 = .ok (.istore_n 3, 1) := by decide +kernel
theorem dX6_readSum_35 : decode cX6_readSum 35 = .ok (.aload_n 0, 1) := by decide +kernel
theorem dX6_readSum_36 : decode cX6_readSum 36 = .ok (.getfield 18, 3) := by decide +kernel
theorem dX6_readSum_39 : decode cX6_readSum 39 = .ok (.invokevirtual 49, 3) := by decide +kernel
theorem dX6_readSum_42 : decode cX6_readSum 42 = .ok (.aload_n 0, 1) := by decide +kernel
theorem dX6_readSum_43 : decode cX6_readSum 43 = .ok (.iload_n 1, 1) := by decide +kernel
theorem dX6_readSum_44 : decode cX6_readSum 44 = .ok (.invokevirtual 86, 3) := by decide +kernel
theorem dX6_readSum_47 : decode cX6_readSum 47 = .ok (.aload_n 0, 1) := by decide +kernel
theorem dX6_readSum_48 : decode cX6_readSum 48 = .ok (.getfield 12, 3) := by decide +kernel
theorem dX6_readSum_51 : decode cX6_readSum 51 = .ok (.iload_n 3, 1) := by decide +kernel
theorem dX6_readSum_52 : decode cX6_readSum 52 = .ok (.iconst 0, 1) := by decide +kernel
theorem dX6_readSum_53 : decode cX6_readSum 53 = .ok (.invokevirtual 58, 3) := by decide +kernel
theorem dX6_readSum_56 : decode cX6_readSum 56 = .ok (.pop, 1) := by decide +kernel
theorem dX6_readSum_57 : decode cX6_readSum 57 = .ok (.iinc 2 1, 3) := by decide +kernel
theorem dX6_readSum_60 : decode cX6_readSum 60 = .ok (.goto (-53), 3) := by decide +kernel
theorem dX6_readSum_63 : decode cX6_readSum 63 = .ok (.return_, 1) := by decide +kernel
theorem dX6_readTerm_0 : decode cX6_readTerm 0 = .ok (.aload_n 0, 1) := by decide +kernel
theorem dX6_readTerm_1 : decode cX6_readTerm 1 = .ok (.iload_n 1, 1) := by decide +kernel
theorem dX6_readTerm_2 : decode cX6_readTerm 2 = .ok (.invokevirtual 92, 3) := by decide +kernel
theorem dX6_readTerm_5 : decode cX6_readTerm 5 = .ok (.iconst 0, 1) := by decide +kernel
theorem dX6_readTerm_6 : decode cX6_readTerm 6 = .ok (.istore_n 2, 1) := by decide +kernel
theorem dX6_readTerm_7 : decode cX6_readTerm 7 = .ok (.iload_n 2, 1) := by decide +kernel
theorem dX6_readTerm_8 : decode cX6_readTerm 8 = .ok (.sipush 240, 3) := by decide +kernel
theorem dX6_readTerm_11 : decode cX6_readTerm 11 = .ok (.if_icmp .ge 52, 3) := by decide +kernel
theorem dX6_readTerm_14 : decode cX6_readTerm 14 = .ok (.aload_n 0, 1) := by decide +kernel
theorem dX6_readTerm_15 : decode cX6_readTerm 15 = .ok (.getfield 18, 3) := by decide +kernel
theorem dX6_readTerm_18 : decode cX6_readTerm 18 = .ok (.invokevirtual 38, 3) := by decide +kernel
theorem dX6_readTerm_21 : decode cX6_readTerm 21 = .ok (.invokestatic 95, 3) := by decide +kernel
theorem dX6_readTerm_24 : decode cX6_readTerm 24 = .ok (.ifCond .eq 39, 3) := by decide +kernel
theorem dX6_readTerm_27 : decode cX6_readTerm 27 = .ok (.aload_n 0, 1) := by decide +kernel
theorem dX6_readTerm_28 : decode cX6_readTerm 28 = .ok (.getfield 18, 3) := by decide +kernel
theorem dX6_readTerm_31 : decode cX6_readTerm 31 = .ok (.invokevirtual 38, 3) := by decide +kernel
theorem dX6_readTerm_34 : decode cX6_readTerm 34 = .ok (.istore_n 3, 1) := by decide +kernel
theorem dX6_readTerm_35 : decode cX6_readTerm 35 = .ok (.aload_n 0, 1) := by decide +kernel
theorem dX6_readTerm_36 : decode cX6_readTerm 36 = .ok (.getfield 18, 3) := by decide +kernel
theorem dX6_readTerm_39 : decode cX6_readTerm 39 = .ok (.invokevirtual 49, 3) := by decide +kernel
theorem dX6_readTerm_42 : decode cX6_readTerm 42 = .ok (.aload_n 0, 1) := by decide +kernel
theorem dX6_readTerm_43 : decode cX6_readTerm 43 = .ok (.iload_n 1, 1) := by decide +kernel
theorem dX6_readTerm_44 : decode cX6_readTerm 44 = .ok (.invokevirtual 92, 3) := by decide +kernel
theorem dX6_readTerm_47 : decode cX6_readTerm 47 = .ok (.aload_n 0, 1) := by decide +kernel
theorem dX6_readTerm_48 : decode cX6_readTerm 48 = .ok (.getfield 12, 3) := by decide +kernel
theorem dX6_readTerm_51 : decode cX6_readTerm 51 = .ok (.iload_n 3, 1) := by decide +kernel
theorem dX6_readTerm_52 : decode cX6_readTerm 52 = .ok (.iconst 0, 1) := by decide +kernel
theorem dX6_readTerm_53 : decode cX6_readTerm 53 = .ok (.invokevirtual 58, 3) := by decide +kernel
theorem dX6_readTerm_56 : decode cX6_readTerm 56 = .ok (.pop, 1) := by decide +kernel
theorem dX6_readTerm_57 : decode cX6_readTerm 57 = .ok (.iinc 2 1, 3) := by decide +kernel
theorem dX6_readTerm_60 : decode cX6_readTerm 60 = .ok (.goto (-53), 3) := by decide +kernel
theorem dX6_readTerm_63 : decode cX6_readTerm 63 = .ok (.return_, 1) := by decide +kernel
theorem dX6_joinsTerms_0 : decode cX6_joinsTerms 0 = .ok (.iload_n 0, 1) := by decide +kernel
theorem dX6_joinsTerms_1 : decode cX6_joinsTerms 1 = .ok (.bipush 43, 2) := by decide +kernel
theorem dX6_joinsTerms_3 : decode cX6_joinsTerms 3 = .ok (.if_icmp .eq 9, 3) := by decide +kernel
theorem dX6_joinsTerms_6 : decode cX6_joinsTerms 6 = .ok (.iload_n 0, 1) := by decide +kernel
theorem dX6_joinsTerms_7 : decode cX6_joinsTerms 7 = .ok (.bipush 45, 2) := by decide +kernel
theorem dX6_joinsTerms_9 : decode cX6_joinsTerms 9 = .ok (.if_icmp .ne 7, 3) := by decide +kernel
theorem dX6_joinsTerms_12 : decode cX6_joinsTerms 12 = .ok (.iconst 1, 1) := by decide +kernel
theorem dX6_joinsTerms_13 : decode cX6_joinsTerms 13 = .ok (.goto 4, 3) := by decide +kernel
theorem dX6_joinsTerms_16 : decode cX6_joinsTerms 16 = .ok (.iconst 0, 1) := by decide +kernel
theorem dX6_joinsTerms_17 : decode cX6_joinsTerms 17 = .ok (.ireturn, 1) := by decide +kernel
theorem dX6_joinsFactors_0 : decode cX6_joinsFactors 0 = .ok (.iload_n 0, 1) := by decide +kernel
theorem dX6_joinsFactors_1 : decode cX6_joinsFactors 1 = .ok (.bipush 42, 2) := by decide +kernel
theorem dX6_joinsFactors_3 : decode cX6_joinsFactors 3 = .ok (.if_icmp .eq 15, 3) := by decide +kernel
theorem dX6_joinsFactors_6 : decode cX6_joinsFactors 6 = .ok (.iload_n 0, 1) := by decide +kernel
theorem dX6_joinsFactors_7 : decode cX6_joinsFactors 7 = .ok (.bipush 47, 2) := by decide +kernel
theorem dX6_joinsFactors_9 : decode cX6_joinsFactors 9 = .ok (.if_icmp .eq 9, 3) := by decide +kernel
theorem dX6_joinsFactors_12 : decode cX6_joinsFactors 12 = .ok (.iload_n 0, 1) := by decide +kernel
theorem dX6_joinsFactors_13 : decode cX6_joinsFactors 13 = .ok (.bipush 37, 2) := by decide +kernel
theorem dX6_joinsFactors_15 : decode cX6_joinsFactors 15 = .ok (.if_icmp .ne 7, 3) := by decide +kernel
theorem dX6_joinsFactors_18 : decode cX6_joinsFactors 18 = .ok (.iconst 1, 1) := by decide +kernel
theorem dX6_joinsFactors_19 : decode cX6_joinsFactors 19 = .ok (.goto 4, 3) := by decide +kernel
theorem dX6_joinsFactors_22 : decode cX6_joinsFactors 22 = .ok (.iconst 0, 1) := by decide +kernel
theorem dX6_joinsFactors_23 : decode cX6_joinsFactors 23 = .ok (.ireturn, 1) := by decide +kernel
theorem dX6_readFactor_0 : decode cX6_readFactor 0 = .ok (.aload_n 0, 1) := by decide +kernel
theorem dX6_readFactor_1 : decode cX6_readFactor 1 = .ok (.getfield 18, 3) := by decide +kernel
theorem dX6_readFactor_4 : decode cX6_readFactor 4 = .ok (.bipush 91, 2) := by decide +kernel
theorem dX6_readFactor_6 : decode cX6_readFactor 6 = .ok (.invokevirtual 30, 3) := by decide +kernel
theorem dX6_readFactor_9 : decode cX6_readFactor 9 = .ok (.ifCond .eq 28, 3) := by decide +kernel
theorem dX6_readFactor_12 : decode cX6_readFactor 12 = .ok (.aload_n 0, 1) := by decide +kernel
theorem dX6_readFactor_13 : decode cX6_readFactor 13 = .ok (.iload_n 1, 1) := by decide +kernel
theorem dX6_readFactor_14 : decode cX6_readFactor 14 = .ok (.invokevirtual 80, 3) := by decide +kernel
theorem dX6_readFactor_17 : decode cX6_readFactor 17 = .ok (.ifCond .eq 19, 3) := by decide +kernel
theorem dX6_readFactor_20 : decode cX6_readFactor 20 = .ok (.aload_n 0, 1) := by decide +kernel
theorem dX6_readFactor_21 : decode cX6_readFactor 21 = .ok (.iload_n 1, 1) := by decide +kernel
theorem dX6_readFactor_22 : decode cX6_readFactor 22 = .ok (.iconst 1, 1) := by decide +kernel
theorem dX6_readFactor_23 : decode cX6_readFactor 23 = .ok (.iadd, 1) := by decide +kernel
theorem dX6_readFactor_24 : decode cX6_readFactor 24 = .ok (.invokevirtual 55, 3) := by decide +kernel
theorem dX6_readFactor_27 : decode cX6_readFactor 27 = .ok (.aload_n 0, 1) := by decide +kernel
theorem dX6_readFactor_28 : decode cX6_readFactor 28 = .ok (.getfield 18, 3) := by decide +kernel
theorem dX6_readFactor_31 : decode cX6_readFactor 31 = .ok (.bipush 93, 2) := by decide +kernel
theorem dX6_readFactor_33 : decode cX6_readFactor 33 = .ok (.invokevirtual 34, 3) := by decide +kernel
theorem dX6_readFactor_36 : decode cX6_readFactor 36 = .ok (.return_, 1) := by decide +kernel
theorem dX6_readFactor_37 : decode cX6_readFactor 37 = .ok (.aload_n 0, 1) := by decide +kernel
theorem dX6_readFactor_38 : decode cX6_readFactor 38 = .ok (.getfield 18, 3) := by decide +kernel
theorem dX6_readFactor_41 : decode cX6_readFactor 41 = .ok (.invokevirtual 38, 3) := by decide +kernel
theorem dX6_readFactor_44 : decode cX6_readFactor 44 = .ok (.invokestatic 98, 3) := by decide +kernel
theorem dX6_readFactor_47 : decode cX6_readFactor 47 = .ok (.istore_n 2, 1) := by decide +kernel
theorem dX6_readFactor_48 : decode cX6_readFactor 48 = .ok (.iload_n 2, 1) := by decide +kernel
theorem dX6_readFactor_49 : decode cX6_readFactor 49 = .ok (.iconst (-1), 1) := by decide +kernel
theorem dX6_readFactor_50 : decode cX6_readFactor 50 = .ok (.if_icmp .ne 23, 3) := by decide +kernel
theorem dX6_readFactor_53 : decode cX6_readFactor 53 = .ok (.aload_n 0, 1) := by decide +kernel
theorem dX6_readFactor_54 : decode cX6_readFactor 54 = .ok (.getfield 12, 3) := by decide +kernel
theorem dX6_readFactor_57 : decode cX6_readFactor 57 = .ok (.iconst 1, 1) := by decide +kernel
theorem dX6_readFactor_58 : decode cX6_readFactor 58 = .ok (.aload_n 0, 1) := by decide +kernel
theorem dX6_readFactor_59 : decode cX6_readFactor 59 = .ok (.getfield 18, 3) := by decide +kernel
theorem dX6_readFactor_62 : decode cX6_readFactor 62 = .ok (.iconst 5, 1) := by decide +kernel
theorem dX6_readFactor_63 : decode cX6_readFactor 63 = .ok (.invokevirtual 102, 3) := by decide +kernel
theorem dX6_readFactor_66 : decode cX6_readFactor 66 = .ok (.invokevirtual 58, 3) := by decide +kernel
theorem dX6_readFactor_69 : decode cX6_readFactor 69 = .ok (.pop, 1) := by decide +kernel
theorem dX6_readFactor_70 : decode cX6_readFactor 70 = .ok (.goto 20, 3) := by decide +kernel
theorem dX6_readFactor_73 : decode cX6_readFactor 73 = .ok (.aload_n 0, 1) := by decide +kernel
theorem dX6_readFactor_74 : decode cX6_readFactor 74 = .ok (.getfield 12, 3) := by decide +kernel
theorem dX6_readFactor_77 : decode cX6_readFactor 77 = .ok (.iconst 2, 1) := by decide +kernel
theorem dX6_readFactor_78 : decode cX6_readFactor 78 = .ok (.iload_n 2, 1) := by decide +kernel
theorem dX6_readFactor_79 : decode cX6_readFactor 79 = .ok (.invokevirtual 58, 3) := by decide +kernel
theorem dX6_readFactor_82 : decode cX6_readFactor 82 = .ok (.pop, 1) := by decide +kernel
theorem dX6_readFactor_83 : decode cX6_readFactor 83 = .ok (.aload_n 0, 1) := by decide +kernel
theorem dX6_readFactor_84 : decode cX6_readFactor 84 = .ok (.getfield 18, 3) := by decide +kernel
theorem dX6_readFactor_87 : decode cX6_readFactor 87 = .ok (.invokevirtual 49, 3) := by decide +kernel
theorem dX6_readFactor_90 : decode cX6_readFactor 90 = .ok (.return_, 1) := by decide +kernel
theorem dX6_opens_0 : decode cX6_opens 0 = .ok (.iload_n 1, 1) := by decide +kernel
theorem dX6_opens_1 : decode cX6_opens 1 = .ok (.bipush 6, 2) := by decide +kernel
theorem dX6_opens_3 : decode cX6_opens 3 = .ok (.if_icmp .lt 13, 3) := by decide +kernel
theorem dX6_opens_6 : decode cX6_opens 6 = .ok (.aload_n 0, 1) := by decide +kernel
theorem dX6_opens_7 : decode cX6_opens 7 = .ok (.getfield 18, 3) := by decide +kernel
theorem dX6_opens_10 : decode cX6_opens 10 = .ok (.iconst 5, 1) := by decide +kernel
theorem dX6_opens_11 : decode cX6_opens 11 = .ok (.invokevirtual 42, 3) := by decide +kernel
theorem dX6_opens_14 : decode cX6_opens 14 = .ok (.iconst 0, 1) := by decide +kernel
theorem dX6_opens_15 : decode cX6_opens 15 = .ok (.ireturn, 1) := by decide +kernel
theorem dX6_opens_16 : decode cX6_opens 16 = .ok (.aload_n 0, 1) := by decide +kernel
theorem dX6_opens_17 : decode cX6_opens 17 = .ok (.getfield 18, 3) := by decide +kernel
theorem dX6_opens_20 : decode cX6_opens 20 = .ok (.invokevirtual 49, 3) := by decide +kernel
theorem dX6_opens_23 : decode cX6_opens 23 = .ok (.iconst 1, 1) := by decide +kernel
theorem dX6_opens_24 : decode cX6_opens 24 = .ok (.ireturn, 1) := by decide +kernel
theorem dX6_letterOf_0 : decode cX6_letterOf 0 = .ok (.iload_n 0, 1) := by decide +kernel
theorem dX6_letterOf_1 : decode cX6_letterOf 1 = .ok (.tableswitch 113 97 116 #[99, 113, 97, 113, 113, 105, 103, 95, 113, 113, 113, 113, 113, 107, 113, 113, 113, 113, 101, 110], 95) := by decide +kernel
theorem dX6_letterOf_96 : decode cX6_letterOf 96 = .ok (.iconst 0, 1) := by decide +kernel
theorem dX6_letterOf_97 : decode cX6_letterOf 97 = .ok (.ireturn, 1) := by decide +kernel
theorem dX6_letterOf_98 : decode cX6_letterOf 98 = .ok (.iconst 1, 1) := by decide +kernel
theorem dX6_letterOf_99 : decode cX6_letterOf 99 = .ok (.ireturn, 1) := by decide +kernel
theorem dX6_letterOf_100 : decode cX6_letterOf 100 = .ok (.iconst 2, 1) := by decide +kernel
theorem dX6_letterOf_101 : decode cX6_letterOf 101 = .ok (.ireturn, 1) := by decide +kernel
theorem dX6_letterOf_102 : decode cX6_letterOf 102 = .ok (.iconst 3, 1) := by decide +kernel
theorem dX6_letterOf_103 : decode cX6_letterOf 103 = .ok (.ireturn, 1) := by decide +kernel
theorem dX6_letterOf_104 : decode cX6_letterOf 104 = .ok (.iconst 4, 1) := by decide +kernel
theorem dX6_letterOf_105 : decode cX6_letterOf 105 = .ok (.ireturn, 1) := by decide +kernel
theorem dX6_letterOf_106 : decode cX6_letterOf 106 = .ok (.iconst 5, 1) := by decide +kernel
theorem dX6_letterOf_107 : decode cX6_letterOf 107 = .ok (.ireturn, 1) := by decide +kernel
theorem dX6_letterOf_108 : decode cX6_letterOf 108 = .ok (.bipush 6, 2) := by decide +kernel
theorem dX6_letterOf_110 : decode cX6_letterOf 110 = .ok (.ireturn, 1) := by decide +kernel
theorem dX6_letterOf_111 : decode cX6_letterOf 111 = .ok (.bipush 7, 2) := by decide +kernel
theorem dX6_letterOf_113 : decode cX6_letterOf 113 = .ok (.ireturn, 1) := by decide +kernel
theorem dX6_letterOf_114 : decode cX6_letterOf 114 = .ok (.iconst (-1), 1) := by decide +kernel
theorem dX6_letterOf_115 : decode cX6_letterOf 115 = .ok (.ireturn, 1) := by decide +kernel
theorem dX7_init_0 : decode cX7_init 0 = .ok (.aload_n 0, 1) := by decide +kernel
theorem dX7_init_1 : decode cX7_init 1 = .ok (.invokespecial 3, 3) := by decide +kernel
theorem dX7_init_4 : decode cX7_init 4 = .ok (.aload_n 0, 1) := by decide +kernel
theorem dX7_init_5 : decode cX7_init 5 = .ok (.bipush 96, 2) := by decide +kernel
theorem dX7_init_7 : decode cX7_init 7 = .ok (.newarray .int, 2) := by decide +kernel
theorem dX7_init_9 : decode cX7_init 9 = .ok (.putfield 9, 3) := by decide +kernel
theorem dX7_init_12 : decode cX7_init 12 = .ok (.aload_n 0, 1) := by decide +kernel
theorem dX7_init_13 : decode cX7_init 13 = .ok (.iconst 0, 1) := by decide +kernel
theorem dX7_init_14 : decode cX7_init 14 = .ok (.putfield 15, 3) := by decide +kernel
theorem dX7_init_17 : decode cX7_init 17 = .ok (.aload_n 0, 1) := by decide +kernel
theorem dX7_init_18 : decode cX7_init 18 = .ok (.aload_n 1, 1) := by decide +kernel
theorem dX7_init_19 : decode cX7_init 19 = .ok (.putfield 19, 3) := by decide +kernel
theorem dX7_init_22 : decode cX7_init 22 = .ok (.return_, 1) := by decide +kernel
theorem dX7_read_0 : decode cX7_read 0 = .ok (.aload_n 0, 1) := by decide +kernel
theorem dX7_read_1 : decode cX7_read 1 = .ok (.iconst 0, 1) := by decide +kernel
theorem dX7_read_2 : decode cX7_read 2 = .ok (.putfield 15, 3) := by decide +kernel
theorem dX7_read_5 : decode cX7_read 5 = .ok (.aload_n 0, 1) := by decide +kernel
theorem dX7_read_6 : decode cX7_read 6 = .ok (.iconst 0, 1) := by decide +kernel
theorem dX7_read_7 : decode cX7_read 7 = .ok (.invokevirtual 23, 3) := by decide +kernel
theorem dX7_read_10 : decode cX7_read 10 = .ok (.return_, 1) := by decide +kernel
theorem dX7_readSteps_0 : decode cX7_readSteps 0 = .ok (.iload_n 1, 1) := by decide +kernel
theorem dX7_readSteps_1 : decode cX7_readSteps 1 = .ok (.ifCond .ne 7, 3) := by decide +kernel
theorem dX7_readSteps_4 : decode cX7_readSteps 4 = .ok (.iconst (-1), 1) := by decide +kernel
theorem dX7_readSteps_5 : decode cX7_readSteps 5 = .ok (.goto 5, 3) := by decide +kernel
theorem dX7_readSteps_8 : decode cX7_readSteps 8 = .ok (.bipush 41, 2) := by decide +kernel
theorem dX7_readSteps_10 : decode cX7_readSteps 10 = .ok (.istore_n 2, 1) := by decide +kernel
theorem dX7_readSteps_11 : decode cX7_readSteps 11 = .ok (.iconst 0, 1) := by decide +kernel
theorem dX7_readSteps_12 : decode cX7_readSteps 12 = .ok (.istore_n 3, 1) := by decide +kernel
theorem dX7_readSteps_13 : decode cX7_readSteps 13 = .ok (.iload_n 3, 1) := by decide +kernel
theorem dX7_readSteps_14 : decode cX7_readSteps 14 = .ok (.bipush 60, 2) := by decide +kernel
theorem dX7_readSteps_16 : decode cX7_readSteps 16 = .ok (.if_icmp .gt 36, 3) := by decide +kernel
theorem dX7_readSteps_19 : decode cX7_readSteps 19 = .ok (.aload_n 0, 1) := by decide +kernel
theorem dX7_readSteps_20 : decode cX7_readSteps 20 = .ok (.iload_n 1, 1) := by decide +kernel
theorem dX7_readSteps_21 : decode cX7_readSteps 21 = .ok (.invokevirtual 29, 3) := by decide +kernel
theorem dX7_readSteps_24 : decode cX7_readSteps 24 = .ok (.aload_n 0, 1) := by decide +kernel
theorem dX7_readSteps_25 : decode cX7_readSteps 25 = .ok (.getfield 19, 3) := by decide +kernel
theorem dX7_readSteps_28 : decode cX7_readSteps 28 = .ok (.invokevirtual 32, 3) := by decide +kernel
theorem dX7_readSteps_31 : decode cX7_readSteps 31 = .ok (.ifCond .eq 14, 3) := by decide +kernel
theorem dX7_readSteps_34 : decode cX7_readSteps 34 = .ok (.aload_n 0, 1) := by decide +kernel
theorem dX7_readSteps_35 : decode cX7_readSteps 35 = .ok (.getfield 19, 3) := by decide +kernel
theorem dX7_readSteps_38 : decode cX7_readSteps 38 = .ok (.iload_n 2, 1) := by decide +kernel
theorem dX7_readSteps_39 : decode cX7_readSteps 39 = .ok (.invokevirtual 36, 3) := by decide +kernel
theorem dX7_readSteps_42 : decode cX7_readSteps 42 = .ok (.ifCond .eq 4, 3) := by decide +kernel
theorem dX7_readSteps_45 : decode cX7_readSteps 45 = .ok (.return_, 1) := by decide +kernel
theorem dX7_readSteps_46 : decode cX7_readSteps 46 = .ok (.iinc 3 1, 3) := by decide +kernel
theorem dX7_readSteps_49 : decode cX7_readSteps 49 = .ok (.goto (-36), 3) := by decide +kernel
theorem dX7_readSteps_52 : decode cX7_readSteps 52 = .ok (.return_, 1) := by decide +kernel
theorem dX7_readOne_0 : decode cX7_readOne 0 = .ok (.aload_n 0, 1) := by decide +kernel
theorem dX7_readOne_1 : decode cX7_readOne 1 = .ok (.getfield 19, 3) := by decide +kernel
theorem dX7_readOne_4 : decode cX7_readOne 4 = .ok (.getfield 40, 3) := by decide +kernel
theorem dX7_readOne_7 : decode cX7_readOne 7 = .ok (.istore_n 2, 1) := by decide +kernel
theorem dX7_readOne_8 : decode cX7_readOne 8 = .ok (.iconst 1, 1) := by decide +kernel
theorem dX7_readOne_9 : decode cX7_readOne 9 = .ok (.istore_n 3, 1) := by decide +kernel
theorem dX7_readOne_10 : decode cX7_readOne 10 = .ok (.aload_n 0, 1) := by decide +kernel
theorem dX7_readOne_11 : decode cX7_readOne 11 = .ok (.getfield 19, 3) := by decide +kernel
theorem dX7_readOne_14 : decode cX7_readOne 14 = .ok (.invokevirtual 43, 3) := by decide +kernel
theorem dX7_readOne_17 : decode cX7_readOne 17 = .ok (.bipush 50, 2) := by decide +kernel
theorem dX7_readOne_19 : decode cX7_readOne 19 = .ok (.if_icmp .lt 33, 3) := by decide +kernel
theorem dX7_readOne_22 : decode cX7_readOne 22 = .ok (.aload_n 0, 1) := by decide +kernel
theorem dX7_readOne_23 : decode cX7_readOne 23 = .ok (.getfield 19, 3) := by decide +kernel
theorem dX7_readOne_26 : decode cX7_readOne 26 = .ok (.invokevirtual 43, 3) := by decide +kernel
theorem dX7_readOne_29 : decode cX7_readOne 29 = .ok (.bipush 57, 2) := by decide +kernel
theorem dX7_readOne_31 : decode cX7_readOne 31 = .ok (.if_icmp .gt 21, 3) := by decide +kernel
theorem dX7_readOne_34 : decode cX7_readOne 34 = .ok (.aload_n 0, 1) := by decide +kernel
theorem dX7_readOne_35 : decode cX7_readOne 35 = .ok (.getfield 19, 3) := by decide +kernel
theorem dX7_readOne_38 : decode cX7_readOne 38 = .ok (.invokevirtual 43, 3) := by decide +kernel
theorem dX7_readOne_41 : decode cX7_readOne 41 = .ok (.bipush 48, 2) := by decide +kernel
theorem dX7_readOne_43 : decode cX7_readOne 43 = .ok (.isub, 1) := by decide +kernel
theorem dX7_readOne_44 : decode cX7_readOne 44 = .ok (.istore_n 3, 1) := by decide +kernel
theorem dX7_readOne_45 : decode cX7_readOne 45 = .ok (.aload_n 0, 1) := by decide +kernel
theorem dX7_readOne_46 : decode cX7_readOne 46 = .ok (.getfield 19, 3) := by decide +kernel
theorem dX7_readOne_49 : decode cX7_readOne 49 = .ok (.invokevirtual 47, 3) := by decide +kernel
theorem dX7_readOne_52 : decode cX7_readOne 52 = .ok (.aload_n 0, 1) := by decide +kernel
theorem dX7_readOne_53 : decode cX7_readOne 53 = .ok (.getfield 15, 3) := by decide +kernel
theorem dX7_readOne_56 : decode cX7_readOne 56 = .ok (.istore 4, 2) := by decide +kernel
theorem dX7_readOne_58 : decode cX7_readOne 58 = .ok (.aload_n 0, 1) := by decide +kernel
theorem dX7_readOne_59 : decode cX7_readOne 59 = .ok (.getfield 19, 3) := by decide +kernel
theorem dX7_readOne_62 : decode cX7_readOne 62 = .ok (.bipush 40, 2) := by decide +kernel
theorem dX7_readOne_64 : decode cX7_readOne 64 = .ok (.invokevirtual 36, 3) := by decide +kernel
theorem dX7_readOne_67 : decode cX7_readOne 67 = .ok (.ifCond .eq 11, 3) := by decide +kernel
theorem dX7_readOne_70 : decode cX7_readOne 70 = .ok (.aload_n 0, 1) := by decide +kernel
theorem dX7_readOne_71 : decode cX7_readOne 71 = .ok (.iload_n 1, 1) := by decide +kernel
theorem dX7_readOne_72 : decode cX7_readOne 72 = .ok (.invokevirtual 50, 3) := by decide +kernel
theorem dX7_readOne_75 : decode cX7_readOne 75 = .ok (.goto 8, 3) := by decide +kernel
theorem dX7_readOne_78 : decode cX7_readOne 78 = .ok (.aload_n 0, 1) := by decide +kernel
theorem dX7_readOne_79 : decode cX7_readOne 79 = .ok (.iload_n 2, 1) := by decide +kernel
theorem dX7_readOne_80 : decode cX7_readOne 80 = .ok (.invokevirtual 53, 3) := by decide +kernel
theorem dX7_readOne_83 : decode cX7_readOne 83 = .ok (.aload_n 0, 1) := by decide +kernel
theorem dX7_readOne_84 : decode cX7_readOne 84 = .ok (.getfield 19, 3) := by decide +kernel
theorem dX7_readOne_87 : decode cX7_readOne 87 = .ok (.invokevirtual 32, 3) := by decide +kernel
theorem dX7_readOne_90 : decode cX7_readOne 90 = .ok (.ifCond .eq 11, 3) := by decide +kernel
theorem dX7_readOne_93 : decode cX7_readOne 93 = .ok (.aload_n 0, 1) := by decide +kernel
theorem dX7_readOne_94 : decode cX7_readOne 94 = .ok (.iload 4, 2) := by decide +kernel
theorem dX7_readOne_96 : decode cX7_readOne 96 = .ok (.iload_n 3, 1) := by decide +kernel
theorem dX7_readOne_97 : decode cX7_readOne 97 = .ok (.iload_n 2, 1) := by decide +kernel
theorem dX7_readOne_98 : decode cX7_readOne 98 = .ok (.invokevirtual 56, 3) := by decide +kernel
theorem dX7_readOne_101 : decode cX7_readOne 101 = .ok (.return_, 1) := by decide +kernel
theorem dX7_readRound_0 : decode cX7_readRound 0 = .ok (.iload_n 1, 1) := by decide +kernel
theorem dX7_readRound_1 : decode cX7_readRound 1 = .ok (.iconst 2, 1) := by decide +kernel
theorem dX7_readRound_2 : decode cX7_readRound 2 = .ok (.if_icmp .lt 12, 3) := by decide +kernel
theorem dX7_readRound_5 : decode cX7_readRound 5 = .ok (.aload_n 0, 1) := by decide +kernel
theorem dX7_readRound_6 : decode cX7_readRound 6 = .ok (.getfield 19, 3) := by decide +kernel
theorem dX7_readRound_9 : decode cX7_readRound 9 = .ok (.iconst 5, 1) := by decide +kernel
theorem dX7_readRound_10 : decode cX7_readRound 10 = .ok (.invokevirtual 60, 3) := by decide +kernel
theorem dX7_readRound_13 : decode cX7_readRound 13 = .ok (.return_, 1) := by decide +kernel
theorem dX7_readRound_14 : decode cX7_readRound 14 = .ok (.aload_n 0, 1) := by decide +kernel
theorem dX7_readRound_15 : decode cX7_readRound 15 = .ok (.getfield 19, 3) := by decide +kernel
theorem dX7_readRound_18 : decode cX7_readRound 18 = .ok (.invokevirtual 47, 3) := by decide +kernel
theorem dX7_readRound_21 : decode cX7_readRound 21 = .ok (.aload_n 0, 1) := by decide +kernel
theorem dX7_readRound_22 : decode cX7_readRound 22 = .ok (.iload_n 1, 1) := by decide +kernel
theorem dX7_readRound_23 : decode cX7_readRound 23 = .ok (.iconst 1, 1) := by decide +kernel
theorem dX7_readRound_24 : decode cX7_readRound 24 = .ok (.iadd, 1) := by decide +kernel
theorem dX7_readRound_25 : decode cX7_readRound 25 = .ok (.invokevirtual 23, 3) := by decide +kernel
theorem dX7_readRound_28 : decode cX7_readRound 28 = .ok (.aload_n 0, 1) := by decide +kernel
theorem dX7_readRound_29 : decode cX7_readRound 29 = .ok (.getfield 19, 3) := by decide +kernel
theorem dX7_readRound_32 : decode cX7_readRound 32 = .ok (.invokevirtual 32, 3) := by decide +kernel
theorem dX7_readRound_35 : decode cX7_readRound 35 = .ok (.ifCond .eq 10, 3) := by decide +kernel
theorem dX7_readRound_38 : decode cX7_readRound 38 = .ok (.aload_n 0, 1) := by decide +kernel
theorem dX7_readRound_39 : decode cX7_readRound 39 = .ok (.getfield 19, 3) := by decide +kernel
theorem dX7_readRound_42 : decode cX7_readRound 42 = .ok (.invokevirtual 47, 3) := by decide +kernel
theorem dX7_readRound_45 : decode cX7_readRound 45 = .ok (.return_, 1) := by decide +kernel
theorem dX7_readStep_0 : decode cX7_readStep 0 = .ok (.aload_n 0, 1) := by decide +kernel
theorem dX7_readStep_1 : decode cX7_readStep 1 = .ok (.getfield 19, 3) := by decide +kernel
theorem dX7_readStep_4 : decode cX7_readStep 4 = .ok (.invokevirtual 43, 3) := by decide +kernel
theorem dX7_readStep_7 : decode cX7_readStep 7 = .ok (.invokestatic 63, 3) := by decide +kernel
theorem dX7_readStep_10 : decode cX7_readStep 10 = .ok (.istore_n 2, 1) := by decide +kernel
theorem dX7_readStep_11 : decode cX7_readStep 11 = .ok (.iload_n 2, 1) := by decide +kernel
theorem dX7_readStep_12 : decode cX7_readStep 12 = .ok (.iconst (-1), 1) := by decide +kernel
theorem dX7_readStep_13 : decode cX7_readStep 13 = .ok (.if_icmp .ne 14, 3) := by decide +kernel
theorem dX7_readStep_16 : decode cX7_readStep 16 = .ok (.aload_n 0, 1) := by decide +kernel
theorem dX7_readStep_17 : decode cX7_readStep 17 = .ok (.getfield 19, 3) := by decide +kernel
theorem dX7_readStep_20 : decode cX7_readStep 20 = .ok (.iconst 1, 1) := by decide +kernel
theorem dX7_readStep_21 : decode cX7_readStep 21 = .ok (.invokevirtual 60, 3) := by decide +kernel
theorem dX7_readStep_24 : decode cX7_readStep 24 = .ok (.goto 55, 3) := by decide +kernel
theorem dX7_readStep_27 : decode cX7_readStep 27 = .ok (.aload_n 0, 1) := by decide +kernel
theorem dX7_readStep_28 : decode cX7_readStep 28 = .ok (.getfield 15, 3) := by decide +kernel
theorem dX7_readStep_31 : decode cX7_readStep 31 = .ok (.aload_n 0, 1) := by decide +kernel
theorem dX7_readStep_32 : decode cX7_readStep 32 = .ok (.getfield 9, 3) := by decide +kernel
theorem dX7_readStep_35 : decode cX7_readStep 35 = .ok (.arraylength, 1) := by decide +kernel
theorem dX7_readStep_36 : decode cX7_readStep 36 = .ok (.if_icmp .lt 16, 3) := by decide +kernel
theorem dX7_readStep_39 : decode cX7_readStep 39 = .ok (.aload_n 0, 1) := by decide +kernel
theorem dX7_readStep_40 : decode cX7_readStep 40 = .ok (.getfield 19, 3) := by decide +kernel
theorem dX7_readStep_43 : decode cX7_readStep 43 = .ok (.bipush 6, 2) := by decide +kernel
theorem dX7_readStep_45 : decode cX7_readStep 45 = .ok (.iload_n 1, 1) := by decide +kernel
theorem dX7_readStep_46 : decode cX7_readStep 46 = .ok (.invokevirtual 67, 3) := by decide +kernel
theorem dX7_readStep_49 : decode cX7_readStep 49 = .ok (.goto 30, 3) := by decide +kernel
theorem dX7_readStep_52 : decode cX7_readStep 52 = .ok (.aload_n 0, 1) := by decide +kernel
theorem dX7_readStep_53 : decode cX7_readStep 53 = .ok (.getfield 9, 3) := by decide +kernel
theorem dX7_readStep_56 : decode cX7_readStep 56 = .ok (.aload_n 0, 1) := by decide +kernel
theorem dX7_readStep_57 : decode cX7_readStep 57 = .ok (.getfield 15, 3) := by decide +kernel
theorem dX7_readStep_60 : decode cX7_readStep 60 = .ok (.iload_n 2, 1) := by decide +kernel
theorem dX7_readStep_61 : decode cX7_readStep 61 = .ok (.iastore, 1) := by decide +kernel
theorem dX7_readStep_62 : decode cX7_readStep 62 = .ok (.aload_n 0, 1) := by decide +kernel
theorem dX7_readStep_63 : decode cX7_readStep 63 = .ok (.dup, 1) := by decide +kernel
theorem dX7_readStep_64 : decode cX7_readStep 64 = .ok (.getfield 15, 3) := by decide +kernel
theorem dX7_readStep_67 : decode cX7_readStep 67 = .ok (.iconst 1, 1) := by decide +kernel
theorem dX7_readStep_68 : decode cX7_readStep 68 = .ok (.iadd, 1) := by decide +kernel
theorem dX7_readStep_69 : decode cX7_readStep 69 = .ok (.putfield 15, 3) := by decide +kernel
theorem dX7_readStep_72 : decode cX7_readStep 72 = .ok (.aload_n 0, 1) := by decide +kernel
theorem dX7_readStep_73 : decode cX7_readStep 73 = .ok (.getfield 19, 3) := by decide +kernel
theorem dX7_readStep_76 : decode cX7_readStep 76 = .ok (.invokevirtual 47, 3) := by decide +kernel
theorem dX7_readStep_79 : decode cX7_readStep 79 = .ok (.return_, 1) := by decide +kernel
theorem dX7_repeat_0 : decode cX7_repeat 0 = .ok (.aload_n 0, 1) := by decide +kernel
theorem dX7_repeat_1 : decode cX7_repeat 1 = .ok (.getfield 15, 3) := by decide +kernel
theorem dX7_repeat_4 : decode cX7_repeat 4 = .ok (.iload_n 1, 1) := by decide +kernel
theorem dX7_repeat_5 : decode cX7_repeat 5 = .ok (.isub, 1) := by decide +kernel
theorem dX7_repeat_6 : decode cX7_repeat 6 = .ok (.istore 4, 2) := by decide +kernel
theorem dX7_repeat_8 : decode cX7_repeat 8 = .ok (.iload_n 1, 1) := by decide +kernel
theorem dX7_repeat_9 : decode cX7_repeat 9 = .ok (.iload 4, 2) := by decide +kernel
theorem dX7_repeat_11 : decode cX7_repeat 11 = .ok (.iload_n 2, 1) := by decide +kernel
theorem dX7_repeat_12 : decode cX7_repeat 12 = .ok (.imul, 1) := by decide +kernel
theorem dX7_repeat_13 : decode cX7_repeat 13 = .ok (.iadd, 1) := by decide +kernel
theorem dX7_repeat_14 : decode cX7_repeat 14 = .ok (.aload_n 0, 1) := by decide +kernel
theorem dX7_repeat_15 : decode cX7_repeat 15 = .ok (.getfield 9, 3) := by decide +kernel
theorem dX7_repeat_18 : decode cX7_repeat 18 = .ok (.arraylength, 1) := by decide +kernel
theorem dX7_repeat_19 : decode cX7_repeat 19 = .ok (.if_icmp .le 14, 3) := by decide +kernel
theorem dX7_repeat_22 : decode cX7_repeat 22 = .ok (.aload_n 0, 1) := by decide +kernel
theorem dX7_repeat_23 : decode cX7_repeat 23 = .ok (.getfield 19, 3) := by decide +kernel
theorem dX7_repeat_26 : decode cX7_repeat 26 = .ok (.bipush 6, 2) := by decide +kernel
theorem dX7_repeat_28 : decode cX7_repeat 28 = .ok (.iload_n 3, 1) := by decide +kernel
theorem dX7_repeat_29 : decode cX7_repeat 29 = .ok (.invokevirtual 67, 3) := by decide +kernel
theorem dX7_repeat_32 : decode cX7_repeat 32 = .ok (.return_, 1) := by decide +kernel
theorem dX7_repeat_33 : decode cX7_repeat 33 = .ok (.iconst 1, 1) := by decide +kernel
theorem dX7_repeat_34 : decode cX7_repeat 34 = .ok (.istore 5, 2) := by decide +kernel
theorem dX7_repeat_36 : decode cX7_repeat 36 = .ok (.iload 5, 2) := by decide +kernel
theorem dX7_repeat_38 : decode cX7_repeat 38 = .ok (.iload_n 2, 1) := by decide +kernel
theorem dX7_repeat_39 : decode cX7_repeat 39 = .ok (.if_icmp .ge 30, 3) := by decide +kernel
theorem dX7_repeat_42 : decode cX7_repeat 42 = .ok (.aload_n 0, 1) := by decide +kernel
theorem dX7_repeat_43 : decode cX7_repeat 43 = .ok (.getfield 9, 3) := by decide +kernel
theorem dX7_repeat_46 : decode cX7_repeat 46 = .ok (.iload_n 1, 1) := by decide +kernel
theorem dX7_repeat_47 : decode cX7_repeat 47 = .ok (.aload_n 0, 1) := by decide +kernel
theorem dX7_repeat_48 : decode cX7_repeat 48 = .ok (.getfield 9, 3) := by decide +kernel
theorem dX7_repeat_51 : decode cX7_repeat 51 = .ok (.iload_n 1, 1) := by decide +kernel
theorem dX7_repeat_52 : decode cX7_repeat 52 = .ok (.iload 5, 2) := by decide +kernel
theorem dX7_repeat_54 : decode cX7_repeat 54 = .ok (.iload 4, 2) := by decide +kernel
theorem dX7_repeat_56 : decode cX7_repeat 56 = .ok (.imul, 1) := by decide +kernel
theorem dX7_repeat_57 : decode cX7_repeat 57 = .ok (.iadd, 1) := by decide +kernel
theorem dX7_repeat_58 : decode cX7_repeat 58 = .ok (.iload 4, 2) := by decide +kernel
theorem dX7_repeat_60 : decode cX7_repeat 60 = .ok (.invokestatic 71, 3) := by decide +kernel
theorem dX7_repeat_63 : decode cX7_repeat 63 = .ok (.iinc 5 1, 3) := by decide +kernel
theorem dX7_repeat_66 : decode cX7_repeat 66 = .ok (.goto (-30), 3) := by decide +kernel
theorem dX7_repeat_69 : decode cX7_repeat 69 = .ok (.aload_n 0, 1) := by decide +kernel
theorem dX7_repeat_70 : decode cX7_repeat 70 = .ok (.iload_n 1, 1) := by decide +kernel
theorem dX7_repeat_71 : decode cX7_repeat 71 = .ok (.iload 4, 2) := by decide +kernel
theorem dX7_repeat_73 : decode cX7_repeat 73 = .ok (.iload_n 2, 1) := by decide +kernel
theorem dX7_repeat_74 : decode cX7_repeat 74 = .ok (.imul, 1) := by decide +kernel
theorem dX7_repeat_75 : decode cX7_repeat 75 = .ok (.iadd, 1) := by decide +kernel
theorem dX7_repeat_76 : decode cX7_repeat 76 = .ok (.putfield 15, 3) := by decide +kernel
theorem dX7_repeat_79 : decode cX7_repeat 79 = .ok (.return_, 1) := by decide +kernel
theorem dX7_wayOf_0 : decode cX7_wayOf 0 = .ok (.iload_n 0, 1) := by decide +kernel
theorem dX7_wayOf_1 : decode cX7_wayOf 1 = .ok (.lookupswitch 61 #[(46, 51), (100, 57), (108, 59), (114, 55), (117, 53)], 51) := by decide +kernel
theorem dX7_wayOf_52 : decode cX7_wayOf 52 = .ok (.iconst 0, 1) := by decide +kernel
theorem dX7_wayOf_53 : decode cX7_wayOf 53 = .ok (.ireturn, 1) := by decide +kernel
theorem dX7_wayOf_54 : decode cX7_wayOf 54 = .ok (.iconst 1, 1) := by decide +kernel
theorem dX7_wayOf_55 : decode cX7_wayOf 55 = .ok (.ireturn, 1) := by decide +kernel
theorem dX7_wayOf_56 : decode cX7_wayOf 56 = .ok (.iconst 2, 1) := by decide +kernel
theorem dX7_wayOf_57 : decode cX7_wayOf 57 = .ok (.ireturn, 1) := by decide +kernel
theorem dX7_wayOf_58 : decode cX7_wayOf 58 = .ok (.iconst 3, 1) := by decide +kernel
theorem dX7_wayOf_59 : decode cX7_wayOf 59 = .ok (.ireturn, 1) := by decide +kernel
theorem dX7_wayOf_60 : decode cX7_wayOf 60 = .ok (.iconst 4, 1) := by decide +kernel
theorem dX7_wayOf_61 : decode cX7_wayOf 61 = .ok (.ireturn, 1) := by decide +kernel
theorem dX7_wayOf_62 : decode cX7_wayOf 62 = .ok (.iconst (-1), 1) := by decide +kernel
theorem dX7_wayOf_63 : decode cX7_wayOf 63 = .ok (.ireturn, 1) := by decide +kernel
theorem dX8_init_0 : decode cX8_init 0 = .ok (.aload_n 0, 1) := by decide +kernel
theorem dX8_init_1 : decode cX8_init 1 = .ok (.invokespecial 3, 3) := by decide +kernel
theorem dX8_init_4 : decode cX8_init 4 = .ok (.aload_n 0, 1) := by decide +kernel
theorem dX8_init_5 : decode cX8_init 5 = .ok (.bipush 6, 2) := by decide +kernel
theorem dX8_init_7 : decode cX8_init 7 = .ok (.newarray .int, 2) := by decide +kernel
theorem dX8_init_9 : decode cX8_init 9 = .ok (.putfield 9, 3) := by decide +kernel
theorem dX8_init_12 : decode cX8_init 12 = .ok (.aload_n 0, 1) := by decide +kernel
theorem dX8_init_13 : decode cX8_init 13 = .ok (.bipush 6, 2) := by decide +kernel
theorem dX8_init_15 : decode cX8_init 15 = .ok (.newarray .int, 2) := by decide +kernel
theorem dX8_init_17 : decode cX8_init 17 = .ok (.putfield 15, 3) := by decide +kernel
theorem dX8_init_20 : decode cX8_init 20 = .ok (.aload_n 0, 1) := by decide +kernel
theorem dX8_init_21 : decode cX8_init 21 = .ok (.bipush 6, 2) := by decide +kernel
theorem dX8_init_23 : decode cX8_init 23 = .ok (.newarray .int, 2) := by decide +kernel
theorem dX8_init_25 : decode cX8_init 25 = .ok (.putfield 18, 3) := by decide +kernel
theorem dX8_init_28 : decode cX8_init 28 = .ok (.aload_n 0, 1) := by decide +kernel
theorem dX8_init_29 : decode cX8_init 29 = .ok (.bipush 6, 2) := by decide +kernel
theorem dX8_init_31 : decode cX8_init 31 = .ok (.newarray .int, 2) := by decide +kernel
theorem dX8_init_33 : decode cX8_init 33 = .ok (.putfield 21, 3) := by decide +kernel
theorem dX8_init_36 : decode cX8_init 36 = .ok (.aload_n 0, 1) := by decide +kernel
theorem dX8_init_37 : decode cX8_init 37 = .ok (.iconst 0, 1) := by decide +kernel
theorem dX8_init_38 : decode cX8_init 38 = .ok (.putfield 24, 3) := by decide +kernel
theorem dX8_init_41 : decode cX8_init 41 = .ok (.aload_n 0, 1) := by decide +kernel
theorem dX8_init_42 : decode cX8_init 42 = .ok (.iconst 1, 1) := by decide +kernel
theorem dX8_init_43 : decode cX8_init 43 = .ok (.putfield 28, 3) := by decide +kernel
theorem dX8_init_46 : decode cX8_init 46 = .ok (.aload_n 0, 1) := by decide +kernel
theorem dX8_init_47 : decode cX8_init 47 = .ok (.getfield 21, 3) := by decide +kernel
theorem dX8_init_50 : decode cX8_init 50 = .ok (.iconst 3, 1) := by decide +kernel
theorem dX8_init_51 : decode cX8_init 51 = .ok (.invokestatic 31, 3) := by decide +kernel
theorem dX8_init_54 : decode cX8_init 54 = .ok (.return_, 1) := by decide +kernel
theorem dX8_copyFrom_0 : decode cX8_copyFrom 0 = .ok (.aload_n 1, 1) := by decide +kernel
theorem dX8_copyFrom_1 : decode cX8_copyFrom 1 = .ok (.getfield 9, 3) := by decide +kernel
theorem dX8_copyFrom_4 : decode cX8_copyFrom 4 = .ok (.iconst 0, 1) := by decide +kernel
theorem dX8_copyFrom_5 : decode cX8_copyFrom 5 = .ok (.aload_n 0, 1) := by decide +kernel
theorem dX8_copyFrom_6 : decode cX8_copyFrom 6 = .ok (.getfield 9, 3) := by decide +kernel
theorem dX8_copyFrom_9 : decode cX8_copyFrom 9 = .ok (.iconst 0, 1) := by decide +kernel
theorem dX8_copyFrom_10 : decode cX8_copyFrom 10 = .ok (.bipush 6, 2) := by decide +kernel
theorem dX8_copyFrom_12 : decode cX8_copyFrom 12 = .ok (.invokestatic 37, 3) := by decide +kernel
theorem dX8_copyFrom_15 : decode cX8_copyFrom 15 = .ok (.aload_n 1, 1) := by decide +kernel
theorem dX8_copyFrom_16 : decode cX8_copyFrom 16 = .ok (.getfield 15, 3) := by decide +kernel
theorem dX8_copyFrom_19 : decode cX8_copyFrom 19 = .ok (.iconst 0, 1) := by decide +kernel
theorem dX8_copyFrom_20 : decode cX8_copyFrom 20 = .ok (.aload_n 0, 1) := by decide +kernel
theorem dX8_copyFrom_21 : decode cX8_copyFrom 21 = .ok (.getfield 15, 3) := by decide +kernel
theorem dX8_copyFrom_24 : decode cX8_copyFrom 24 = .ok (.iconst 0, 1) := by decide +kernel
theorem dX8_copyFrom_25 : decode cX8_copyFrom 25 = .ok (.bipush 6, 2) := by decide +kernel
theorem dX8_copyFrom_27 : decode cX8_copyFrom 27 = .ok (.invokestatic 37, 3) := by decide +kernel
theorem dX8_copyFrom_30 : decode cX8_copyFrom 30 = .ok (.aload_n 1, 1) := by decide +kernel
theorem dX8_copyFrom_31 : decode cX8_copyFrom 31 = .ok (.getfield 18, 3) := by decide +kernel
theorem dX8_copyFrom_34 : decode cX8_copyFrom 34 = .ok (.iconst 0, 1) := by decide +kernel
theorem dX8_copyFrom_35 : decode cX8_copyFrom 35 = .ok (.aload_n 0, 1) := by decide +kernel
theorem dX8_copyFrom_36 : decode cX8_copyFrom 36 = .ok (.getfield 18, 3) := by decide +kernel
theorem dX8_copyFrom_39 : decode cX8_copyFrom 39 = .ok (.iconst 0, 1) := by decide +kernel
theorem dX8_copyFrom_40 : decode cX8_copyFrom 40 = .ok (.bipush 6, 2) := by decide +kernel
theorem dX8_copyFrom_42 : decode cX8_copyFrom 42 = .ok (.invokestatic 37, 3) := by decide +kernel
theorem dX8_copyFrom_45 : decode cX8_copyFrom 45 = .ok (.aload_n 1, 1) := by decide +kernel
theorem dX8_copyFrom_46 : decode cX8_copyFrom 46 = .ok (.getfield 21, 3) := by decide +kernel
theorem dX8_copyFrom_49 : decode cX8_copyFrom 49 = .ok (.iconst 0, 1) := by decide +kernel
theorem dX8_copyFrom_50 : decode cX8_copyFrom 50 = .ok (.aload_n 0, 1) := by decide +kernel
theorem dX8_copyFrom_51 : decode cX8_copyFrom 51 = .ok (.getfield 21, 3) := by decide +kernel
theorem dX8_copyFrom_54 : decode cX8_copyFrom 54 = .ok (.iconst 0, 1) := by decide +kernel
theorem dX8_copyFrom_55 : decode cX8_copyFrom 55 = .ok (.bipush 6, 2) := by decide +kernel
theorem dX8_copyFrom_57 : decode cX8_copyFrom 57 = .ok (.invokestatic 37, 3) := by decide +kernel
theorem dX8_copyFrom_60 : decode cX8_copyFrom 60 = .ok (.aload_n 0, 1) := by decide +kernel
theorem dX8_copyFrom_61 : decode cX8_copyFrom 61 = .ok (.aload_n 1, 1) := by decide +kernel
theorem dX8_copyFrom_62 : decode cX8_copyFrom 62 = .ok (.getfield 24, 3) := by decide +kernel
theorem dX8_copyFrom_65 : decode cX8_copyFrom 65 = .ok (.putfield 24, 3) := by decide +kernel
theorem dX8_copyFrom_68 : decode cX8_copyFrom 68 = .ok (.aload_n 0, 1) := by decide +kernel
theorem dX8_copyFrom_69 : decode cX8_copyFrom 69 = .ok (.aload_n 1, 1) := by decide +kernel
theorem dX8_copyFrom_70 : decode cX8_copyFrom 70 = .ok (.getfield 28, 3) := by decide +kernel
theorem dX8_copyFrom_73 : decode cX8_copyFrom 73 = .ok (.putfield 28, 3) := by decide +kernel
theorem dX8_copyFrom_76 : decode cX8_copyFrom 76 = .ok (.return_, 1) := by decide +kernel
theorem dX8_tell_0 : decode cX8_tell 0 = .ok (.iload_n 1, 1) := by decide +kernel
theorem dX8_tell_1 : decode cX8_tell 1 = .ok (.iconst 5, 1) := by decide +kernel
theorem dX8_tell_2 : decode cX8_tell 2 = .ok (.invokestatic 43, 3) := by decide +kernel
theorem dX8_tell_5 : decode cX8_tell 5 = .ok (.ifCond .eq 33, 3) := by decide +kernel
theorem dX8_tell_8 : decode cX8_tell 8 = .ok (.aload_n 0, 1) := by decide +kernel
theorem dX8_tell_9 : decode cX8_tell 9 = .ok (.getfield 9, 3) := by decide +kernel
theorem dX8_tell_12 : decode cX8_tell 12 = .ok (.iload_n 1, 1) := by decide +kernel
theorem dX8_tell_13 : decode cX8_tell 13 = .ok (.iload_n 2, 1) := by decide +kernel
theorem dX8_tell_14 : decode cX8_tell 14 = .ok (.iastore, 1) := by decide +kernel
theorem dX8_tell_15 : decode cX8_tell 15 = .ok (.aload_n 0, 1) := by decide +kernel
theorem dX8_tell_16 : decode cX8_tell 16 = .ok (.getfield 15, 3) := by decide +kernel
theorem dX8_tell_19 : decode cX8_tell 19 = .ok (.iload_n 1, 1) := by decide +kernel
theorem dX8_tell_20 : decode cX8_tell 20 = .ok (.sipush 10000, 3) := by decide +kernel
theorem dX8_tell_23 : decode cX8_tell 23 = .ok (.iastore, 1) := by decide +kernel
theorem dX8_tell_24 : decode cX8_tell 24 = .ok (.aload_n 0, 1) := by decide +kernel
theorem dX8_tell_25 : decode cX8_tell 25 = .ok (.getfield 18, 3) := by decide +kernel
theorem dX8_tell_28 : decode cX8_tell 28 = .ok (.iload_n 1, 1) := by decide +kernel
theorem dX8_tell_29 : decode cX8_tell 29 = .ok (.iconst 0, 1) := by decide +kernel
theorem dX8_tell_30 : decode cX8_tell 30 = .ok (.iastore, 1) := by decide +kernel
theorem dX8_tell_31 : decode cX8_tell 31 = .ok (.aload_n 0, 1) := by decide +kernel
theorem dX8_tell_32 : decode cX8_tell 32 = .ok (.getfield 21, 3) := by decide +kernel
theorem dX8_tell_35 : decode cX8_tell 35 = .ok (.iload_n 1, 1) := by decide +kernel
theorem dX8_tell_36 : decode cX8_tell 36 = .ok (.iconst 0, 1) := by decide +kernel
theorem dX8_tell_37 : decode cX8_tell 37 = .ok (.iastore, 1) := by decide +kernel
theorem dX8_tell_38 : decode cX8_tell 38 = .ok (.return_, 1) := by decide +kernel
theorem dX8_move_0 : decode cX8_move 0 = .ok (.iload_n 1, 1) := by decide +kernel
theorem dX8_move_1 : decode cX8_move 1 = .ok (.iconst 5, 1) := by decide +kernel
theorem dX8_move_2 : decode cX8_move 2 = .ok (.invokestatic 43, 3) := by decide +kernel
theorem dX8_move_5 : decode cX8_move 5 = .ok (.ifCond .eq 25, 3) := by decide +kernel
theorem dX8_move_8 : decode cX8_move 8 = .ok (.aload_n 0, 1) := by decide +kernel
theorem dX8_move_9 : decode cX8_move 9 = .ok (.getfield 9, 3) := by decide +kernel
theorem dX8_move_12 : decode cX8_move 12 = .ok (.iload_n 1, 1) := by decide +kernel
theorem dX8_move_13 : decode cX8_move 13 = .ok (.iload_n 2, 1) := by decide +kernel
theorem dX8_move_14 : decode cX8_move 14 = .ok (.iastore, 1) := by decide +kernel
theorem dX8_move_15 : decode cX8_move 15 = .ok (.aload_n 0, 1) := by decide +kernel
theorem dX8_move_16 : decode cX8_move 16 = .ok (.getfield 15, 3) := by decide +kernel
theorem dX8_move_19 : decode cX8_move 19 = .ok (.iload_n 1, 1) := by decide +kernel
theorem dX8_move_20 : decode cX8_move 20 = .ok (.iload_n 3, 1) := by decide +kernel
theorem dX8_move_21 : decode cX8_move 21 = .ok (.iastore, 1) := by decide +kernel
theorem dX8_move_22 : decode cX8_move 22 = .ok (.aload_n 0, 1) := by decide +kernel
theorem dX8_move_23 : decode cX8_move 23 = .ok (.getfield 21, 3) := by decide +kernel
theorem dX8_move_26 : decode cX8_move 26 = .ok (.iload_n 1, 1) := by decide +kernel
theorem dX8_move_27 : decode cX8_move 27 = .ok (.iload 4, 2) := by decide +kernel
theorem dX8_move_29 : decode cX8_move 29 = .ok (.iastore, 1) := by decide +kernel
theorem dX8_move_30 : decode cX8_move 30 = .ok (.return_, 1) := by decide +kernel
theorem dX8_lose_0 : decode cX8_lose 0 = .ok (.iload_n 1, 1) := by decide +kernel
theorem dX8_lose_1 : decode cX8_lose 1 = .ok (.iconst 5, 1) := by decide +kernel
theorem dX8_lose_2 : decode cX8_lose 2 = .ok (.invokestatic 43, 3) := by decide +kernel
theorem dX8_lose_5 : decode cX8_lose 5 = .ok (.ifCond .eq 10, 3) := by decide +kernel
theorem dX8_lose_8 : decode cX8_lose 8 = .ok (.aload_n 0, 1) := by decide +kernel
theorem dX8_lose_9 : decode cX8_lose 9 = .ok (.getfield 21, 3) := by decide +kernel
theorem dX8_lose_12 : decode cX8_lose 12 = .ok (.iload_n 1, 1) := by decide +kernel
theorem dX8_lose_13 : decode cX8_lose 13 = .ok (.iconst 2, 1) := by decide +kernel
theorem dX8_lose_14 : decode cX8_lose 14 = .ok (.iastore, 1) := by decide +kernel
theorem dX8_lose_15 : decode cX8_lose 15 = .ok (.return_, 1) := by decide +kernel
theorem dX8_addFault_0 : decode cX8_addFault 0 = .ok (.iload_n 1, 1) := by decide +kernel
theorem dX8_addFault_1 : decode cX8_addFault 1 = .ok (.iconst 5, 1) := by decide +kernel
theorem dX8_addFault_2 : decode cX8_addFault 2 = .ok (.invokestatic 43, 3) := by decide +kernel
theorem dX8_addFault_5 : decode cX8_addFault 5 = .ok (.ifCond .eq 31, 3) := by decide +kernel
theorem dX8_addFault_8 : decode cX8_addFault 8 = .ok (.aload_n 0, 1) := by decide +kernel
theorem dX8_addFault_9 : decode cX8_addFault 9 = .ok (.getfield 18, 3) := by decide +kernel
theorem dX8_addFault_12 : decode cX8_addFault 12 = .ok (.iload_n 1, 1) := by decide +kernel
theorem dX8_addFault_13 : decode cX8_addFault 13 = .ok (.dup2, 1) := by decide +kernel
theorem dX8_addFault_14 : decode cX8_addFault 14 = .ok (.iaload, 1) := by decide +kernel
theorem dX8_addFault_15 : decode cX8_addFault 15 = .ok (.iconst 1, 1) := by decide +kernel
theorem dX8_addFault_16 : decode cX8_addFault 16 = .ok (.iadd, 1) := by decide +kernel
theorem dX8_addFault_17 : decode cX8_addFault 17 = .ok (.iastore, 1) := by decide +kernel
theorem dX8_addFault_18 : decode cX8_addFault 18 = .ok (.aload_n 0, 1) := by decide +kernel
theorem dX8_addFault_19 : decode cX8_addFault 19 = .ok (.getfield 18, 3) := by decide +kernel
theorem dX8_addFault_22 : decode cX8_addFault 22 = .ok (.iload_n 1, 1) := by decide +kernel
theorem dX8_addFault_23 : decode cX8_addFault 23 = .ok (.iaload, 1) := by decide +kernel
theorem dX8_addFault_24 : decode cX8_addFault 24 = .ok (.bipush 9, 2) := by decide +kernel
theorem dX8_addFault_26 : decode cX8_addFault 26 = .ok (.if_icmp .lt 10, 3) := by decide +kernel
theorem dX8_addFault_29 : decode cX8_addFault 29 = .ok (.aload_n 0, 1) := by decide +kernel
theorem dX8_addFault_30 : decode cX8_addFault 30 = .ok (.getfield 21, 3) := by decide +kernel
theorem dX8_addFault_33 : decode cX8_addFault 33 = .ok (.iload_n 1, 1) := by decide +kernel
theorem dX8_addFault_34 : decode cX8_addFault 34 = .ok (.iconst 2, 1) := by decide +kernel
theorem dX8_addFault_35 : decode cX8_addFault 35 = .ok (.iastore, 1) := by decide +kernel
theorem dX8_addFault_36 : decode cX8_addFault 36 = .ok (.return_, 1) := by decide +kernel
theorem dX8_isTold_0 : decode cX8_isTold 0 = .ok (.aload_n 0, 1) := by decide +kernel
theorem dX8_isTold_1 : decode cX8_isTold 1 = .ok (.iload_n 1, 1) := by decide +kernel
theorem dX8_isTold_2 : decode cX8_isTold 2 = .ok (.invokevirtual 47, 3) := by decide +kernel
theorem dX8_isTold_5 : decode cX8_isTold 5 = .ok (.iconst 3, 1) := by decide +kernel
theorem dX8_isTold_6 : decode cX8_isTold 6 = .ok (.if_icmp .eq 7, 3) := by decide +kernel
theorem dX8_isTold_9 : decode cX8_isTold 9 = .ok (.iconst 1, 1) := by decide +kernel
theorem dX8_isTold_10 : decode cX8_isTold 10 = .ok (.goto 4, 3) := by decide +kernel
theorem dX8_isTold_13 : decode cX8_isTold 13 = .ok (.iconst 0, 1) := by decide +kernel
theorem dX8_isTold_14 : decode cX8_isTold 14 = .ok (.ireturn, 1) := by decide +kernel
theorem dX8_placeOfHound_0 : decode cX8_placeOfHound 0 = .ok (.iload_n 1, 1) := by decide +kernel
theorem dX8_placeOfHound_1 : decode cX8_placeOfHound 1 = .ok (.iconst 5, 1) := by decide +kernel
theorem dX8_placeOfHound_2 : decode cX8_placeOfHound 2 = .ok (.invokestatic 43, 3) := by decide +kernel
theorem dX8_placeOfHound_5 : decode cX8_placeOfHound 5 = .ok (.ifCond .eq 12, 3) := by decide +kernel
theorem dX8_placeOfHound_8 : decode cX8_placeOfHound 8 = .ok (.aload_n 0, 1) := by decide +kernel
theorem dX8_placeOfHound_9 : decode cX8_placeOfHound 9 = .ok (.getfield 9, 3) := by decide +kernel
theorem dX8_placeOfHound_12 : decode cX8_placeOfHound 12 = .ok (.iload_n 1, 1) := by decide +kernel
theorem dX8_placeOfHound_13 : decode cX8_placeOfHound 13 = .ok (.iaload, 1) := by decide +kernel
theorem dX8_placeOfHound_14 : decode cX8_placeOfHound 14 = .ok (.goto 4, 3) := by decide +kernel
theorem dX8_placeOfHound_17 : decode cX8_placeOfHound 17 = .ok (.iconst 0, 1) := by decide +kernel
theorem dX8_placeOfHound_18 : decode cX8_placeOfHound 18 = .ok (.ireturn, 1) := by decide +kernel
theorem dX8_timeOf_0 : decode cX8_timeOf 0 = .ok (.iload_n 1, 1) := by decide +kernel
theorem dX8_timeOf_1 : decode cX8_timeOf 1 = .ok (.iconst 5, 1) := by decide +kernel
theorem dX8_timeOf_2 : decode cX8_timeOf 2 = .ok (.invokestatic 43, 3) := by decide +kernel
theorem dX8_timeOf_5 : decode cX8_timeOf 5 = .ok (.ifCond .eq 12, 3) := by decide +kernel
theorem dX8_timeOf_8 : decode cX8_timeOf 8 = .ok (.aload_n 0, 1) := by decide +kernel
theorem dX8_timeOf_9 : decode cX8_timeOf 9 = .ok (.getfield 15, 3) := by decide +kernel
theorem dX8_timeOf_12 : decode cX8_timeOf 12 = .ok (.iload_n 1, 1) := by decide +kernel
theorem dX8_timeOf_13 : decode cX8_timeOf 13 = .ok (.iaload, 1) := by decide +kernel
theorem dX8_timeOf_14 : decode cX8_timeOf 14 = .ok (.goto 6, 3) := by decide +kernel
theorem dX8_timeOf_17 : decode cX8_timeOf 17 = .ok (.sipush 10000, 3) := by decide +kernel
theorem dX8_timeOf_20 : decode cX8_timeOf 20 = .ok (.ireturn, 1) := by decide +kernel
theorem dX8_faultsOf_0 : decode cX8_faultsOf 0 = .ok (.iload_n 1, 1) := by decide +kernel
theorem dX8_faultsOf_1 : decode cX8_faultsOf 1 = .ok (.iconst 5, 1) := by decide +kernel
theorem dX8_faultsOf_2 : decode cX8_faultsOf 2 = .ok (.invokestatic 43, 3) := by decide +kernel
theorem dX8_faultsOf_5 : decode cX8_faultsOf 5 = .ok (.ifCond .eq 12, 3) := by decide +kernel
theorem dX8_faultsOf_8 : decode cX8_faultsOf 8 = .ok (.aload_n 0, 1) := by decide +kernel
theorem dX8_faultsOf_9 : decode cX8_faultsOf 9 = .ok (.getfield 18, 3) := by decide +kernel
theorem dX8_faultsOf_12 : decode cX8_faultsOf 12 = .ok (.iload_n 1, 1) := by decide +kernel
theorem dX8_faultsOf_13 : decode cX8_faultsOf 13 = .ok (.iaload, 1) := by decide +kernel
theorem dX8_faultsOf_14 : decode cX8_faultsOf 14 = .ok (.goto 4, 3) := by decide +kernel
theorem dX8_faultsOf_17 : decode cX8_faultsOf 17 = .ok (.iconst 0, 1) := by decide +kernel
theorem dX8_faultsOf_18 : decode cX8_faultsOf 18 = .ok (.ireturn, 1) := by decide +kernel
theorem dX8_stateOf_0 : decode cX8_stateOf 0 = .ok (.iload_n 1, 1) := by decide +kernel
theorem dX8_stateOf_1 : decode cX8_stateOf 1 = .ok (.iconst 5, 1) := by decide +kernel
theorem dX8_stateOf_2 : decode cX8_stateOf 2 = .ok (.invokestatic 43, 3) := by decide +kernel
theorem dX8_stateOf_5 : decode cX8_stateOf 5 = .ok (.ifCond .eq 12, 3) := by decide +kernel
theorem dX8_stateOf_8 : decode cX8_stateOf 8 = .ok (.aload_n 0, 1) := by decide +kernel
theorem dX8_stateOf_9 : decode cX8_stateOf 9 = .ok (.getfield 21, 3) := by decide +kernel
theorem dX8_stateOf_12 : decode cX8_stateOf 12 = .ok (.iload_n 1, 1) := by decide +kernel
theorem dX8_stateOf_13 : decode cX8_stateOf 13 = .ok (.iaload, 1) := by decide +kernel
theorem dX8_stateOf_14 : decode cX8_stateOf 14 = .ok (.goto 4, 3) := by decide +kernel
theorem dX8_stateOf_17 : decode cX8_stateOf 17 = .ok (.iconst 3, 1) := by decide +kernel
theorem dX8_stateOf_18 : decode cX8_stateOf 18 = .ok (.ireturn, 1) := by decide +kernel
theorem dX8_bitsOf_0 : decode cX8_bitsOf 0 = .ok (.iconst 0, 1) := by decide +kernel
theorem dX8_bitsOf_1 : decode cX8_bitsOf 1 = .ok (.istore_n 2, 1) := by decide +kernel
theorem dX8_bitsOf_2 : decode cX8_bitsOf 2 = .ok (.iconst 0, 1) := by decide +kernel
theorem dX8_bitsOf_3 : decode cX8_bitsOf 3 = .ok (.istore_n 3, 1) := by decide +kernel
theorem dX8_bitsOf_4 : decode cX8_bitsOf 4 = .ok (.iload_n 3, 1) := by decide +kernel
theorem dX8_bitsOf_5 : decode cX8_bitsOf 5 = .ok (.bipush 6, 2) := by decide +kernel
theorem dX8_bitsOf_7 : decode cX8_bitsOf 7 = .ok (.if_icmp .ge 25, 3) := by decide +kernel
theorem dX8_bitsOf_10 : decode cX8_bitsOf 10 = .ok (.aload_n 0, 1) := by decide +kernel
theorem dX8_bitsOf_11 : decode cX8_bitsOf 11 = .ok (.getfield 21, 3) := by decide +kernel
theorem dX8_bitsOf_14 : decode cX8_bitsOf 14 = .ok (.iload_n 3, 1) := by decide +kernel
theorem dX8_bitsOf_15 : decode cX8_bitsOf 15 = .ok (.iaload, 1) := by decide +kernel
theorem dX8_bitsOf_16 : decode cX8_bitsOf 16 = .ok (.iload_n 1, 1) := by decide +kernel
theorem dX8_bitsOf_17 : decode cX8_bitsOf 17 = .ok (.if_icmp .ne 9, 3) := by decide +kernel
theorem dX8_bitsOf_20 : decode cX8_bitsOf 20 = .ok (.iload_n 2, 1) := by decide +kernel
theorem dX8_bitsOf_21 : decode cX8_bitsOf 21 = .ok (.iconst 1, 1) := by decide +kernel
theorem dX8_bitsOf_22 : decode cX8_bitsOf 22 = .ok (.iload_n 3, 1) := by decide +kernel
theorem dX8_bitsOf_23 : decode cX8_bitsOf 23 = .ok (.ishl, 1) := by decide +kernel
theorem dX8_bitsOf_24 : decode cX8_bitsOf 24 = .ok (.ior, 1) := by decide +kernel
theorem dX8_bitsOf_25 : decode cX8_bitsOf 25 = .ok (.istore_n 2, 1) := by decide +kernel
theorem dX8_bitsOf_26 : decode cX8_bitsOf 26 = .ok (.iinc 3 1, 3) := by decide +kernel
theorem dX8_bitsOf_29 : decode cX8_bitsOf 29 = .ok (.goto (-25), 3) := by decide +kernel
theorem dX8_bitsOf_32 : decode cX8_bitsOf 32 = .ok (.iload_n 2, 1) := by decide +kernel
theorem dX8_bitsOf_33 : decode cX8_bitsOf 33 = .ok (.ireturn, 1) := by decide +kernel
theorem dX8_firstOf_0 : decode cX8_firstOf 0 = .ok (.iconst 0, 1) := by decide +kernel
theorem dX8_firstOf_1 : decode cX8_firstOf 1 = .ok (.istore_n 2, 1) := by decide +kernel
theorem dX8_firstOf_2 : decode cX8_firstOf 2 = .ok (.iload_n 2, 1) := by decide +kernel
theorem dX8_firstOf_3 : decode cX8_firstOf 3 = .ok (.bipush 6, 2) := by decide +kernel
theorem dX8_firstOf_5 : decode cX8_firstOf 5 = .ok (.if_icmp .ge 21, 3) := by decide +kernel
theorem dX8_firstOf_8 : decode cX8_firstOf 8 = .ok (.aload_n 0, 1) := by decide +kernel
theorem dX8_firstOf_9 : decode cX8_firstOf 9 = .ok (.getfield 21, 3) := by decide +kernel
theorem dX8_firstOf_12 : decode cX8_firstOf 12 = .ok (.iload_n 2, 1) := by decide +kernel
theorem dX8_firstOf_13 : decode cX8_firstOf 13 = .ok (.iaload, 1) := by decide +kernel
theorem dX8_firstOf_14 : decode cX8_firstOf 14 = .ok (.iload_n 1, 1) := by decide +kernel
theorem dX8_firstOf_15 : decode cX8_firstOf 15 = .ok (.if_icmp .ne 5, 3) := by decide +kernel
theorem dX8_firstOf_18 : decode cX8_firstOf 18 = .ok (.iload_n 2, 1) := by decide +kernel
theorem dX8_firstOf_19 : decode cX8_firstOf 19 = .ok (.ireturn, 1) := by decide +kernel
theorem dX8_firstOf_20 : decode cX8_firstOf 20 = .ok (.iinc 2 1, 3) := by decide +kernel
theorem dX8_firstOf_23 : decode cX8_firstOf 23 = .ok (.goto (-21), 3) := by decide +kernel
theorem dX8_firstOf_26 : decode cX8_firstOf 26 = .ok (.iconst (-1), 1) := by decide +kernel
theorem dX8_firstOf_27 : decode cX8_firstOf 27 = .ok (.ireturn, 1) := by decide +kernel
theorem dX8_toldBits_0 : decode cX8_toldBits 0 = .ok (.aload_n 0, 1) := by decide +kernel
theorem dX8_toldBits_1 : decode cX8_toldBits 1 = .ok (.iconst 0, 1) := by decide +kernel
theorem dX8_toldBits_2 : decode cX8_toldBits 2 = .ok (.invokevirtual 51, 3) := by decide +kernel
theorem dX8_toldBits_5 : decode cX8_toldBits 5 = .ok (.aload_n 0, 1) := by decide +kernel
theorem dX8_toldBits_6 : decode cX8_toldBits 6 = .ok (.iconst 1, 1) := by decide +kernel
theorem dX8_toldBits_7 : decode cX8_toldBits 7 = .ok (.invokevirtual 51, 3) := by decide +kernel
theorem dX8_toldBits_10 : decode cX8_toldBits 10 = .ok (.ior, 1) := by decide +kernel
theorem dX8_toldBits_11 : decode cX8_toldBits 11 = .ok (.aload_n 0, 1) := by decide +kernel
theorem dX8_toldBits_12 : decode cX8_toldBits 12 = .ok (.iconst 2, 1) := by decide +kernel
theorem dX8_toldBits_13 : decode cX8_toldBits 13 = .ok (.invokevirtual 51, 3) := by decide +kernel
theorem dX8_toldBits_16 : decode cX8_toldBits 16 = .ok (.ior, 1) := by decide +kernel
theorem dX8_toldBits_17 : decode cX8_toldBits 17 = .ok (.ireturn, 1) := by decide +kernel
theorem dX8_houndsAt_0 : decode cX8_houndsAt 0 = .ok (.iconst 0, 1) := by decide +kernel
theorem dX8_houndsAt_1 : decode cX8_houndsAt 1 = .ok (.istore_n 2, 1) := by decide +kernel
theorem dX8_houndsAt_2 : decode cX8_houndsAt 2 = .ok (.iconst 0, 1) := by decide +kernel
theorem dX8_houndsAt_3 : decode cX8_houndsAt 3 = .ok (.istore_n 3, 1) := by decide +kernel
theorem dX8_houndsAt_4 : decode cX8_houndsAt 4 = .ok (.iload_n 3, 1) := by decide +kernel
theorem dX8_houndsAt_5 : decode cX8_houndsAt 5 = .ok (.bipush 6, 2) := by decide +kernel
theorem dX8_houndsAt_7 : decode cX8_houndsAt 7 = .ok (.if_icmp .ge 32, 3) := by decide +kernel
theorem dX8_houndsAt_10 : decode cX8_houndsAt 10 = .ok (.aload_n 0, 1) := by decide +kernel
theorem dX8_houndsAt_11 : decode cX8_houndsAt 11 = .ok (.getfield 21, 3) := by decide +kernel
theorem dX8_houndsAt_14 : decode cX8_houndsAt 14 = .ok (.iload_n 3, 1) := by decide +kernel
theorem dX8_houndsAt_15 : decode cX8_houndsAt 15 = .ok (.iaload, 1) := by decide +kernel
theorem dX8_houndsAt_16 : decode cX8_houndsAt 16 = .ok (.iconst 3, 1) := by decide +kernel
theorem dX8_houndsAt_17 : decode cX8_houndsAt 17 = .ok (.if_icmp .eq 16, 3) := by decide +kernel
theorem dX8_houndsAt_20 : decode cX8_houndsAt 20 = .ok (.aload_n 0, 1) := by decide +kernel
theorem dX8_houndsAt_21 : decode cX8_houndsAt 21 = .ok (.getfield 9, 3) := by decide +kernel
theorem dX8_houndsAt_24 : decode cX8_houndsAt 24 = .ok (.iload_n 3, 1) := by decide +kernel
theorem dX8_houndsAt_25 : decode cX8_houndsAt 25 = .ok (.iaload, 1) := by decide +kernel
theorem dX8_houndsAt_26 : decode cX8_houndsAt 26 = .ok (.iload_n 1, 1) := by decide +kernel
theorem dX8_houndsAt_27 : decode cX8_houndsAt 27 = .ok (.if_icmp .ne 6, 3) := by decide +kernel
theorem dX8_houndsAt_30 : decode cX8_houndsAt 30 = .ok (.iinc 2 1, 3) := by decide +kernel
theorem dX8_houndsAt_33 : decode cX8_houndsAt 33 = .ok (.iinc 3 1, 3) := by decide +kernel
theorem dX8_houndsAt_36 : decode cX8_houndsAt 36 = .ok (.goto (-32), 3) := by decide +kernel
theorem dX8_houndsAt_39 : decode cX8_houndsAt 39 = .ok (.iload_n 2, 1) := by decide +kernel
theorem dX8_houndsAt_40 : decode cX8_houndsAt 40 = .ok (.ireturn, 1) := by decide +kernel
theorem dX8_draw_0 : decode cX8_draw 0 = .ok (.aload_n 0, 1) := by decide +kernel
theorem dX8_draw_1 : decode cX8_draw 1 = .ok (.sipush 25173, 3) := by decide +kernel
theorem dX8_draw_4 : decode cX8_draw 4 = .ok (.aload_n 0, 1) := by decide +kernel
theorem dX8_draw_5 : decode cX8_draw 5 = .ok (.getfield 28, 3) := by decide +kernel
theorem dX8_draw_8 : decode cX8_draw 8 = .ok (.imul, 1) := by decide +kernel
theorem dX8_draw_9 : decode cX8_draw 9 = .ok (.sipush 13849, 3) := by decide +kernel
theorem dX8_draw_12 : decode cX8_draw 12 = .ok (.iadd, 1) := by decide +kernel
theorem dX8_draw_13 : decode cX8_draw 13 = .ok (.ldc 54, 2) := by decide +kernel
theorem dX8_draw_15 : decode cX8_draw 15 = .ok (.irem, 1) := by decide +kernel
theorem dX8_draw_16 : decode cX8_draw 16 = .ok (.putfield 28, 3) := by decide +kernel
theorem dX8_draw_19 : decode cX8_draw 19 = .ok (.aload_n 0, 1) := by decide +kernel
theorem dX8_draw_20 : decode cX8_draw 20 = .ok (.getfield 28, 3) := by decide +kernel
theorem dX8_draw_23 : decode cX8_draw 23 = .ok (.bipush 10, 2) := by decide +kernel
theorem dX8_draw_25 : decode cX8_draw 25 = .ok (.irem, 1) := by decide +kernel
theorem dX8_draw_26 : decode cX8_draw 26 = .ok (.ireturn, 1) := by decide +kernel
theorem dX9_init_0 : decode cX9_init 0 = .ok (.aload_n 0, 1) := by decide +kernel
theorem dX9_init_1 : decode cX9_init 1 = .ok (.invokespecial 3, 3) := by decide +kernel
theorem dX9_init_4 : decode cX9_init 4 = .ok (.aload_n 0, 1) := by decide +kernel
theorem dX9_init_5 : decode cX9_init 5 = .ok (.sipush 192, 3) := by decide +kernel
theorem dX9_init_8 : decode cX9_init 8 = .ok (.newarray .int, 2) := by decide +kernel
theorem dX9_init_10 : decode cX9_init 10 = .ok (.putfield 9, 3) := by decide +kernel
theorem dX9_init_13 : decode cX9_init 13 = .ok (.aload_n 0, 1) := by decide +kernel
theorem dX9_init_14 : decode cX9_init 14 = .ok (.sipush 192, 3) := by decide +kernel
theorem dX9_init_17 : decode cX9_init 17 = .ok (.newarray .int, 2) := by decide +kernel
theorem dX9_init_19 : decode cX9_init 19 = .ok (.putfield 15, 3) := by decide +kernel
theorem dX9_init_22 : decode cX9_init 22 = .ok (.aload_n 0, 1) := by decide +kernel
theorem dX9_init_23 : decode cX9_init 23 = .ok (.aload_n 1, 1) := by decide +kernel
theorem dX9_init_24 : decode cX9_init 24 = .ok (.putfield 18, 3) := by decide +kernel
theorem dX9_init_27 : decode cX9_init 27 = .ok (.return_, 1) := by decide +kernel
theorem dX9_crossings_0 : decode cX9_crossings 0 = .ok (.aload_n 0, 1) := by decide +kernel
theorem dX9_crossings_1 : decode cX9_crossings 1 = .ok (.getfield 9, 3) := by decide +kernel
theorem dX9_crossings_4 : decode cX9_crossings 4 = .ok (.iconst 0, 1) := by decide +kernel
theorem dX9_crossings_5 : decode cX9_crossings 5 = .ok (.invokestatic 22, 3) := by decide +kernel
theorem dX9_crossings_8 : decode cX9_crossings 8 = .ok (.aload_n 1, 1) := by decide +kernel
theorem dX9_crossings_9 : decode cX9_crossings 9 = .ok (.getfield 28, 3) := by decide +kernel
theorem dX9_crossings_12 : decode cX9_crossings 12 = .ok (.istore_n 3, 1) := by decide +kernel
theorem dX9_crossings_13 : decode cX9_crossings 13 = .ok (.iload_n 3, 1) := by decide +kernel
theorem dX9_crossings_14 : decode cX9_crossings 14 = .ok (.aload_n 1, 1) := by decide +kernel
theorem dX9_crossings_15 : decode cX9_crossings 15 = .ok (.invokevirtual 34, 3) := by decide +kernel
theorem dX9_crossings_18 : decode cX9_crossings 18 = .ok (.if_icmp .gt 19, 3) := by decide +kernel
theorem dX9_crossings_21 : decode cX9_crossings 21 = .ok (.aload_n 0, 1) := by decide +kernel
theorem dX9_crossings_22 : decode cX9_crossings 22 = .ok (.aload_n 1, 1) := by decide +kernel
theorem dX9_crossings_23 : decode cX9_crossings 23 = .ok (.iload_n 3, 1) := by decide +kernel
theorem dX9_crossings_24 : decode cX9_crossings 24 = .ok (.invokevirtual 38, 3) := by decide +kernel
theorem dX9_crossings_27 : decode cX9_crossings 27 = .ok (.iconst 1, 1) := by decide +kernel
theorem dX9_crossings_28 : decode cX9_crossings 28 = .ok (.invokevirtual 42, 3) := by decide +kernel
theorem dX9_crossings_31 : decode cX9_crossings 31 = .ok (.iinc 3 1, 3) := by decide +kernel
theorem dX9_crossings_34 : decode cX9_crossings 34 = .ok (.goto (-21), 3) := by decide +kernel
theorem dX9_crossings_37 : decode cX9_crossings 37 = .ok (.iconst 0, 1) := by decide +kernel
theorem dX9_crossings_38 : decode cX9_crossings 38 = .ok (.istore_n 3, 1) := by decide +kernel
theorem dX9_crossings_39 : decode cX9_crossings 39 = .ok (.aload_n 2, 1) := by decide +kernel
theorem dX9_crossings_40 : decode cX9_crossings 40 = .ok (.getfield 28, 3) := by decide +kernel
theorem dX9_crossings_43 : decode cX9_crossings 43 = .ok (.istore 4, 2) := by decide +kernel
theorem dX9_crossings_45 : decode cX9_crossings 45 = .ok (.iload 4, 2) := by decide +kernel
theorem dX9_crossings_47 : decode cX9_crossings 47 = .ok (.aload_n 2, 1) := by decide +kernel
theorem dX9_crossings_48 : decode cX9_crossings 48 = .ok (.invokevirtual 34, 3) := by decide +kernel
theorem dX9_crossings_51 : decode cX9_crossings 51 = .ok (.if_icmp .gt 37, 3) := by decide +kernel
theorem dX9_crossings_54 : decode cX9_crossings 54 = .ok (.aload_n 2, 1) := by decide +kernel
theorem dX9_crossings_55 : decode cX9_crossings 55 = .ok (.iload 4, 2) := by decide +kernel
theorem dX9_crossings_57 : decode cX9_crossings 57 = .ok (.invokevirtual 38, 3) := by decide +kernel
theorem dX9_crossings_60 : decode cX9_crossings 60 = .ok (.istore 5, 2) := by decide +kernel
theorem dX9_crossings_62 : decode cX9_crossings 62 = .ok (.aload_n 0, 1) := by decide +kernel
theorem dX9_crossings_63 : decode cX9_crossings 63 = .ok (.iload 5, 2) := by decide +kernel
theorem dX9_crossings_65 : decode cX9_crossings 65 = .ok (.invokevirtual 46, 3) := by decide +kernel
theorem dX9_crossings_68 : decode cX9_crossings 68 = .ok (.iconst 1, 1) := by decide +kernel
theorem dX9_crossings_69 : decode cX9_crossings 69 = .ok (.if_icmp .ne 13, 3) := by decide +kernel
theorem dX9_crossings_72 : decode cX9_crossings 72 = .ok (.iinc 3 1, 3) := by decide +kernel
theorem dX9_crossings_75 : decode cX9_crossings 75 = .ok (.aload_n 0, 1) := by decide +kernel
theorem dX9_crossings_76 : decode cX9_crossings 76 = .ok (.iload 5, 2) := by decide +kernel
theorem dX9_crossings_78 : decode cX9_crossings 78 = .ok (.iconst 2, 1) := by decide +kernel
theorem dX9_crossings_79 : decode cX9_crossings 79 = .ok (.invokevirtual 42, 3) := by decide +kernel
theorem dX9_crossings_82 : decode cX9_crossings 82 = .ok (.iinc 4 1, 3) := by decide +kernel
theorem dX9_crossings_85 : decode cX9_crossings 85 = .ok (.goto (-40), 3) := by decide +kernel
theorem dX9_crossings_88 : decode cX9_crossings 88 = .ok (.iload_n 3, 1) := by decide +kernel
theorem dX9_crossings_89 : decode cX9_crossings 89 = .ok (.ireturn, 1) := by decide +kernel
theorem dX9_nearest_0 : decode cX9_nearest 0 = .ok (.bipush (-2), 2) := by decide +kernel
theorem dX9_nearest_2 : decode cX9_nearest 2 = .ok (.istore_n 3, 1) := by decide +kernel
theorem dX9_nearest_3 : decode cX9_nearest 3 = .ok (.aload_n 1, 1) := by decide +kernel
theorem dX9_nearest_4 : decode cX9_nearest 4 = .ok (.invokevirtual 34, 3) := by decide +kernel
theorem dX9_nearest_7 : decode cX9_nearest 7 = .ok (.aload_n 2, 1) := by decide +kernel
theorem dX9_nearest_8 : decode cX9_nearest 8 = .ok (.invokevirtual 34, 3) := by decide +kernel
theorem dX9_nearest_11 : decode cX9_nearest 11 = .ok (.invokestatic 49, 3) := by decide +kernel
theorem dX9_nearest_14 : decode cX9_nearest 14 = .ok (.istore 4, 2) := by decide +kernel
theorem dX9_nearest_16 : decode cX9_nearest 16 = .ok (.aload_n 1, 1) := by decide +kernel
theorem dX9_nearest_17 : decode cX9_nearest 17 = .ok (.getfield 28, 3) := by decide +kernel
theorem dX9_nearest_20 : decode cX9_nearest 20 = .ok (.aload_n 2, 1) := by decide +kernel
theorem dX9_nearest_21 : decode cX9_nearest 21 = .ok (.getfield 28, 3) := by decide +kernel
theorem dX9_nearest_24 : decode cX9_nearest 24 = .ok (.invokestatic 55, 3) := by decide +kernel
theorem dX9_nearest_27 : decode cX9_nearest 27 = .ok (.istore 5, 2) := by decide +kernel
theorem dX9_nearest_29 : decode cX9_nearest 29 = .ok (.iload 5, 2) := by decide +kernel
theorem dX9_nearest_31 : decode cX9_nearest 31 = .ok (.iload 4, 2) := by decide +kernel
theorem dX9_nearest_33 : decode cX9_nearest 33 = .ok (.if_icmp .gt 33, 3) := by decide +kernel
theorem dX9_nearest_36 : decode cX9_nearest 36 = .ok (.aload_n 1, 1) := by decide +kernel
theorem dX9_nearest_37 : decode cX9_nearest 37 = .ok (.aload_n 2, 1) := by decide +kernel
theorem dX9_nearest_38 : decode cX9_nearest 38 = .ok (.iload 5, 2) := by decide +kernel
theorem dX9_nearest_40 : decode cX9_nearest 40 = .ok (.invokestatic 58, 3) := by decide +kernel
theorem dX9_nearest_43 : decode cX9_nearest 43 = .ok (.istore 6, 2) := by decide +kernel
theorem dX9_nearest_45 : decode cX9_nearest 45 = .ok (.iload_n 3, 1) := by decide +kernel
theorem dX9_nearest_46 : decode cX9_nearest 46 = .ok (.bipush (-2), 2) := by decide +kernel
theorem dX9_nearest_48 : decode cX9_nearest 48 = .ok (.if_icmp .eq 9, 3) := by decide +kernel
theorem dX9_nearest_51 : decode cX9_nearest 51 = .ok (.iload 6, 2) := by decide +kernel
theorem dX9_nearest_53 : decode cX9_nearest 53 = .ok (.iload_n 3, 1) := by decide +kernel
theorem dX9_nearest_54 : decode cX9_nearest 54 = .ok (.if_icmp .ge 6, 3) := by decide +kernel
theorem dX9_nearest_57 : decode cX9_nearest 57 = .ok (.iload 6, 2) := by decide +kernel
theorem dX9_nearest_59 : decode cX9_nearest 59 = .ok (.istore_n 3, 1) := by decide +kernel
theorem dX9_nearest_60 : decode cX9_nearest 60 = .ok (.iinc 5 1, 3) := by decide +kernel
theorem dX9_nearest_63 : decode cX9_nearest 63 = .ok (.goto (-34), 3) := by decide +kernel
theorem dX9_nearest_66 : decode cX9_nearest 66 = .ok (.iload_n 3, 1) := by decide +kernel
theorem dX9_nearest_67 : decode cX9_nearest 67 = .ok (.ireturn, 1) := by decide +kernel
theorem dX9_firstWithin_0 : decode cX9_firstWithin 0 = .ok (.aload_n 1, 1) := by decide +kernel
theorem dX9_firstWithin_1 : decode cX9_firstWithin 1 = .ok (.invokevirtual 34, 3) := by decide +kernel
theorem dX9_firstWithin_4 : decode cX9_firstWithin 4 = .ok (.aload_n 2, 1) := by decide +kernel
theorem dX9_firstWithin_5 : decode cX9_firstWithin 5 = .ok (.invokevirtual 34, 3) := by decide +kernel
theorem dX9_firstWithin_8 : decode cX9_firstWithin 8 = .ok (.invokestatic 49, 3) := by decide +kernel
theorem dX9_firstWithin_11 : decode cX9_firstWithin 11 = .ok (.istore 4, 2) := by decide +kernel
theorem dX9_firstWithin_13 : decode cX9_firstWithin 13 = .ok (.aload_n 1, 1) := by decide +kernel
theorem dX9_firstWithin_14 : decode cX9_firstWithin 14 = .ok (.getfield 28, 3) := by decide +kernel
theorem dX9_firstWithin_17 : decode cX9_firstWithin 17 = .ok (.aload_n 2, 1) := by decide +kernel
theorem dX9_firstWithin_18 : decode cX9_firstWithin 18 = .ok (.getfield 28, 3) := by decide +kernel
theorem dX9_firstWithin_21 : decode cX9_firstWithin 21 = .ok (.invokestatic 55, 3) := by decide +kernel
theorem dX9_firstWithin_24 : decode cX9_firstWithin 24 = .ok (.istore 5, 2) := by decide +kernel
theorem dX9_firstWithin_26 : decode cX9_firstWithin 26 = .ok (.iload 5, 2) := by decide +kernel
theorem dX9_firstWithin_28 : decode cX9_firstWithin 28 = .ok (.iload 4, 2) := by decide +kernel
theorem dX9_firstWithin_30 : decode cX9_firstWithin 30 = .ok (.if_icmp .gt 23, 3) := by decide +kernel
theorem dX9_firstWithin_33 : decode cX9_firstWithin 33 = .ok (.aload_n 1, 1) := by decide +kernel
theorem dX9_firstWithin_34 : decode cX9_firstWithin 34 = .ok (.aload_n 2, 1) := by decide +kernel
theorem dX9_firstWithin_35 : decode cX9_firstWithin 35 = .ok (.iload 5, 2) := by decide +kernel
theorem dX9_firstWithin_37 : decode cX9_firstWithin 37 = .ok (.invokestatic 58, 3) := by decide +kernel
theorem dX9_firstWithin_40 : decode cX9_firstWithin 40 = .ok (.iload_n 3, 1) := by decide +kernel
theorem dX9_firstWithin_41 : decode cX9_firstWithin 41 = .ok (.if_icmp .gt 6, 3) := by decide +kernel
theorem dX9_firstWithin_44 : decode cX9_firstWithin 44 = .ok (.iload 5, 2) := by decide +kernel
theorem dX9_firstWithin_46 : decode cX9_firstWithin 46 = .ok (.ireturn, 1) := by decide +kernel
theorem dX9_firstWithin_47 : decode cX9_firstWithin 47 = .ok (.iinc 5 1, 3) := by decide +kernel
theorem dX9_firstWithin_50 : decode cX9_firstWithin 50 = .ok (.goto (-24), 3) := by decide +kernel
theorem dX9_firstWithin_53 : decode cX9_firstWithin 53 = .ok (.bipush (-2), 2) := by decide +kernel
theorem dX9_firstWithin_55 : decode cX9_firstWithin 55 = .ok (.ireturn, 1) := by decide +kernel
theorem dX9_timesWithin_0 : decode cX9_timesWithin 0 = .ok (.iconst 0, 1) := by decide +kernel
theorem dX9_timesWithin_1 : decode cX9_timesWithin 1 = .ok (.istore 4, 2) := by decide +kernel
theorem dX9_timesWithin_3 : decode cX9_timesWithin 3 = .ok (.aload_n 1, 1) := by decide +kernel
theorem dX9_timesWithin_4 : decode cX9_timesWithin 4 = .ok (.invokevirtual 34, 3) := by decide +kernel
theorem dX9_timesWithin_7 : decode cX9_timesWithin 7 = .ok (.aload_n 2, 1) := by decide +kernel
theorem dX9_timesWithin_8 : decode cX9_timesWithin 8 = .ok (.invokevirtual 34, 3) := by decide +kernel
theorem dX9_timesWithin_11 : decode cX9_timesWithin 11 = .ok (.invokestatic 49, 3) := by decide +kernel
theorem dX9_timesWithin_14 : decode cX9_timesWithin 14 = .ok (.istore 5, 2) := by decide +kernel
theorem dX9_timesWithin_16 : decode cX9_timesWithin 16 = .ok (.aload_n 1, 1) := by decide +kernel
theorem dX9_timesWithin_17 : decode cX9_timesWithin 17 = .ok (.getfield 28, 3) := by decide +kernel
theorem dX9_timesWithin_20 : decode cX9_timesWithin 20 = .ok (.aload_n 2, 1) := by decide +kernel
theorem dX9_timesWithin_21 : decode cX9_timesWithin 21 = .ok (.getfield 28, 3) := by decide +kernel
theorem dX9_timesWithin_24 : decode cX9_timesWithin 24 = .ok (.invokestatic 55, 3) := by decide +kernel
theorem dX9_timesWithin_27 : decode cX9_timesWithin 27 = .ok (.istore 6, 2) := by decide +kernel
theorem dX9_timesWithin_29 : decode cX9_timesWithin 29 = .ok (.iload 6, 2) := by decide +kernel
theorem dX9_timesWithin_31 : decode cX9_timesWithin 31 = .ok (.iload 5, 2) := by decide +kernel
theorem dX9_timesWithin_33 : decode cX9_timesWithin 33 = .ok (.if_icmp .gt 23, 3) := by decide +kernel
theorem dX9_timesWithin_36 : decode cX9_timesWithin 36 = .ok (.aload_n 1, 1) := by decide +kernel
theorem dX9_timesWithin_37 : decode cX9_timesWithin 37 = .ok (.aload_n 2, 1) := by decide +kernel
theorem dX9_timesWithin_38 : decode cX9_timesWithin 38 = .ok (.iload 6, 2) := by decide +kernel
theorem dX9_timesWithin_40 : decode cX9_timesWithin 40 = .ok (.invokestatic 58, 3) := by decide +kernel
theorem dX9_timesWithin_43 : decode cX9_timesWithin 43 = .ok (.iload_n 3, 1) := by decide +kernel
theorem dX9_timesWithin_44 : decode cX9_timesWithin 44 = .ok (.if_icmp .gt 6, 3) := by decide +kernel
theorem dX9_timesWithin_47 : decode cX9_timesWithin 47 = .ok (.iinc 4 1, 3) := by decide +kernel
theorem dX9_timesWithin_50 : decode cX9_timesWithin 50 = .ok (.iinc 6 1, 3) := by decide +kernel
theorem dX9_timesWithin_53 : decode cX9_timesWithin 53 = .ok (.goto (-24), 3) := by decide +kernel
theorem dX9_timesWithin_56 : decode cX9_timesWithin 56 = .ok (.iload 4, 2) := by decide +kernel
theorem dX9_timesWithin_58 : decode cX9_timesWithin 58 = .ok (.ireturn, 1) := by decide +kernel
theorem dX9_fullestPlace_0 : decode cX9_fullestPlace 0 = .ok (.bipush (-2), 2) := by decide +kernel
theorem dX9_fullestPlace_2 : decode cX9_fullestPlace 2 = .ok (.istore_n 2, 1) := by decide +kernel
theorem dX9_fullestPlace_3 : decode cX9_fullestPlace 3 = .ok (.iconst 0, 1) := by decide +kernel
theorem dX9_fullestPlace_4 : decode cX9_fullestPlace 4 = .ok (.istore_n 3, 1) := by decide +kernel
theorem dX9_fullestPlace_5 : decode cX9_fullestPlace 5 = .ok (.iconst 0, 1) := by decide +kernel
theorem dX9_fullestPlace_6 : decode cX9_fullestPlace 6 = .ok (.istore 4, 2) := by decide +kernel
theorem dX9_fullestPlace_8 : decode cX9_fullestPlace 8 = .ok (.iload 4, 2) := by decide +kernel
theorem dX9_fullestPlace_10 : decode cX9_fullestPlace 10 = .ok (.bipush 8, 2) := by decide +kernel
theorem dX9_fullestPlace_12 : decode cX9_fullestPlace 12 = .ok (.if_icmp .ge 79, 3) := by decide +kernel
theorem dX9_fullestPlace_15 : decode cX9_fullestPlace 15 = .ok (.aload_n 0, 1) := by decide +kernel
theorem dX9_fullestPlace_16 : decode cX9_fullestPlace 16 = .ok (.getfield 18, 3) := by decide +kernel
theorem dX9_fullestPlace_19 : decode cX9_fullestPlace 19 = .ok (.iload 4, 2) := by decide +kernel
theorem dX9_fullestPlace_21 : decode cX9_fullestPlace 21 = .ok (.invokevirtual 62, 3) := by decide +kernel
theorem dX9_fullestPlace_24 : decode cX9_fullestPlace 24 = .ok (.astore 5, 2) := by decide +kernel
theorem dX9_fullestPlace_26 : decode cX9_fullestPlace 26 = .ok (.aload 5, 2) := by decide +kernel
theorem dX9_fullestPlace_28 : decode cX9_fullestPlace 28 = .ok (.ifnonnull 8, 3) := by decide +kernel
theorem dX9_fullestPlace_31 : decode cX9_fullestPlace 31 = .ok (.bipush (-2), 2) := by decide +kernel
theorem dX9_fullestPlace_33 : decode cX9_fullestPlace 33 = .ok (.goto 9, 3) := by decide +kernel
theorem dX9_fullestPlace_36 : decode cX9_fullestPlace 36 = .ok (.aload 5, 2) := by decide +kernel
theorem dX9_fullestPlace_38 : decode cX9_fullestPlace 38 = .ok (.iload_n 1, 1) := by decide +kernel
theorem dX9_fullestPlace_39 : decode cX9_fullestPlace 39 = .ok (.invokevirtual 38, 3) := by decide +kernel
theorem dX9_fullestPlace_42 : decode cX9_fullestPlace 42 = .ok (.istore 6, 2) := by decide +kernel
theorem dX9_fullestPlace_44 : decode cX9_fullestPlace 44 = .ok (.aload_n 0, 1) := by decide +kernel
theorem dX9_fullestPlace_45 : decode cX9_fullestPlace 45 = .ok (.getfield 18, 3) := by decide +kernel
theorem dX9_fullestPlace_48 : decode cX9_fullestPlace 48 = .ok (.iload 6, 2) := by decide +kernel
theorem dX9_fullestPlace_50 : decode cX9_fullestPlace 50 = .ok (.iload_n 1, 1) := by decide +kernel
theorem dX9_fullestPlace_51 : decode cX9_fullestPlace 51 = .ok (.invokevirtual 68, 3) := by decide +kernel
theorem dX9_fullestPlace_54 : decode cX9_fullestPlace 54 = .ok (.istore 7, 2) := by decide +kernel
theorem dX9_fullestPlace_56 : decode cX9_fullestPlace 56 = .ok (.iload 7, 2) := by decide +kernel
theorem dX9_fullestPlace_58 : decode cX9_fullestPlace 58 = .ok (.iload_n 3, 1) := by decide +kernel
theorem dX9_fullestPlace_59 : decode cX9_fullestPlace 59 = .ok (.if_icmp .gt 20, 3) := by decide +kernel
theorem dX9_fullestPlace_62 : decode cX9_fullestPlace 62 = .ok (.iload 7, 2) := by decide +kernel
theorem dX9_fullestPlace_64 : decode cX9_fullestPlace 64 = .ok (.iload_n 3, 1) := by decide +kernel
theorem dX9_fullestPlace_65 : decode cX9_fullestPlace 65 = .ok (.if_icmp .ne 20, 3) := by decide +kernel
theorem dX9_fullestPlace_68 : decode cX9_fullestPlace 68 = .ok (.iload 7, 2) := by decide +kernel
theorem dX9_fullestPlace_70 : decode cX9_fullestPlace 70 = .ok (.ifCond .le 15, 3) := by decide +kernel
theorem dX9_fullestPlace_73 : decode cX9_fullestPlace 73 = .ok (.iload 6, 2) := by decide +kernel
theorem dX9_fullestPlace_75 : decode cX9_fullestPlace 75 = .ok (.iload_n 2, 1) := by decide +kernel
theorem dX9_fullestPlace_76 : decode cX9_fullestPlace 76 = .ok (.if_icmp .ge 9, 3) := by decide +kernel
theorem dX9_fullestPlace_79 : decode cX9_fullestPlace 79 = .ok (.iload 6, 2) := by decide +kernel
theorem dX9_fullestPlace_81 : decode cX9_fullestPlace 81 = .ok (.istore_n 2, 1) := by decide +kernel
theorem dX9_fullestPlace_82 : decode cX9_fullestPlace 82 = .ok (.iload 7, 2) := by decide +kernel
theorem dX9_fullestPlace_84 : decode cX9_fullestPlace 84 = .ok (.istore_n 3, 1) := by decide +kernel
theorem dX9_fullestPlace_85 : decode cX9_fullestPlace 85 = .ok (.iinc 4 1, 3) := by decide +kernel
theorem dX9_fullestPlace_88 : decode cX9_fullestPlace 88 = .ok (.goto (-80), 3) := by decide +kernel
theorem dX9_fullestPlace_91 : decode cX9_fullestPlace 91 = .ok (.iload_n 2, 1) := by decide +kernel
theorem dX9_fullestPlace_92 : decode cX9_fullestPlace 92 = .ok (.ireturn, 1) := by decide +kernel
theorem dX9_placesOn_0 : decode cX9_placesOn 0 = .ok (.aload_n 0, 1) := by decide +kernel
theorem dX9_placesOn_1 : decode cX9_placesOn 1 = .ok (.getfield 9, 3) := by decide +kernel
theorem dX9_placesOn_4 : decode cX9_placesOn 4 = .ok (.iconst 0, 1) := by decide +kernel
theorem dX9_placesOn_5 : decode cX9_placesOn 5 = .ok (.invokestatic 22, 3) := by decide +kernel
theorem dX9_placesOn_8 : decode cX9_placesOn 8 = .ok (.iconst 0, 1) := by decide +kernel
theorem dX9_placesOn_9 : decode cX9_placesOn 9 = .ok (.istore_n 2, 1) := by decide +kernel
theorem dX9_placesOn_10 : decode cX9_placesOn 10 = .ok (.aload_n 1, 1) := by decide +kernel
theorem dX9_placesOn_11 : decode cX9_placesOn 11 = .ok (.getfield 28, 3) := by decide +kernel
theorem dX9_placesOn_14 : decode cX9_placesOn 14 = .ok (.istore_n 3, 1) := by decide +kernel
theorem dX9_placesOn_15 : decode cX9_placesOn 15 = .ok (.iload_n 3, 1) := by decide +kernel
theorem dX9_placesOn_16 : decode cX9_placesOn 16 = .ok (.aload_n 1, 1) := by decide +kernel
theorem dX9_placesOn_17 : decode cX9_placesOn 17 = .ok (.invokevirtual 34, 3) := by decide +kernel
theorem dX9_placesOn_20 : decode cX9_placesOn 20 = .ok (.if_icmp .gt 35, 3) := by decide +kernel
theorem dX9_placesOn_23 : decode cX9_placesOn 23 = .ok (.aload_n 1, 1) := by decide +kernel
theorem dX9_placesOn_24 : decode cX9_placesOn 24 = .ok (.iload_n 3, 1) := by decide +kernel
theorem dX9_placesOn_25 : decode cX9_placesOn 25 = .ok (.invokevirtual 38, 3) := by decide +kernel
theorem dX9_placesOn_28 : decode cX9_placesOn 28 = .ok (.istore 4, 2) := by decide +kernel
theorem dX9_placesOn_30 : decode cX9_placesOn 30 = .ok (.aload_n 0, 1) := by decide +kernel
theorem dX9_placesOn_31 : decode cX9_placesOn 31 = .ok (.iload 4, 2) := by decide +kernel
theorem dX9_placesOn_33 : decode cX9_placesOn 33 = .ok (.invokevirtual 46, 3) := by decide +kernel
theorem dX9_placesOn_36 : decode cX9_placesOn 36 = .ok (.ifCond .ne 13, 3) := by decide +kernel
theorem dX9_placesOn_39 : decode cX9_placesOn 39 = .ok (.iinc 2 1, 3) := by decide +kernel
theorem dX9_placesOn_42 : decode cX9_placesOn 42 = .ok (.aload_n 0, 1) := by decide +kernel
theorem dX9_placesOn_43 : decode cX9_placesOn 43 = .ok (.iload 4, 2) := by decide +kernel
theorem dX9_placesOn_45 : decode cX9_placesOn 45 = .ok (.iconst 1, 1) := by decide +kernel
theorem dX9_placesOn_46 : decode cX9_placesOn 46 = .ok (.invokevirtual 42, 3) := by decide +kernel
theorem dX9_placesOn_49 : decode cX9_placesOn 49 = .ok (.iinc 3 1, 3) := by decide +kernel
theorem dX9_placesOn_52 : decode cX9_placesOn 52 = .ok (.goto (-37), 3) := by decide +kernel
theorem dX9_placesOn_55 : decode cX9_placesOn 55 = .ok (.iload_n 2, 1) := by decide +kernel
theorem dX9_placesOn_56 : decode cX9_placesOn 56 = .ok (.ireturn, 1) := by decide +kernel
theorem dX9_longestStay_0 : decode cX9_longestStay 0 = .ok (.aload_n 0, 1) := by decide +kernel
theorem dX9_longestStay_1 : decode cX9_longestStay 1 = .ok (.getfield 9, 3) := by decide +kernel
theorem dX9_longestStay_4 : decode cX9_longestStay 4 = .ok (.iconst 0, 1) := by decide +kernel
theorem dX9_longestStay_5 : decode cX9_longestStay 5 = .ok (.invokestatic 22, 3) := by decide +kernel
theorem dX9_longestStay_8 : decode cX9_longestStay 8 = .ok (.aload_n 1, 1) := by decide +kernel
theorem dX9_longestStay_9 : decode cX9_longestStay 9 = .ok (.getfield 28, 3) := by decide +kernel
theorem dX9_longestStay_12 : decode cX9_longestStay 12 = .ok (.istore_n 2, 1) := by decide +kernel
theorem dX9_longestStay_13 : decode cX9_longestStay 13 = .ok (.iload_n 2, 1) := by decide +kernel
theorem dX9_longestStay_14 : decode cX9_longestStay 14 = .ok (.aload_n 1, 1) := by decide +kernel
theorem dX9_longestStay_15 : decode cX9_longestStay 15 = .ok (.invokevirtual 34, 3) := by decide +kernel
theorem dX9_longestStay_18 : decode cX9_longestStay 18 = .ok (.if_icmp .gt 27, 3) := by decide +kernel
theorem dX9_longestStay_21 : decode cX9_longestStay 21 = .ok (.aload_n 1, 1) := by decide +kernel
theorem dX9_longestStay_22 : decode cX9_longestStay 22 = .ok (.iload_n 2, 1) := by decide +kernel
theorem dX9_longestStay_23 : decode cX9_longestStay 23 = .ok (.invokevirtual 38, 3) := by decide +kernel
theorem dX9_longestStay_26 : decode cX9_longestStay 26 = .ok (.istore_n 3, 1) := by decide +kernel
theorem dX9_longestStay_27 : decode cX9_longestStay 27 = .ok (.aload_n 0, 1) := by decide +kernel
theorem dX9_longestStay_28 : decode cX9_longestStay 28 = .ok (.iload_n 3, 1) := by decide +kernel
theorem dX9_longestStay_29 : decode cX9_longestStay 29 = .ok (.aload_n 0, 1) := by decide +kernel
theorem dX9_longestStay_30 : decode cX9_longestStay 30 = .ok (.iload_n 3, 1) := by decide +kernel
theorem dX9_longestStay_31 : decode cX9_longestStay 31 = .ok (.invokevirtual 46, 3) := by decide +kernel
theorem dX9_longestStay_34 : decode cX9_longestStay 34 = .ok (.iconst 1, 1) := by decide +kernel
theorem dX9_longestStay_35 : decode cX9_longestStay 35 = .ok (.iadd, 1) := by decide +kernel
theorem dX9_longestStay_36 : decode cX9_longestStay 36 = .ok (.invokevirtual 42, 3) := by decide +kernel
theorem dX9_longestStay_39 : decode cX9_longestStay 39 = .ok (.iinc 2 1, 3) := by decide +kernel
theorem dX9_longestStay_42 : decode cX9_longestStay 42 = .ok (.goto (-29), 3) := by decide +kernel
theorem dX9_longestStay_45 : decode cX9_longestStay 45 = .ok (.aload_n 1, 1) := by decide +kernel
theorem dX9_longestStay_46 : decode cX9_longestStay 46 = .ok (.aload_n 1, 1) := by decide +kernel
theorem dX9_longestStay_47 : decode cX9_longestStay 47 = .ok (.getfield 28, 3) := by decide +kernel
theorem dX9_longestStay_50 : decode cX9_longestStay 50 = .ok (.invokevirtual 38, 3) := by decide +kernel
theorem dX9_longestStay_53 : decode cX9_longestStay 53 = .ok (.istore_n 2, 1) := by decide +kernel
theorem dX9_longestStay_54 : decode cX9_longestStay 54 = .ok (.aload_n 1, 1) := by decide +kernel
theorem dX9_longestStay_55 : decode cX9_longestStay 55 = .ok (.getfield 28, 3) := by decide +kernel
theorem dX9_longestStay_58 : decode cX9_longestStay 58 = .ok (.istore_n 3, 1) := by decide +kernel
theorem dX9_longestStay_59 : decode cX9_longestStay 59 = .ok (.iload_n 3, 1) := by decide +kernel
theorem dX9_longestStay_60 : decode cX9_longestStay 60 = .ok (.aload_n 1, 1) := by decide +kernel
theorem dX9_longestStay_61 : decode cX9_longestStay 61 = .ok (.invokevirtual 34, 3) := by decide +kernel
theorem dX9_longestStay_64 : decode cX9_longestStay 64 = .ok (.if_icmp .gt 33, 3) := by decide +kernel
theorem dX9_longestStay_67 : decode cX9_longestStay 67 = .ok (.aload_n 1, 1) := by decide +kernel
theorem dX9_longestStay_68 : decode cX9_longestStay 68 = .ok (.iload_n 3, 1) := by decide +kernel
theorem dX9_longestStay_69 : decode cX9_longestStay 69 = .ok (.invokevirtual 38, 3) := by decide +kernel
theorem dX9_longestStay_72 : decode cX9_longestStay 72 = .ok (.istore 4, 2) := by decide +kernel
theorem dX9_longestStay_74 : decode cX9_longestStay 74 = .ok (.aload_n 0, 1) := by decide +kernel
theorem dX9_longestStay_75 : decode cX9_longestStay 75 = .ok (.iload 4, 2) := by decide +kernel
theorem dX9_longestStay_77 : decode cX9_longestStay 77 = .ok (.invokevirtual 46, 3) := by decide +kernel
theorem dX9_longestStay_80 : decode cX9_longestStay 80 = .ok (.aload_n 0, 1) := by decide +kernel
theorem dX9_longestStay_81 : decode cX9_longestStay 81 = .ok (.iload_n 2, 1) := by decide +kernel
theorem dX9_longestStay_82 : decode cX9_longestStay 82 = .ok (.invokevirtual 46, 3) := by decide +kernel
theorem dX9_longestStay_85 : decode cX9_longestStay 85 = .ok (.if_icmp .le 6, 3) := by decide +kernel
theorem dX9_longestStay_88 : decode cX9_longestStay 88 = .ok (.iload 4, 2) := by decide +kernel
theorem dX9_longestStay_90 : decode cX9_longestStay 90 = .ok (.istore_n 2, 1) := by decide +kernel
theorem dX9_longestStay_91 : decode cX9_longestStay 91 = .ok (.iinc 3 1, 3) := by decide +kernel
theorem dX9_longestStay_94 : decode cX9_longestStay 94 = .ok (.goto (-35), 3) := by decide +kernel
theorem dX9_longestStay_97 : decode cX9_longestStay 97 = .ok (.iload_n 2, 1) := by decide +kernel
theorem dX9_longestStay_98 : decode cX9_longestStay 98 = .ok (.ireturn, 1) := by decide +kernel
theorem dX9_placesComeBackTo_0 : decode cX9_placesComeBackTo 0 = .ok (.aload_n 0, 1) := by decide +kernel
theorem dX9_placesComeBackTo_1 : decode cX9_placesComeBackTo 1 = .ok (.getfield 9, 3) := by decide +kernel
theorem dX9_placesComeBackTo_4 : decode cX9_placesComeBackTo 4 = .ok (.iconst 0, 1) := by decide +kernel
theorem dX9_placesComeBackTo_5 : decode cX9_placesComeBackTo 5 = .ok (.invokestatic 22, 3) := by decide +kernel
theorem dX9_placesComeBackTo_8 : decode cX9_placesComeBackTo 8 = .ok (.iconst 0, 1) := by decide +kernel
theorem dX9_placesComeBackTo_9 : decode cX9_placesComeBackTo 9 = .ok (.istore_n 2, 1) := by decide +kernel
theorem dX9_placesComeBackTo_10 : decode cX9_placesComeBackTo 10 = .ok (.iconst (-1), 1) := by decide +kernel
theorem dX9_placesComeBackTo_11 : decode cX9_placesComeBackTo 11 = .ok (.istore_n 3, 1) := by decide +kernel
theorem dX9_placesComeBackTo_12 : decode cX9_placesComeBackTo 12 = .ok (.aload_n 1, 1) := by decide +kernel
theorem dX9_placesComeBackTo_13 : decode cX9_placesComeBackTo 13 = .ok (.getfield 28, 3) := by decide +kernel
theorem dX9_placesComeBackTo_16 : decode cX9_placesComeBackTo 16 = .ok (.istore 4, 2) := by decide +kernel
theorem dX9_placesComeBackTo_18 : decode cX9_placesComeBackTo 18 = .ok (.iload 4, 2) := by decide +kernel
theorem dX9_placesComeBackTo_20 : decode cX9_placesComeBackTo 20 = .ok (.aload_n 1, 1) := by decide +kernel
theorem dX9_placesComeBackTo_21 : decode cX9_placesComeBackTo 21 = .ok (.invokevirtual 34, 3) := by decide +kernel
theorem dX9_placesComeBackTo_24 : decode cX9_placesComeBackTo 24 = .ok (.if_icmp .gt 53, 3) := by decide +kernel
theorem dX9_placesComeBackTo_27 : decode cX9_placesComeBackTo 27 = .ok (.aload_n 1, 1) := by decide +kernel
theorem dX9_placesComeBackTo_28 : decode cX9_placesComeBackTo 28 = .ok (.iload 4, 2) := by decide +kernel
theorem dX9_placesComeBackTo_30 : decode cX9_placesComeBackTo 30 = .ok (.invokevirtual 38, 3) := by decide +kernel
theorem dX9_placesComeBackTo_33 : decode cX9_placesComeBackTo 33 = .ok (.istore 5, 2) := by decide +kernel
theorem dX9_placesComeBackTo_35 : decode cX9_placesComeBackTo 35 = .ok (.iload 5, 2) := by decide +kernel
theorem dX9_placesComeBackTo_37 : decode cX9_placesComeBackTo 37 = .ok (.iload_n 3, 1) := by decide +kernel
theorem dX9_placesComeBackTo_38 : decode cX9_placesComeBackTo 38 = .ok (.if_icmp .eq 30, 3) := by decide +kernel
theorem dX9_placesComeBackTo_41 : decode cX9_placesComeBackTo 41 = .ok (.aload_n 0, 1) := by decide +kernel
theorem dX9_placesComeBackTo_42 : decode cX9_placesComeBackTo 42 = .ok (.iload 5, 2) := by decide +kernel
theorem dX9_placesComeBackTo_44 : decode cX9_placesComeBackTo 44 = .ok (.aload_n 0, 1) := by decide +kernel
theorem dX9_placesComeBackTo_45 : decode cX9_placesComeBackTo 45 = .ok (.iload 5, 2) := by decide +kernel
theorem dX9_placesComeBackTo_47 : decode cX9_placesComeBackTo 47 = .ok (.invokevirtual 46, 3) := by decide +kernel
theorem dX9_placesComeBackTo_50 : decode cX9_placesComeBackTo 50 = .ok (.iconst 1, 1) := by decide +kernel
theorem dX9_placesComeBackTo_51 : decode cX9_placesComeBackTo 51 = .ok (.iadd, 1) := by decide +kernel
theorem dX9_placesComeBackTo_52 : decode cX9_placesComeBackTo 52 = .ok (.invokevirtual 42, 3) := by decide +kernel
theorem dX9_placesComeBackTo_55 : decode cX9_placesComeBackTo 55 = .ok (.aload_n 0, 1) := by decide +kernel
theorem dX9_placesComeBackTo_56 : decode cX9_placesComeBackTo 56 = .ok (.iload 5, 2) := by decide +kernel
theorem dX9_placesComeBackTo_58 : decode cX9_placesComeBackTo 58 = .ok (.invokevirtual 46, 3) := by decide +kernel
theorem dX9_placesComeBackTo_61 : decode cX9_placesComeBackTo 61 = .ok (.iconst 2, 1) := by decide +kernel
theorem dX9_placesComeBackTo_62 : decode cX9_placesComeBackTo 62 = .ok (.if_icmp .ne 6, 3) := by decide +kernel
theorem dX9_placesComeBackTo_65 : decode cX9_placesComeBackTo 65 = .ok (.iinc 2 1, 3) := by decide +kernel
theorem dX9_placesComeBackTo_68 : decode cX9_placesComeBackTo 68 = .ok (.iload 5, 2) := by decide +kernel
theorem dX9_placesComeBackTo_70 : decode cX9_placesComeBackTo 70 = .ok (.istore_n 3, 1) := by decide +kernel
theorem dX9_placesComeBackTo_71 : decode cX9_placesComeBackTo 71 = .ok (.iinc 4 1, 3) := by decide +kernel
theorem dX9_placesComeBackTo_74 : decode cX9_placesComeBackTo 74 = .ok (.goto (-56), 3) := by decide +kernel
theorem dX9_placesComeBackTo_77 : decode cX9_placesComeBackTo 77 = .ok (.iload_n 2, 1) := by decide +kernel
theorem dX9_placesComeBackTo_78 : decode cX9_placesComeBackTo 78 = .ok (.ireturn, 1) := by decide +kernel
theorem dX9_unloop_0 : decode cX9_unloop 0 = .ok (.aload_n 0, 1) := by decide +kernel
theorem dX9_unloop_1 : decode cX9_unloop 1 = .ok (.getfield 9, 3) := by decide +kernel
theorem dX9_unloop_4 : decode cX9_unloop 4 = .ok (.iconst 0, 1) := by decide +kernel
theorem dX9_unloop_5 : decode cX9_unloop 5 = .ok (.invokestatic 22, 3) := by decide +kernel
theorem dX9_unloop_8 : decode cX9_unloop 8 = .ok (.iconst 0, 1) := by decide +kernel
theorem dX9_unloop_9 : decode cX9_unloop 9 = .ok (.istore_n 2, 1) := by decide +kernel
theorem dX9_unloop_10 : decode cX9_unloop 10 = .ok (.aload_n 1, 1) := by decide +kernel
theorem dX9_unloop_11 : decode cX9_unloop 11 = .ok (.getfield 28, 3) := by decide +kernel
theorem dX9_unloop_14 : decode cX9_unloop 14 = .ok (.istore_n 3, 1) := by decide +kernel
theorem dX9_unloop_15 : decode cX9_unloop 15 = .ok (.iload_n 3, 1) := by decide +kernel
theorem dX9_unloop_16 : decode cX9_unloop 16 = .ok (.aload_n 1, 1) := by decide +kernel
theorem dX9_unloop_17 : decode cX9_unloop 17 = .ok (.invokevirtual 34, 3) := by decide +kernel
theorem dX9_unloop_20 : decode cX9_unloop 20 = .ok (.if_icmp .gt 94, 3) := by decide +kernel
theorem dX9_unloop_23 : decode cX9_unloop 23 = .ok (.aload_n 1, 1) := by decide +kernel
theorem dX9_unloop_24 : decode cX9_unloop 24 = .ok (.iload_n 3, 1) := by decide +kernel
theorem dX9_unloop_25 : decode cX9_unloop 25 = .ok (.invokevirtual 38, 3) := by decide +kernel
theorem dX9_unloop_28 : decode cX9_unloop 28 = .ok (.istore 4, 2) := by decide +kernel
theorem dX9_unloop_30 : decode cX9_unloop 30 = .ok (.aload_n 0, 1) := by decide +kernel
theorem dX9_unloop_31 : decode cX9_unloop 31 = .ok (.iload 4, 2) := by decide +kernel
theorem dX9_unloop_33 : decode cX9_unloop 33 = .ok (.invokevirtual 46, 3) := by decide +kernel
theorem dX9_unloop_36 : decode cX9_unloop 36 = .ok (.istore 5, 2) := by decide +kernel
theorem dX9_unloop_38 : decode cX9_unloop 38 = .ok (.iload_n 2, 1) := by decide +kernel
theorem dX9_unloop_39 : decode cX9_unloop 39 = .ok (.iconst 1, 1) := by decide +kernel
theorem dX9_unloop_40 : decode cX9_unloop 40 = .ok (.isub, 1) := by decide +kernel
theorem dX9_unloop_41 : decode cX9_unloop 41 = .ok (.istore 6, 2) := by decide +kernel
theorem dX9_unloop_43 : decode cX9_unloop 43 = .ok (.iload 6, 2) := by decide +kernel
theorem dX9_unloop_45 : decode cX9_unloop 45 = .ok (.iload 5, 2) := by decide +kernel
theorem dX9_unloop_47 : decode cX9_unloop 47 = .ok (.if_icmp .lt 25, 3) := by decide +kernel
theorem dX9_unloop_50 : decode cX9_unloop 50 = .ok (.iload 5, 2) := by decide +kernel
theorem dX9_unloop_52 : decode cX9_unloop 52 = .ok (.ifCond .le 20, 3) := by decide +kernel
theorem dX9_unloop_55 : decode cX9_unloop 55 = .ok (.aload_n 0, 1) := by decide +kernel
theorem dX9_unloop_56 : decode cX9_unloop 56 = .ok (.aload_n 0, 1) := by decide +kernel
theorem dX9_unloop_57 : decode cX9_unloop 57 = .ok (.iload 6, 2) := by decide +kernel
theorem dX9_unloop_59 : decode cX9_unloop 59 = .ok (.invokevirtual 71, 3) := by decide +kernel
theorem dX9_unloop_62 : decode cX9_unloop 62 = .ok (.iconst 0, 1) := by decide +kernel
theorem dX9_unloop_63 : decode cX9_unloop 63 = .ok (.invokevirtual 42, 3) := by decide +kernel
theorem dX9_unloop_66 : decode cX9_unloop 66 = .ok (.iinc 6 (-1), 3) := by decide +kernel
theorem dX9_unloop_69 : decode cX9_unloop 69 = .ok (.goto (-26), 3) := by decide +kernel
theorem dX9_unloop_72 : decode cX9_unloop 72 = .ok (.iload 5, 2) := by decide +kernel
theorem dX9_unloop_74 : decode cX9_unloop 74 = .ok (.ifCond .le 9, 3) := by decide +kernel
theorem dX9_unloop_77 : decode cX9_unloop 77 = .ok (.iload 5, 2) := by decide +kernel
theorem dX9_unloop_79 : decode cX9_unloop 79 = .ok (.istore_n 2, 1) := by decide +kernel
theorem dX9_unloop_80 : decode cX9_unloop 80 = .ok (.goto 28, 3) := by decide +kernel
theorem dX9_unloop_83 : decode cX9_unloop 83 = .ok (.iload_n 2, 1) := by decide +kernel
theorem dX9_unloop_84 : decode cX9_unloop 84 = .ok (.sipush 192, 3) := by decide +kernel
theorem dX9_unloop_87 : decode cX9_unloop 87 = .ok (.if_icmp .ge 21, 3) := by decide +kernel
theorem dX9_unloop_90 : decode cX9_unloop 90 = .ok (.aload_n 0, 1) := by decide +kernel
theorem dX9_unloop_91 : decode cX9_unloop 91 = .ok (.getfield 15, 3) := by decide +kernel
theorem dX9_unloop_94 : decode cX9_unloop 94 = .ok (.iload_n 2, 1) := by decide +kernel
theorem dX9_unloop_95 : decode cX9_unloop 95 = .ok (.iload 4, 2) := by decide +kernel
theorem dX9_unloop_97 : decode cX9_unloop 97 = .ok (.iastore, 1) := by decide +kernel
theorem dX9_unloop_98 : decode cX9_unloop 98 = .ok (.iinc 2 1, 3) := by decide +kernel
theorem dX9_unloop_101 : decode cX9_unloop 101 = .ok (.aload_n 0, 1) := by decide +kernel
theorem dX9_unloop_102 : decode cX9_unloop 102 = .ok (.iload 4, 2) := by decide +kernel
theorem dX9_unloop_104 : decode cX9_unloop 104 = .ok (.iload_n 2, 1) := by decide +kernel
theorem dX9_unloop_105 : decode cX9_unloop 105 = .ok (.invokevirtual 42, 3) := by decide +kernel
theorem dX9_unloop_108 : decode cX9_unloop 108 = .ok (.iinc 3 1, 3) := by decide +kernel
theorem dX9_unloop_111 : decode cX9_unloop 111 = .ok (.goto (-96), 3) := by decide +kernel
theorem dX9_unloop_114 : decode cX9_unloop 114 = .ok (.iload_n 2, 1) := by decide +kernel
theorem dX9_unloop_115 : decode cX9_unloop 115 = .ok (.ireturn, 1) := by decide +kernel
theorem dX9_paidInAll_0 : decode cX9_paidInAll 0 = .ok (.iconst 0, 1) := by decide +kernel
theorem dX9_paidInAll_1 : decode cX9_paidInAll 1 = .ok (.istore_n 2, 1) := by decide +kernel
theorem dX9_paidInAll_2 : decode cX9_paidInAll 2 = .ok (.aload_n 1, 1) := by decide +kernel
theorem dX9_paidInAll_3 : decode cX9_paidInAll 3 = .ok (.getfield 28, 3) := by decide +kernel
theorem dX9_paidInAll_6 : decode cX9_paidInAll 6 = .ok (.istore_n 3, 1) := by decide +kernel
theorem dX9_paidInAll_7 : decode cX9_paidInAll 7 = .ok (.iload_n 3, 1) := by decide +kernel
theorem dX9_paidInAll_8 : decode cX9_paidInAll 8 = .ok (.aload_n 1, 1) := by decide +kernel
theorem dX9_paidInAll_9 : decode cX9_paidInAll 9 = .ok (.invokevirtual 34, 3) := by decide +kernel
theorem dX9_paidInAll_12 : decode cX9_paidInAll 12 = .ok (.if_icmp .gt 27, 3) := by decide +kernel
theorem dX9_paidInAll_15 : decode cX9_paidInAll 15 = .ok (.iload_n 2, 1) := by decide +kernel
theorem dX9_paidInAll_16 : decode cX9_paidInAll 16 = .ok (.aload_n 0, 1) := by decide +kernel
theorem dX9_paidInAll_17 : decode cX9_paidInAll 17 = .ok (.getfield 18, 3) := by decide +kernel
theorem dX9_paidInAll_20 : decode cX9_paidInAll 20 = .ok (.getfield 74, 3) := by decide +kernel
theorem dX9_paidInAll_23 : decode cX9_paidInAll 23 = .ok (.aload_n 1, 1) := by decide +kernel
theorem dX9_paidInAll_24 : decode cX9_paidInAll 24 = .ok (.iload_n 3, 1) := by decide +kernel
theorem dX9_paidInAll_25 : decode cX9_paidInAll 25 = .ok (.invokevirtual 38, 3) := by decide +kernel
theorem dX9_paidInAll_28 : decode cX9_paidInAll 28 = .ok (.invokevirtual 78, 3) := by decide +kernel
theorem dX9_paidInAll_31 : decode cX9_paidInAll 31 = .ok (.iadd, 1) := by decide +kernel
theorem dX9_paidInAll_32 : decode cX9_paidInAll 32 = .ok (.istore_n 2, 1) := by decide +kernel
theorem dX9_paidInAll_33 : decode cX9_paidInAll 33 = .ok (.iinc 3 1, 3) := by decide +kernel
theorem dX9_paidInAll_36 : decode cX9_paidInAll 36 = .ok (.goto (-29), 3) := by decide +kernel
theorem dX9_paidInAll_39 : decode cX9_paidInAll 39 = .ok (.iload_n 2, 1) := by decide +kernel
theorem dX9_paidInAll_40 : decode cX9_paidInAll 40 = .ok (.ireturn, 1) := by decide +kernel
theorem dX9_paidFor_0 : decode cX9_paidFor 0 = .ok (.iconst 0, 1) := by decide +kernel
theorem dX9_paidFor_1 : decode cX9_paidFor 1 = .ok (.istore_n 3, 1) := by decide +kernel
theorem dX9_paidFor_2 : decode cX9_paidFor 2 = .ok (.aload_n 1, 1) := by decide +kernel
theorem dX9_paidFor_3 : decode cX9_paidFor 3 = .ok (.getfield 28, 3) := by decide +kernel
theorem dX9_paidFor_6 : decode cX9_paidFor 6 = .ok (.istore 4, 2) := by decide +kernel
theorem dX9_paidFor_8 : decode cX9_paidFor 8 = .ok (.iload 4, 2) := by decide +kernel
theorem dX9_paidFor_10 : decode cX9_paidFor 10 = .ok (.aload_n 1, 1) := by decide +kernel
theorem dX9_paidFor_11 : decode cX9_paidFor 11 = .ok (.invokevirtual 34, 3) := by decide +kernel
theorem dX9_paidFor_14 : decode cX9_paidFor 14 = .ok (.if_icmp .gt 54, 3) := by decide +kernel
theorem dX9_paidFor_17 : decode cX9_paidFor 17 = .ok (.iload_n 2, 1) := by decide +kernel
theorem dX9_paidFor_18 : decode cX9_paidFor 18 = .ok (.ifCond .lt 50, 3) := by decide +kernel
theorem dX9_paidFor_21 : decode cX9_paidFor 21 = .ok (.aload_n 1, 1) := by decide +kernel
theorem dX9_paidFor_22 : decode cX9_paidFor 22 = .ok (.iload 4, 2) := by decide +kernel
theorem dX9_paidFor_24 : decode cX9_paidFor 24 = .ok (.invokevirtual 38, 3) := by decide +kernel
theorem dX9_paidFor_27 : decode cX9_paidFor 27 = .ok (.istore 5, 2) := by decide +kernel
theorem dX9_paidFor_29 : decode cX9_paidFor 29 = .ok (.aload_n 0, 1) := by decide +kernel
theorem dX9_paidFor_30 : decode cX9_paidFor 30 = .ok (.getfield 18, 3) := by decide +kernel
theorem dX9_paidFor_33 : decode cX9_paidFor 33 = .ok (.getfield 74, 3) := by decide +kernel
theorem dX9_paidFor_36 : decode cX9_paidFor 36 = .ok (.iload 5, 2) := by decide +kernel
theorem dX9_paidFor_38 : decode cX9_paidFor 38 = .ok (.invokevirtual 83, 3) := by decide +kernel
theorem dX9_paidFor_41 : decode cX9_paidFor 41 = .ok (.iconst 2, 1) := by decide +kernel
theorem dX9_paidFor_42 : decode cX9_paidFor 42 = .ok (.iload_n 2, 1) := by decide +kernel
theorem dX9_paidFor_43 : decode cX9_paidFor 43 = .ok (.iadd, 1) := by decide +kernel
theorem dX9_paidFor_44 : decode cX9_paidFor 44 = .ok (.if_icmp .ne 18, 3) := by decide +kernel
theorem dX9_paidFor_47 : decode cX9_paidFor 47 = .ok (.iload_n 3, 1) := by decide +kernel
theorem dX9_paidFor_48 : decode cX9_paidFor 48 = .ok (.aload_n 0, 1) := by decide +kernel
theorem dX9_paidFor_49 : decode cX9_paidFor 49 = .ok (.getfield 18, 3) := by decide +kernel
theorem dX9_paidFor_52 : decode cX9_paidFor 52 = .ok (.getfield 74, 3) := by decide +kernel
theorem dX9_paidFor_55 : decode cX9_paidFor 55 = .ok (.iload 5, 2) := by decide +kernel
theorem dX9_paidFor_57 : decode cX9_paidFor 57 = .ok (.invokevirtual 78, 3) := by decide +kernel
theorem dX9_paidFor_60 : decode cX9_paidFor 60 = .ok (.iadd, 1) := by decide +kernel
theorem dX9_paidFor_61 : decode cX9_paidFor 61 = .ok (.istore_n 3, 1) := by decide +kernel
theorem dX9_paidFor_62 : decode cX9_paidFor 62 = .ok (.iinc 4 1, 3) := by decide +kernel
theorem dX9_paidFor_65 : decode cX9_paidFor 65 = .ok (.goto (-57), 3) := by decide +kernel
theorem dX9_paidFor_68 : decode cX9_paidFor 68 = .ok (.iload_n 3, 1) := by decide +kernel
theorem dX9_paidFor_69 : decode cX9_paidFor 69 = .ok (.ireturn, 1) := by decide +kernel
theorem dX9_dearestField_0 : decode cX9_dearestField 0 = .ok (.bipush (-2), 2) := by decide +kernel
theorem dX9_dearestField_2 : decode cX9_dearestField 2 = .ok (.istore_n 2, 1) := by decide +kernel
theorem dX9_dearestField_3 : decode cX9_dearestField 3 = .ok (.iconst 0, 1) := by decide +kernel
theorem dX9_dearestField_4 : decode cX9_dearestField 4 = .ok (.istore_n 3, 1) := by decide +kernel
theorem dX9_dearestField_5 : decode cX9_dearestField 5 = .ok (.iconst 0, 1) := by decide +kernel
theorem dX9_dearestField_6 : decode cX9_dearestField 6 = .ok (.istore 4, 2) := by decide +kernel
theorem dX9_dearestField_8 : decode cX9_dearestField 8 = .ok (.iload 4, 2) := by decide +kernel
theorem dX9_dearestField_10 : decode cX9_dearestField 10 = .ok (.bipush 8, 2) := by decide +kernel
theorem dX9_dearestField_12 : decode cX9_dearestField 12 = .ok (.if_icmp .ge 30, 3) := by decide +kernel
theorem dX9_dearestField_15 : decode cX9_dearestField 15 = .ok (.aload_n 0, 1) := by decide +kernel
theorem dX9_dearestField_16 : decode cX9_dearestField 16 = .ok (.aload_n 1, 1) := by decide +kernel
theorem dX9_dearestField_17 : decode cX9_dearestField 17 = .ok (.iload 4, 2) := by decide +kernel
theorem dX9_dearestField_19 : decode cX9_dearestField 19 = .ok (.invokevirtual 86, 3) := by decide +kernel
theorem dX9_dearestField_22 : decode cX9_dearestField 22 = .ok (.istore 5, 2) := by decide +kernel
theorem dX9_dearestField_24 : decode cX9_dearestField 24 = .ok (.iload 5, 2) := by decide +kernel
theorem dX9_dearestField_26 : decode cX9_dearestField 26 = .ok (.iload_n 3, 1) := by decide +kernel
theorem dX9_dearestField_27 : decode cX9_dearestField 27 = .ok (.if_icmp .le 9, 3) := by decide +kernel
theorem dX9_dearestField_30 : decode cX9_dearestField 30 = .ok (.iload 4, 2) := by decide +kernel
theorem dX9_dearestField_32 : decode cX9_dearestField 32 = .ok (.istore_n 2, 1) := by decide +kernel
theorem dX9_dearestField_33 : decode cX9_dearestField 33 = .ok (.iload 5, 2) := by decide +kernel
theorem dX9_dearestField_35 : decode cX9_dearestField 35 = .ok (.istore_n 3, 1) := by decide +kernel
theorem dX9_dearestField_36 : decode cX9_dearestField 36 = .ok (.iinc 4 1, 3) := by decide +kernel
theorem dX9_dearestField_39 : decode cX9_dearestField 39 = .ok (.goto (-31), 3) := by decide +kernel
theorem dX9_dearestField_42 : decode cX9_dearestField 42 = .ok (.iload_n 2, 1) := by decide +kernel
theorem dX9_dearestField_43 : decode cX9_dearestField 43 = .ok (.ireturn, 1) := by decide +kernel
theorem dX9_stepsByLand_0 : decode cX9_stepsByLand 0 = .ok (.iconst 0, 1) := by decide +kernel
theorem dX9_stepsByLand_1 : decode cX9_stepsByLand 1 = .ok (.istore_n 3, 1) := by decide +kernel
theorem dX9_stepsByLand_2 : decode cX9_stepsByLand 2 = .ok (.iload_n 3, 1) := by decide +kernel
theorem dX9_stepsByLand_3 : decode cX9_stepsByLand 3 = .ok (.sipush 192, 3) := by decide +kernel
theorem dX9_stepsByLand_6 : decode cX9_stepsByLand 6 = .ok (.if_icmp .ge 34, 3) := by decide +kernel
theorem dX9_stepsByLand_9 : decode cX9_stepsByLand 9 = .ok (.aload_n 0, 1) := by decide +kernel
theorem dX9_stepsByLand_10 : decode cX9_stepsByLand 10 = .ok (.getfield 9, 3) := by decide +kernel
theorem dX9_stepsByLand_13 : decode cX9_stepsByLand 13 = .ok (.iload_n 3, 1) := by decide +kernel
theorem dX9_stepsByLand_14 : decode cX9_stepsByLand 14 = .ok (.aload_n 0, 1) := by decide +kernel
theorem dX9_stepsByLand_15 : decode cX9_stepsByLand 15 = .ok (.getfield 18, 3) := by decide +kernel
theorem dX9_stepsByLand_18 : decode cX9_stepsByLand 18 = .ok (.getfield 74, 3) := by decide +kernel
theorem dX9_stepsByLand_21 : decode cX9_stepsByLand 21 = .ok (.iload_n 3, 1) := by decide +kernel
theorem dX9_stepsByLand_22 : decode cX9_stepsByLand 22 = .ok (.invokevirtual 90, 3) := by decide +kernel
theorem dX9_stepsByLand_25 : decode cX9_stepsByLand 25 = .ok (.ifCond .eq 7, 3) := by decide +kernel
theorem dX9_stepsByLand_28 : decode cX9_stepsByLand 28 = .ok (.iconst (-1), 1) := by decide +kernel
theorem dX9_stepsByLand_29 : decode cX9_stepsByLand 29 = .ok (.goto 4, 3) := by decide +kernel
theorem dX9_stepsByLand_32 : decode cX9_stepsByLand 32 = .ok (.iconst 0, 1) := by decide +kernel
theorem dX9_stepsByLand_33 : decode cX9_stepsByLand 33 = .ok (.iastore, 1) := by decide +kernel
theorem dX9_stepsByLand_34 : decode cX9_stepsByLand 34 = .ok (.iinc 3 1, 3) := by decide +kernel
theorem dX9_stepsByLand_37 : decode cX9_stepsByLand 37 = .ok (.goto (-35), 3) := by decide +kernel
theorem dX9_stepsByLand_40 : decode cX9_stepsByLand 40 = .ok (.aload_n 0, 1) := by decide +kernel
theorem dX9_stepsByLand_41 : decode cX9_stepsByLand 41 = .ok (.aload_n 0, 1) := by decide +kernel
theorem dX9_stepsByLand_42 : decode cX9_stepsByLand 42 = .ok (.iload_n 1, 1) := by decide +kernel
theorem dX9_stepsByLand_43 : decode cX9_stepsByLand 43 = .ok (.iconst 0, 1) := by decide +kernel
theorem dX9_stepsByLand_44 : decode cX9_stepsByLand 44 = .ok (.invokevirtual 94, 3) := by decide +kernel
theorem dX9_stepsByLand_47 : decode cX9_stepsByLand 47 = .ok (.invokevirtual 97, 3) := by decide +kernel
theorem dX9_stepsByLand_50 : decode cX9_stepsByLand 50 = .ok (.aload_n 0, 1) := by decide +kernel
theorem dX9_stepsByLand_51 : decode cX9_stepsByLand 51 = .ok (.iload_n 2, 1) := by decide +kernel
theorem dX9_stepsByLand_52 : decode cX9_stepsByLand 52 = .ok (.invokevirtual 46, 3) := by decide +kernel
theorem dX9_stepsByLand_55 : decode cX9_stepsByLand 55 = .ok (.istore_n 3, 1) := by decide +kernel
theorem dX9_stepsByLand_56 : decode cX9_stepsByLand 56 = .ok (.iload_n 3, 1) := by decide +kernel
theorem dX9_stepsByLand_57 : decode cX9_stepsByLand 57 = .ok (.ifCond .le 9, 3) := by decide +kernel
theorem dX9_stepsByLand_60 : decode cX9_stepsByLand 60 = .ok (.iload_n 3, 1) := by decide +kernel
theorem dX9_stepsByLand_61 : decode cX9_stepsByLand 61 = .ok (.iconst 1, 1) := by decide +kernel
theorem dX9_stepsByLand_62 : decode cX9_stepsByLand 62 = .ok (.isub, 1) := by decide +kernel
theorem dX9_stepsByLand_63 : decode cX9_stepsByLand 63 = .ok (.goto 5, 3) := by decide +kernel
theorem dX9_stepsByLand_66 : decode cX9_stepsByLand 66 = .ok (.bipush (-2), 2) := by decide +kernel
theorem dX9_stepsByLand_68 : decode cX9_stepsByLand 68 = .ok (.ireturn, 1) := by decide +kernel
theorem dX9_placesShutIn_0 : decode cX9_placesShutIn 0 = .ok (.aload_n 0, 1) := by decide +kernel
theorem dX9_placesShutIn_1 : decode cX9_placesShutIn 1 = .ok (.getfield 9, 3) := by decide +kernel
theorem dX9_placesShutIn_4 : decode cX9_placesShutIn 4 = .ok (.iconst 0, 1) := by decide +kernel
theorem dX9_placesShutIn_5 : decode cX9_placesShutIn 5 = .ok (.invokestatic 22, 3) := by decide +kernel
theorem dX9_placesShutIn_8 : decode cX9_placesShutIn 8 = .ok (.aload_n 1, 1) := by decide +kernel
theorem dX9_placesShutIn_9 : decode cX9_placesShutIn 9 = .ok (.getfield 28, 3) := by decide +kernel
theorem dX9_placesShutIn_12 : decode cX9_placesShutIn 12 = .ok (.istore_n 2, 1) := by decide +kernel
theorem dX9_placesShutIn_13 : decode cX9_placesShutIn 13 = .ok (.iload_n 2, 1) := by decide +kernel
theorem dX9_placesShutIn_14 : decode cX9_placesShutIn 14 = .ok (.aload_n 1, 1) := by decide +kernel
theorem dX9_placesShutIn_15 : decode cX9_placesShutIn 15 = .ok (.invokevirtual 34, 3) := by decide +kernel
theorem dX9_placesShutIn_18 : decode cX9_placesShutIn 18 = .ok (.if_icmp .gt 19, 3) := by decide +kernel
theorem dX9_placesShutIn_21 : decode cX9_placesShutIn 21 = .ok (.aload_n 0, 1) := by decide +kernel
theorem dX9_placesShutIn_22 : decode cX9_placesShutIn 22 = .ok (.aload_n 1, 1) := by decide +kernel
theorem dX9_placesShutIn_23 : decode cX9_placesShutIn 23 = .ok (.iload_n 2, 1) := by decide +kernel
theorem dX9_placesShutIn_24 : decode cX9_placesShutIn 24 = .ok (.invokevirtual 38, 3) := by decide +kernel
theorem dX9_placesShutIn_27 : decode cX9_placesShutIn 27 = .ok (.iconst (-1), 1) := by decide +kernel
theorem dX9_placesShutIn_28 : decode cX9_placesShutIn 28 = .ok (.invokevirtual 42, 3) := by decide +kernel
theorem dX9_placesShutIn_31 : decode cX9_placesShutIn 31 = .ok (.iinc 2 1, 3) := by decide +kernel
theorem dX9_placesShutIn_34 : decode cX9_placesShutIn 34 = .ok (.goto (-21), 3) := by decide +kernel
theorem dX9_placesShutIn_37 : decode cX9_placesShutIn 37 = .ok (.iconst 0, 1) := by decide +kernel
theorem dX9_placesShutIn_38 : decode cX9_placesShutIn 38 = .ok (.istore_n 2, 1) := by decide +kernel
theorem dX9_placesShutIn_39 : decode cX9_placesShutIn 39 = .ok (.iconst 0, 1) := by decide +kernel
theorem dX9_placesShutIn_40 : decode cX9_placesShutIn 40 = .ok (.istore_n 3, 1) := by decide +kernel
theorem dX9_placesShutIn_41 : decode cX9_placesShutIn 41 = .ok (.iload_n 3, 1) := by decide +kernel
theorem dX9_placesShutIn_42 : decode cX9_placesShutIn 42 = .ok (.sipush 192, 3) := by decide +kernel
theorem dX9_placesShutIn_45 : decode cX9_placesShutIn 45 = .ok (.if_icmp .ge 23, 3) := by decide +kernel
theorem dX9_placesShutIn_48 : decode cX9_placesShutIn 48 = .ok (.iload_n 3, 1) := by decide +kernel
theorem dX9_placesShutIn_49 : decode cX9_placesShutIn 49 = .ok (.invokestatic 101, 3) := by decide +kernel
theorem dX9_placesShutIn_52 : decode cX9_placesShutIn 52 = .ok (.ifCond .eq 10, 3) := by decide +kernel
theorem dX9_placesShutIn_55 : decode cX9_placesShutIn 55 = .ok (.aload_n 0, 1) := by decide +kernel
theorem dX9_placesShutIn_56 : decode cX9_placesShutIn 56 = .ok (.iload_n 3, 1) := by decide +kernel
theorem dX9_placesShutIn_57 : decode cX9_placesShutIn 57 = .ok (.iload_n 2, 1) := by decide +kernel
theorem dX9_placesShutIn_58 : decode cX9_placesShutIn 58 = .ok (.invokevirtual 94, 3) := by decide +kernel
theorem dX9_placesShutIn_61 : decode cX9_placesShutIn 61 = .ok (.istore_n 2, 1) := by decide +kernel
theorem dX9_placesShutIn_62 : decode cX9_placesShutIn 62 = .ok (.iinc 3 1, 3) := by decide +kernel
theorem dX9_placesShutIn_65 : decode cX9_placesShutIn 65 = .ok (.goto (-24), 3) := by decide +kernel
theorem dX9_placesShutIn_68 : decode cX9_placesShutIn 68 = .ok (.aload_n 0, 1) := by decide +kernel
theorem dX9_placesShutIn_69 : decode cX9_placesShutIn 69 = .ok (.iload_n 2, 1) := by decide +kernel
theorem dX9_placesShutIn_70 : decode cX9_placesShutIn 70 = .ok (.invokevirtual 97, 3) := by decide +kernel
theorem dX9_placesShutIn_73 : decode cX9_placesShutIn 73 = .ok (.iconst 0, 1) := by decide +kernel
theorem dX9_placesShutIn_74 : decode cX9_placesShutIn 74 = .ok (.istore_n 3, 1) := by decide +kernel
theorem dX9_placesShutIn_75 : decode cX9_placesShutIn 75 = .ok (.iconst 0, 1) := by decide +kernel
theorem dX9_placesShutIn_76 : decode cX9_placesShutIn 76 = .ok (.istore 4, 2) := by decide +kernel
theorem dX9_placesShutIn_78 : decode cX9_placesShutIn 78 = .ok (.iload 4, 2) := by decide +kernel
theorem dX9_placesShutIn_80 : decode cX9_placesShutIn 80 = .ok (.sipush 192, 3) := by decide +kernel
theorem dX9_placesShutIn_83 : decode cX9_placesShutIn 83 = .ok (.if_icmp .ge 22, 3) := by decide +kernel
theorem dX9_placesShutIn_86 : decode cX9_placesShutIn 86 = .ok (.aload_n 0, 1) := by decide +kernel
theorem dX9_placesShutIn_87 : decode cX9_placesShutIn 87 = .ok (.getfield 9, 3) := by decide +kernel
theorem dX9_placesShutIn_90 : decode cX9_placesShutIn 90 = .ok (.iload 4, 2) := by decide +kernel
theorem dX9_placesShutIn_92 : decode cX9_placesShutIn 92 = .ok (.iaload, 1) := by decide +kernel
theorem dX9_placesShutIn_93 : decode cX9_placesShutIn 93 = .ok (.ifCond .ne 6, 3) := by decide +kernel
theorem dX9_placesShutIn_96 : decode cX9_placesShutIn 96 = .ok (.iinc 3 1, 3) := by decide +kernel
theorem dX9_placesShutIn_99 : decode cX9_placesShutIn 99 = .ok (.iinc 4 1, 3) := by decide +kernel
theorem dX9_placesShutIn_102 : decode cX9_placesShutIn 102 = .ok (.goto (-24), 3) := by decide +kernel
theorem dX9_placesShutIn_105 : decode cX9_placesShutIn 105 = .ok (.iload_n 3, 1) := by decide +kernel
theorem dX9_placesShutIn_106 : decode cX9_placesShutIn 106 = .ok (.ireturn, 1) := by decide +kernel
theorem dX9_placesSmelling_0 : decode cX9_placesSmelling 0 = .ok (.aload_n 0, 1) := by decide +kernel
theorem dX9_placesSmelling_1 : decode cX9_placesSmelling 1 = .ok (.getfield 9, 3) := by decide +kernel
theorem dX9_placesSmelling_4 : decode cX9_placesSmelling 4 = .ok (.iconst 0, 1) := by decide +kernel
theorem dX9_placesSmelling_5 : decode cX9_placesSmelling 5 = .ok (.invokestatic 22, 3) := by decide +kernel
theorem dX9_placesSmelling_8 : decode cX9_placesSmelling 8 = .ok (.iconst 0, 1) := by decide +kernel
theorem dX9_placesSmelling_9 : decode cX9_placesSmelling 9 = .ok (.istore_n 3, 1) := by decide +kernel
theorem dX9_placesSmelling_10 : decode cX9_placesSmelling 10 = .ok (.iconst 0, 1) := by decide +kernel
theorem dX9_placesSmelling_11 : decode cX9_placesSmelling 11 = .ok (.istore 4, 2) := by decide +kernel
theorem dX9_placesSmelling_13 : decode cX9_placesSmelling 13 = .ok (.iload 4, 2) := by decide +kernel
theorem dX9_placesSmelling_15 : decode cX9_placesSmelling 15 = .ok (.bipush 8, 2) := by decide +kernel
theorem dX9_placesSmelling_17 : decode cX9_placesSmelling 17 = .ok (.if_icmp .ge 120, 3) := by decide +kernel
theorem dX9_placesSmelling_20 : decode cX9_placesSmelling 20 = .ok (.aload_n 0, 1) := by decide +kernel
theorem dX9_placesSmelling_21 : decode cX9_placesSmelling 21 = .ok (.getfield 18, 3) := by decide +kernel
theorem dX9_placesSmelling_24 : decode cX9_placesSmelling 24 = .ok (.iload 4, 2) := by decide +kernel
theorem dX9_placesSmelling_26 : decode cX9_placesSmelling 26 = .ok (.invokevirtual 62, 3) := by decide +kernel
theorem dX9_placesSmelling_29 : decode cX9_placesSmelling 29 = .ok (.astore 5, 2) := by decide +kernel
theorem dX9_placesSmelling_31 : decode cX9_placesSmelling 31 = .ok (.aload 5, 2) := by decide +kernel
theorem dX9_placesSmelling_33 : decode cX9_placesSmelling 33 = .ok (.ifnonnull 6, 3) := by decide +kernel
theorem dX9_placesSmelling_36 : decode cX9_placesSmelling 36 = .ok (.goto 95, 3) := by decide +kernel
theorem dX9_placesSmelling_39 : decode cX9_placesSmelling 39 = .ok (.aload 5, 2) := by decide +kernel
theorem dX9_placesSmelling_41 : decode cX9_placesSmelling 41 = .ok (.getfield 28, 3) := by decide +kernel
theorem dX9_placesSmelling_44 : decode cX9_placesSmelling 44 = .ok (.istore 6, 2) := by decide +kernel
theorem dX9_placesSmelling_46 : decode cX9_placesSmelling 46 = .ok (.iload 6, 2) := by decide +kernel
theorem dX9_placesSmelling_48 : decode cX9_placesSmelling 48 = .ok (.aload 5, 2) := by decide +kernel
theorem dX9_placesSmelling_50 : decode cX9_placesSmelling 50 = .ok (.invokevirtual 34, 3) := by decide +kernel
theorem dX9_placesSmelling_53 : decode cX9_placesSmelling 53 = .ok (.if_icmp .gt 78, 3) := by decide +kernel
theorem dX9_placesSmelling_56 : decode cX9_placesSmelling 56 = .ok (.aload 5, 2) := by decide +kernel
theorem dX9_placesSmelling_58 : decode cX9_placesSmelling 58 = .ok (.iload 6, 2) := by decide +kernel
theorem dX9_placesSmelling_60 : decode cX9_placesSmelling 60 = .ok (.invokevirtual 38, 3) := by decide +kernel
theorem dX9_placesSmelling_63 : decode cX9_placesSmelling 63 = .ok (.istore 7, 2) := by decide +kernel
theorem dX9_placesSmelling_65 : decode cX9_placesSmelling 65 = .ok (.aload_n 0, 1) := by decide +kernel
theorem dX9_placesSmelling_66 : decode cX9_placesSmelling 66 = .ok (.getfield 18, 3) := by decide +kernel
theorem dX9_placesSmelling_69 : decode cX9_placesSmelling 69 = .ok (.iload 6, 2) := by decide +kernel
theorem dX9_placesSmelling_71 : decode cX9_placesSmelling 71 = .ok (.iload_n 2, 1) := by decide +kernel
theorem dX9_placesSmelling_72 : decode cX9_placesSmelling 72 = .ok (.invokevirtual 104, 3) := by decide +kernel
theorem dX9_placesSmelling_75 : decode cX9_placesSmelling 75 = .ok (.iload_n 1, 1) := by decide +kernel
theorem dX9_placesSmelling_76 : decode cX9_placesSmelling 76 = .ok (.if_icmp .lt 7, 3) := by decide +kernel
theorem dX9_placesSmelling_79 : decode cX9_placesSmelling 79 = .ok (.iconst 1, 1) := by decide +kernel
theorem dX9_placesSmelling_80 : decode cX9_placesSmelling 80 = .ok (.goto 4, 3) := by decide +kernel
theorem dX9_placesSmelling_83 : decode cX9_placesSmelling 83 = .ok (.iconst 0, 1) := by decide +kernel
theorem dX9_placesSmelling_84 : decode cX9_placesSmelling 84 = .ok (.istore 8, 2) := by decide +kernel
theorem dX9_placesSmelling_86 : decode cX9_placesSmelling 86 = .ok (.iload 8, 2) := by decide +kernel
theorem dX9_placesSmelling_88 : decode cX9_placesSmelling 88 = .ok (.ifCond .eq 37, 3) := by decide +kernel
theorem dX9_placesSmelling_91 : decode cX9_placesSmelling 91 = .ok (.aload_n 0, 1) := by decide +kernel
theorem dX9_placesSmelling_92 : decode cX9_placesSmelling 92 = .ok (.getfield 18, 3) := by decide +kernel
theorem dX9_placesSmelling_95 : decode cX9_placesSmelling 95 = .ok (.iload 7, 2) := by decide +kernel
theorem dX9_placesSmelling_97 : decode cX9_placesSmelling 97 = .ok (.iload 6, 2) := by decide +kernel
theorem dX9_placesSmelling_99 : decode cX9_placesSmelling 99 = .ok (.iload_n 2, 1) := by decide +kernel
theorem dX9_placesSmelling_100 : decode cX9_placesSmelling 100 = .ok (.invokevirtual 107, 3) := by decide +kernel
theorem dX9_placesSmelling_103 : decode cX9_placesSmelling 103 = .ok (.ifCond .eq 22, 3) := by decide +kernel
theorem dX9_placesSmelling_106 : decode cX9_placesSmelling 106 = .ok (.aload_n 0, 1) := by decide +kernel
theorem dX9_placesSmelling_107 : decode cX9_placesSmelling 107 = .ok (.iload 7, 2) := by decide +kernel
theorem dX9_placesSmelling_109 : decode cX9_placesSmelling 109 = .ok (.invokevirtual 46, 3) := by decide +kernel
theorem dX9_placesSmelling_112 : decode cX9_placesSmelling 112 = .ok (.ifCond .ne 13, 3) := by decide +kernel
theorem dX9_placesSmelling_115 : decode cX9_placesSmelling 115 = .ok (.iinc 3 1, 3) := by decide +kernel
theorem dX9_placesSmelling_118 : decode cX9_placesSmelling 118 = .ok (.aload_n 0, 1) := by decide +kernel
theorem dX9_placesSmelling_119 : decode cX9_placesSmelling 119 = .ok (.iload 7, 2) := by decide +kernel
theorem dX9_placesSmelling_121 : decode cX9_placesSmelling 121 = .ok (.iconst 1, 1) := by decide +kernel
theorem dX9_placesSmelling_122 : decode cX9_placesSmelling 122 = .ok (.invokevirtual 42, 3) := by decide +kernel
theorem dX9_placesSmelling_125 : decode cX9_placesSmelling 125 = .ok (.iinc 6 1, 3) := by decide +kernel
theorem dX9_placesSmelling_128 : decode cX9_placesSmelling 128 = .ok (.goto (-82), 3) := by decide +kernel
theorem dX9_placesSmelling_131 : decode cX9_placesSmelling 131 = .ok (.iinc 4 1, 3) := by decide +kernel
theorem dX9_placesSmelling_134 : decode cX9_placesSmelling 134 = .ok (.goto (-121), 3) := by decide +kernel
theorem dX9_placesSmelling_137 : decode cX9_placesSmelling 137 = .ok (.iload_n 3, 1) := by decide +kernel
theorem dX9_placesSmelling_138 : decode cX9_placesSmelling 138 = .ok (.ireturn, 1) := by decide +kernel
theorem dX9_queue_0 : decode cX9_queue 0 = .ok (.aload_n 0, 1) := by decide +kernel
theorem dX9_queue_1 : decode cX9_queue 1 = .ok (.iload_n 1, 1) := by decide +kernel
theorem dX9_queue_2 : decode cX9_queue 2 = .ok (.invokevirtual 46, 3) := by decide +kernel
theorem dX9_queue_5 : decode cX9_queue 5 = .ok (.ifCond .ne 14, 3) := by decide +kernel
theorem dX9_queue_8 : decode cX9_queue 8 = .ok (.iload_n 2, 1) := by decide +kernel
theorem dX9_queue_9 : decode cX9_queue 9 = .ok (.ifCond .lt 10, 3) := by decide +kernel
theorem dX9_queue_12 : decode cX9_queue 12 = .ok (.iload_n 2, 1) := by decide +kernel
theorem dX9_queue_13 : decode cX9_queue 13 = .ok (.sipush 192, 3) := by decide +kernel
theorem dX9_queue_16 : decode cX9_queue 16 = .ok (.if_icmp .lt 5, 3) := by decide +kernel
theorem dX9_queue_19 : decode cX9_queue 19 = .ok (.iload_n 2, 1) := by decide +kernel
theorem dX9_queue_20 : decode cX9_queue 20 = .ok (.ireturn, 1) := by decide +kernel
theorem dX9_queue_21 : decode cX9_queue 21 = .ok (.aload_n 0, 1) := by decide +kernel
theorem dX9_queue_22 : decode cX9_queue 22 = .ok (.getfield 15, 3) := by decide +kernel
theorem dX9_queue_25 : decode cX9_queue 25 = .ok (.iload_n 2, 1) := by decide +kernel
theorem dX9_queue_26 : decode cX9_queue 26 = .ok (.iload_n 1, 1) := by decide +kernel
theorem dX9_queue_27 : decode cX9_queue 27 = .ok (.iastore, 1) := by decide +kernel
theorem dX9_queue_28 : decode cX9_queue 28 = .ok (.aload_n 0, 1) := by decide +kernel
theorem dX9_queue_29 : decode cX9_queue 29 = .ok (.iload_n 1, 1) := by decide +kernel
theorem dX9_queue_30 : decode cX9_queue 30 = .ok (.iconst 1, 1) := by decide +kernel
theorem dX9_queue_31 : decode cX9_queue 31 = .ok (.invokevirtual 42, 3) := by decide +kernel
theorem dX9_queue_34 : decode cX9_queue 34 = .ok (.iload_n 2, 1) := by decide +kernel
theorem dX9_queue_35 : decode cX9_queue 35 = .ok (.iconst 1, 1) := by decide +kernel
theorem dX9_queue_36 : decode cX9_queue 36 = .ok (.iadd, 1) := by decide +kernel
theorem dX9_queue_37 : decode cX9_queue 37 = .ok (.ireturn, 1) := by decide +kernel
theorem dX9_spread_0 : decode cX9_spread 0 = .ok (.iload_n 1, 1) := by decide +kernel
theorem dX9_spread_1 : decode cX9_spread 1 = .ok (.istore_n 2, 1) := by decide +kernel
theorem dX9_spread_2 : decode cX9_spread 2 = .ok (.iconst 0, 1) := by decide +kernel
theorem dX9_spread_3 : decode cX9_spread 3 = .ok (.istore_n 3, 1) := by decide +kernel
theorem dX9_spread_4 : decode cX9_spread 4 = .ok (.iload_n 3, 1) := by decide +kernel
theorem dX9_spread_5 : decode cX9_spread 5 = .ok (.sipush 192, 3) := by decide +kernel
theorem dX9_spread_8 : decode cX9_spread 8 = .ok (.if_icmp .ge 93, 3) := by decide +kernel
theorem dX9_spread_11 : decode cX9_spread 11 = .ok (.iload_n 3, 1) := by decide +kernel
theorem dX9_spread_12 : decode cX9_spread 12 = .ok (.iload_n 2, 1) := by decide +kernel
theorem dX9_spread_13 : decode cX9_spread 13 = .ok (.if_icmp .ge 88, 3) := by decide +kernel
theorem dX9_spread_16 : decode cX9_spread 16 = .ok (.aload_n 0, 1) := by decide +kernel
theorem dX9_spread_17 : decode cX9_spread 17 = .ok (.getfield 15, 3) := by decide +kernel
theorem dX9_spread_20 : decode cX9_spread 20 = .ok (.iload_n 3, 1) := by decide +kernel
theorem dX9_spread_21 : decode cX9_spread 21 = .ok (.iaload, 1) := by decide +kernel
theorem dX9_spread_22 : decode cX9_spread 22 = .ok (.istore 4, 2) := by decide +kernel
theorem dX9_spread_24 : decode cX9_spread 24 = .ok (.iconst 1, 1) := by decide +kernel
theorem dX9_spread_25 : decode cX9_spread 25 = .ok (.istore 5, 2) := by decide +kernel
theorem dX9_spread_27 : decode cX9_spread 27 = .ok (.iload 5, 2) := by decide +kernel
theorem dX9_spread_29 : decode cX9_spread 29 = .ok (.iconst 5, 1) := by decide +kernel
theorem dX9_spread_30 : decode cX9_spread 30 = .ok (.if_icmp .ge 65, 3) := by decide +kernel
theorem dX9_spread_33 : decode cX9_spread 33 = .ok (.iload 4, 2) := by decide +kernel
theorem dX9_spread_35 : decode cX9_spread 35 = .ok (.iload 5, 2) := by decide +kernel
theorem dX9_spread_37 : decode cX9_spread 37 = .ok (.invokestatic 111, 3) := by decide +kernel
theorem dX9_spread_40 : decode cX9_spread 40 = .ok (.istore 6, 2) := by decide +kernel
theorem dX9_spread_42 : decode cX9_spread 42 = .ok (.iload 6, 2) := by decide +kernel
theorem dX9_spread_44 : decode cX9_spread 44 = .ok (.iconst (-1), 1) := by decide +kernel
theorem dX9_spread_45 : decode cX9_spread 45 = .ok (.if_icmp .eq 44, 3) := by decide +kernel
theorem dX9_spread_48 : decode cX9_spread 48 = .ok (.aload_n 0, 1) := by decide +kernel
theorem dX9_spread_49 : decode cX9_spread 49 = .ok (.iload 6, 2) := by decide +kernel
theorem dX9_spread_51 : decode cX9_spread 51 = .ok (.invokevirtual 46, 3) := by decide +kernel
theorem dX9_spread_54 : decode cX9_spread 54 = .ok (.ifCond .ne 35, 3) := by decide +kernel
theorem dX9_spread_57 : decode cX9_spread 57 = .ok (.iload_n 2, 1) := by decide +kernel
theorem dX9_spread_58 : decode cX9_spread 58 = .ok (.sipush 192, 3) := by decide +kernel
theorem dX9_spread_61 : decode cX9_spread 61 = .ok (.if_icmp .ge 28, 3) := by decide +kernel
theorem dX9_spread_64 : decode cX9_spread 64 = .ok (.aload_n 0, 1) := by decide +kernel
theorem dX9_spread_65 : decode cX9_spread 65 = .ok (.getfield 15, 3) := by decide +kernel
theorem dX9_spread_68 : decode cX9_spread 68 = .ok (.iload_n 2, 1) := by decide +kernel
theorem dX9_spread_69 : decode cX9_spread 69 = .ok (.iload 6, 2) := by decide +kernel
theorem dX9_spread_71 : decode cX9_spread 71 = .ok (.iastore, 1) := by decide +kernel
theorem dX9_spread_72 : decode cX9_spread 72 = .ok (.iinc 2 1, 3) := by decide +kernel
theorem dX9_spread_75 : decode cX9_spread 75 = .ok (.aload_n 0, 1) := by decide +kernel
theorem dX9_spread_76 : decode cX9_spread 76 = .ok (.iload 6, 2) := by decide +kernel
theorem dX9_spread_78 : decode cX9_spread 78 = .ok (.aload_n 0, 1) := by decide +kernel
theorem dX9_spread_79 : decode cX9_spread 79 = .ok (.iload 4, 2) := by decide +kernel
theorem dX9_spread_81 : decode cX9_spread 81 = .ok (.invokevirtual 46, 3) := by decide +kernel
theorem dX9_spread_84 : decode cX9_spread 84 = .ok (.iconst 1, 1) := by decide +kernel
theorem dX9_spread_85 : decode cX9_spread 85 = .ok (.iadd, 1) := by decide +kernel
theorem dX9_spread_86 : decode cX9_spread 86 = .ok (.invokevirtual 42, 3) := by decide +kernel
theorem dX9_spread_89 : decode cX9_spread 89 = .ok (.iinc 5 1, 3) := by decide +kernel
theorem dX9_spread_92 : decode cX9_spread 92 = .ok (.goto (-65), 3) := by decide +kernel
theorem dX9_spread_95 : decode cX9_spread 95 = .ok (.iinc 3 1, 3) := by decide +kernel
theorem dX9_spread_98 : decode cX9_spread 98 = .ok (.goto (-94), 3) := by decide +kernel
theorem dX9_spread_101 : decode cX9_spread 101 = .ok (.return_, 1) := by decide +kernel
theorem dX9_rowAt_0 : decode cX9_rowAt 0 = .ok (.iload_n 1, 1) := by decide +kernel
theorem dX9_rowAt_1 : decode cX9_rowAt 1 = .ok (.ifCond .lt 19, 3) := by decide +kernel
theorem dX9_rowAt_4 : decode cX9_rowAt 4 = .ok (.iload_n 1, 1) := by decide +kernel
theorem dX9_rowAt_5 : decode cX9_rowAt 5 = .ok (.sipush 192, 3) := by decide +kernel
theorem dX9_rowAt_8 : decode cX9_rowAt 8 = .ok (.if_icmp .ge 12, 3) := by decide +kernel
theorem dX9_rowAt_11 : decode cX9_rowAt 11 = .ok (.aload_n 0, 1) := by decide +kernel
theorem dX9_rowAt_12 : decode cX9_rowAt 12 = .ok (.getfield 15, 3) := by decide +kernel
theorem dX9_rowAt_15 : decode cX9_rowAt 15 = .ok (.iload_n 1, 1) := by decide +kernel
theorem dX9_rowAt_16 : decode cX9_rowAt 16 = .ok (.iaload, 1) := by decide +kernel
theorem dX9_rowAt_17 : decode cX9_rowAt 17 = .ok (.goto 4, 3) := by decide +kernel
theorem dX9_rowAt_20 : decode cX9_rowAt 20 = .ok (.iconst (-1), 1) := by decide +kernel
theorem dX9_rowAt_21 : decode cX9_rowAt 21 = .ok (.ireturn, 1) := by decide +kernel
theorem dX9_markAt_0 : decode cX9_markAt 0 = .ok (.iload_n 1, 1) := by decide +kernel
theorem dX9_markAt_1 : decode cX9_markAt 1 = .ok (.invokestatic 114, 3) := by decide +kernel
theorem dX9_markAt_4 : decode cX9_markAt 4 = .ok (.ifCond .eq 12, 3) := by decide +kernel
theorem dX9_markAt_7 : decode cX9_markAt 7 = .ok (.aload_n 0, 1) := by decide +kernel
theorem dX9_markAt_8 : decode cX9_markAt 8 = .ok (.getfield 9, 3) := by decide +kernel
theorem dX9_markAt_11 : decode cX9_markAt 11 = .ok (.iload_n 1, 1) := by decide +kernel
theorem dX9_markAt_12 : decode cX9_markAt 12 = .ok (.iaload, 1) := by decide +kernel
theorem dX9_markAt_13 : decode cX9_markAt 13 = .ok (.goto 4, 3) := by decide +kernel
theorem dX9_markAt_16 : decode cX9_markAt 16 = .ok (.iconst (-1), 1) := by decide +kernel
theorem dX9_markAt_17 : decode cX9_markAt 17 = .ok (.ireturn, 1) := by decide +kernel
theorem dX9_markPlace_0 : decode cX9_markPlace 0 = .ok (.iload_n 1, 1) := by decide +kernel
theorem dX9_markPlace_1 : decode cX9_markPlace 1 = .ok (.invokestatic 114, 3) := by decide +kernel
theorem dX9_markPlace_4 : decode cX9_markPlace 4 = .ok (.ifCond .eq 10, 3) := by decide +kernel
theorem dX9_markPlace_7 : decode cX9_markPlace 7 = .ok (.aload_n 0, 1) := by decide +kernel
theorem dX9_markPlace_8 : decode cX9_markPlace 8 = .ok (.getfield 9, 3) := by decide +kernel
theorem dX9_markPlace_11 : decode cX9_markPlace 11 = .ok (.iload_n 1, 1) := by decide +kernel
theorem dX9_markPlace_12 : decode cX9_markPlace 12 = .ok (.iload_n 2, 1) := by decide +kernel
theorem dX9_markPlace_13 : decode cX9_markPlace 13 = .ok (.iastore, 1) := by decide +kernel
theorem dX9_markPlace_14 : decode cX9_markPlace 14 = .ok (.return_, 1) := by decide +kernel
theorem dX9_stepsApart_0 : decode cX9_stepsApart 0 = .ok (.aload_n 0, 1) := by decide +kernel
theorem dX9_stepsApart_1 : decode cX9_stepsApart 1 = .ok (.iload_n 2, 1) := by decide +kernel
theorem dX9_stepsApart_2 : decode cX9_stepsApart 2 = .ok (.invokevirtual 38, 3) := by decide +kernel
theorem dX9_stepsApart_5 : decode cX9_stepsApart 5 = .ok (.istore_n 3, 1) := by decide +kernel
theorem dX9_stepsApart_6 : decode cX9_stepsApart 6 = .ok (.aload_n 1, 1) := by decide +kernel
theorem dX9_stepsApart_7 : decode cX9_stepsApart 7 = .ok (.iload_n 2, 1) := by decide +kernel
theorem dX9_stepsApart_8 : decode cX9_stepsApart 8 = .ok (.invokevirtual 38, 3) := by decide +kernel
theorem dX9_stepsApart_11 : decode cX9_stepsApart 11 = .ok (.istore 4, 2) := by decide +kernel
theorem dX9_stepsApart_13 : decode cX9_stepsApart 13 = .ok (.iload_n 3, 1) := by decide +kernel
theorem dX9_stepsApart_14 : decode cX9_stepsApart 14 = .ok (.iload 4, 2) := by decide +kernel
theorem dX9_stepsApart_16 : decode cX9_stepsApart 16 = .ok (.invokestatic 117, 3) := by decide +kernel
theorem dX9_stepsApart_19 : decode cX9_stepsApart 19 = .ok (.iload_n 3, 1) := by decide +kernel
theorem dX9_stepsApart_20 : decode cX9_stepsApart 20 = .ok (.iload 4, 2) := by decide +kernel
theorem dX9_stepsApart_22 : decode cX9_stepsApart 22 = .ok (.invokestatic 120, 3) := by decide +kernel
theorem dX9_stepsApart_25 : decode cX9_stepsApart 25 = .ok (.iadd, 1) := by decide +kernel
theorem dX9_stepsApart_26 : decode cX9_stepsApart 26 = .ok (.ireturn, 1) := by decide +kernel
theorem dX9_isOnEdge_0 : decode cX9_isOnEdge 0 = .ok (.iload_n 0, 1) := by decide +kernel
theorem dX9_isOnEdge_1 : decode cX9_isOnEdge 1 = .ok (.bipush 15, 2) := by decide +kernel
theorem dX9_isOnEdge_3 : decode cX9_isOnEdge 3 = .ok (.iand, 1) := by decide +kernel
theorem dX9_isOnEdge_4 : decode cX9_isOnEdge 4 = .ok (.istore_n 1, 1) := by decide +kernel
theorem dX9_isOnEdge_5 : decode cX9_isOnEdge 5 = .ok (.iload_n 0, 1) := by decide +kernel
theorem dX9_isOnEdge_6 : decode cX9_isOnEdge 6 = .ok (.iconst 4, 1) := by decide +kernel
theorem dX9_isOnEdge_7 : decode cX9_isOnEdge 7 = .ok (.ishr, 1) := by decide +kernel
theorem dX9_isOnEdge_8 : decode cX9_isOnEdge 8 = .ok (.istore_n 2, 1) := by decide +kernel
theorem dX9_isOnEdge_9 : decode cX9_isOnEdge 9 = .ok (.iload_n 1, 1) := by decide +kernel
theorem dX9_isOnEdge_10 : decode cX9_isOnEdge 10 = .ok (.ifCond .eq 19, 3) := by decide +kernel
theorem dX9_isOnEdge_13 : decode cX9_isOnEdge 13 = .ok (.iload_n 1, 1) := by decide +kernel
theorem dX9_isOnEdge_14 : decode cX9_isOnEdge 14 = .ok (.bipush 15, 2) := by decide +kernel
theorem dX9_isOnEdge_16 : decode cX9_isOnEdge 16 = .ok (.if_icmp .eq 13, 3) := by decide +kernel
theorem dX9_isOnEdge_19 : decode cX9_isOnEdge 19 = .ok (.iload_n 2, 1) := by decide +kernel
theorem dX9_isOnEdge_20 : decode cX9_isOnEdge 20 = .ok (.ifCond .eq 9, 3) := by decide +kernel
theorem dX9_isOnEdge_23 : decode cX9_isOnEdge 23 = .ok (.iload_n 2, 1) := by decide +kernel
theorem dX9_isOnEdge_24 : decode cX9_isOnEdge 24 = .ok (.bipush 11, 2) := by decide +kernel
theorem dX9_isOnEdge_26 : decode cX9_isOnEdge 26 = .ok (.if_icmp .ne 7, 3) := by decide +kernel
theorem dX9_isOnEdge_29 : decode cX9_isOnEdge 29 = .ok (.iconst 1, 1) := by decide +kernel
theorem dX9_isOnEdge_30 : decode cX9_isOnEdge 30 = .ok (.goto 4, 3) := by decide +kernel
theorem dX9_isOnEdge_33 : decode cX9_isOnEdge 33 = .ok (.iconst 0, 1) := by decide +kernel
theorem dX9_isOnEdge_34 : decode cX9_isOnEdge 34 = .ok (.ireturn, 1) := by decide +kernel
