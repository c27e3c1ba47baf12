theorem dX12_lineIs_95 : decode cX12_lineIs 95 = .ok (.getfield 22, 3) := by decide +kernel
theorem dX12_lineIs_98 : decode cX12_lineIs 98 = .ok (.iload_n 1, 1) := by decide +kernel
theorem dX12_lineIs_99 : decode cX12_lineIs 99 = .ok (.iaload, 1) := by decide +kernel
theorem dX12_lineIs_100 : decode cX12_lineIs 100 = .ok (.aload_n 0, 1) := by decide +kernel
theorem dX12_lineIs_101 : decode cX12_lineIs 101 = .ok (.getfield 19, 3) := by decide +kernel
theorem dX12_lineIs_104 : decode cX12_lineIs 104 = .ok (.iload_n 1, 1) := by decide +kernel
theorem dX12_lineIs_105 : decode cX12_lineIs 105 = .ok (.iaload, 1) := by decide +kernel
theorem dX12_lineIs_106 : decode cX12_lineIs 106 = .ok (.iadd, 1) := by decide +kernel
theorem dX12_lineIs_107 : decode cX12_lineIs 107 = .ok (.ireturn, 1) := by decide +kernel
theorem dX12_lineIs_108 : decode cX12_lineIs 108 = .ok (.aload_n 0, 1) := by decide +kernel
theorem dX12_lineIs_109 : decode cX12_lineIs 109 = .ok (.getfield 28, 3) := by decide +kernel
theorem dX12_lineIs_112 : decode cX12_lineIs 112 = .ok (.bipush 97, 2) := by decide +kernel
theorem dX12_lineIs_114 : decode cX12_lineIs 114 = .ok (.iload_n 1, 1) := by decide +kernel
theorem dX12_lineIs_115 : decode cX12_lineIs 115 = .ok (.imul, 1) := by decide +kernel
theorem dX12_lineIs_116 : decode cX12_lineIs 116 = .ok (.aload_n 0, 1) := by decide +kernel
theorem dX12_lineIs_117 : decode cX12_lineIs 117 = .ok (.getfield 19, 3) := by decide +kernel
theorem dX12_lineIs_120 : decode cX12_lineIs 120 = .ok (.iload_n 1, 1) := by decide +kernel
theorem dX12_lineIs_121 : decode cX12_lineIs 121 = .ok (.iaload, 1) := by decide +kernel
theorem dX12_lineIs_122 : decode cX12_lineIs 122 = .ok (.iadd, 1) := by decide +kernel
theorem dX12_lineIs_123 : decode cX12_lineIs 123 = .ok (.iaload, 1) := by decide +kernel
theorem dX12_lineIs_124 : decode cX12_lineIs 124 = .ok (.ireturn, 1) := by decide +kernel
theorem dX12_lineIs_125 : decode cX12_lineIs 125 = .ok (.iconst (-1), 1) := by decide +kernel
theorem dX12_lineIs_126 : decode cX12_lineIs 126 = .ok (.ireturn, 1) := by decide +kernel
theorem dX12_seed_0 : decode cX12_seed 0 = .ok (.iload_n 1, 1) := by decide +kernel
theorem dX12_seed_1 : decode cX12_seed 1 = .ok (.iconst 0, 1) := by decide +kernel
theorem dX12_seed_2 : decode cX12_seed 2 = .ok (.ldc_w 405, 3) := by decide +kernel
theorem dX12_seed_5 : decode cX12_seed 5 = .ok (.invokestatic 118, 3) := by decide +kernel
theorem dX12_seed_8 : decode cX12_seed 8 = .ok (.ifCond .ne 5, 3) := by decide +kernel
theorem dX12_seed_11 : decode cX12_seed 11 = .ok (.iconst 0, 1) := by decide +kernel
theorem dX12_seed_12 : decode cX12_seed 12 = .ok (.ireturn, 1) := by decide +kernel
theorem dX12_seed_13 : decode cX12_seed 13 = .ok (.aload_n 0, 1) := by decide +kernel
theorem dX12_seed_14 : decode cX12_seed 14 = .ok (.getfield 7, 3) := by decide +kernel
theorem dX12_seed_17 : decode cX12_seed 17 = .ok (.bipush 31, 2) := by decide +kernel
theorem dX12_seed_19 : decode cX12_seed 19 = .ok (.iload_n 1, 1) := by decide +kernel
theorem dX12_seed_20 : decode cX12_seed 20 = .ok (.iastore, 1) := by decide +kernel
theorem dX12_seed_21 : decode cX12_seed 21 = .ok (.iconst 1, 1) := by decide +kernel
theorem dX12_seed_22 : decode cX12_seed 22 = .ok (.ireturn, 1) := by decide +kernel
theorem dX12_keep_0 : decode cX12_keep 0 = .ok (.aload_n 0, 1) := by decide +kernel
theorem dX12_keep_1 : decode cX12_keep 1 = .ok (.iconst 1, 1) := by decide +kernel
theorem dX12_keep_2 : decode cX12_keep 2 = .ok (.putfield 406, 3) := by decide +kernel
theorem dX12_keep_5 : decode cX12_keep 5 = .ok (.aload_n 0, 1) := by decide +kernel
theorem dX12_keep_6 : decode cX12_keep 6 = .ok (.getfield 7, 3) := by decide +kernel
theorem dX12_keep_9 : decode cX12_keep 9 = .ok (.aload_n 0, 1) := by decide +kernel
theorem dX12_keep_10 : decode cX12_keep 10 = .ok (.getfield 16, 3) := by decide +kernel
theorem dX12_keep_13 : decode cX12_keep 13 = .ok (.invokestatic 346, 3) := by decide +kernel
theorem dX12_keep_16 : decode cX12_keep 16 = .ok (.aload_n 0, 1) := by decide +kernel
theorem dX12_keep_17 : decode cX12_keep 17 = .ok (.getfield 7, 3) := by decide +kernel
theorem dX12_keep_20 : decode cX12_keep 20 = .ok (.bipush 30, 2) := by decide +kernel
theorem dX12_keep_22 : decode cX12_keep 22 = .ok (.iaload, 1) := by decide +kernel
theorem dX12_keep_23 : decode cX12_keep 23 = .ok (.ireturn, 1) := by decide +kernel
theorem dX12_undo_0 : decode cX12_undo 0 = .ok (.aload_n 0, 1) := by decide +kernel
theorem dX12_undo_1 : decode cX12_undo 1 = .ok (.getfield 406, 3) := by decide +kernel
theorem dX12_undo_4 : decode cX12_undo 4 = .ok (.ifCond .ne 5, 3) := by decide +kernel
theorem dX12_undo_7 : decode cX12_undo 7 = .ok (.iconst 0, 1) := by decide +kernel
theorem dX12_undo_8 : decode cX12_undo 8 = .ok (.ireturn, 1) := by decide +kernel
theorem dX12_undo_9 : decode cX12_undo 9 = .ok (.aload_n 0, 1) := by decide +kernel
theorem dX12_undo_10 : decode cX12_undo 10 = .ok (.getfield 16, 3) := by decide +kernel
theorem dX12_undo_13 : decode cX12_undo 13 = .ok (.aload_n 0, 1) := by decide +kernel
theorem dX12_undo_14 : decode cX12_undo 14 = .ok (.getfield 7, 3) := by decide +kernel
theorem dX12_undo_17 : decode cX12_undo 17 = .ok (.invokestatic 346, 3) := by decide +kernel
theorem dX12_undo_20 : decode cX12_undo 20 = .ok (.iconst 1, 1) := by decide +kernel
theorem dX12_undo_21 : decode cX12_undo 21 = .ok (.ireturn, 1) := by decide +kernel
theorem dX12_check_0 : decode cX12_check 0 = .ok (.iload_n 1, 1) := by decide +kernel
theorem dX12_check_1 : decode cX12_check 1 = .ok (.iconst 0, 1) := by decide +kernel
theorem dX12_check_2 : decode cX12_check 2 = .ok (.bipush 6, 2) := by decide +kernel
theorem dX12_check_4 : decode cX12_check 4 = .ok (.invokestatic 118, 3) := by decide +kernel
theorem dX12_check_7 : decode cX12_check 7 = .ok (.ifCond .eq 11, 3) := by decide +kernel
theorem dX12_check_10 : decode cX12_check 10 = .ok (.iload_n 1, 1) := by decide +kernel
theorem dX12_check_11 : decode cX12_check 11 = .ok (.aload_n 0, 1) := by decide +kernel
theorem dX12_check_12 : decode cX12_check 12 = .ok (.getfield 130, 3) := by decide +kernel
theorem dX12_check_15 : decode cX12_check 15 = .ok (.if_icmp .le 6, 3) := by decide +kernel
theorem dX12_check_18 : decode cX12_check 18 = .ok (.bipush (-2), 2) := by decide +kernel
theorem dX12_check_20 : decode cX12_check 20 = .ok (.ireturn, 1) := by decide +kernel
theorem dX12_check_21 : decode cX12_check 21 = .ok (.aload_n 0, 1) := by decide +kernel
theorem dX12_check_22 : decode cX12_check 22 = .ok (.iconst 0, 1) := by decide +kernel
theorem dX12_check_23 : decode cX12_check 23 = .ok (.putfield 130, 3) := by decide +kernel
theorem dX12_check_26 : decode cX12_check 26 = .ok (.iconst 0, 1) := by decide +kernel
theorem dX12_check_27 : decode cX12_check 27 = .ok (.istore_n 2, 1) := by decide +kernel
theorem dX12_check_28 : decode cX12_check 28 = .ok (.iload_n 2, 1) := by decide +kernel
theorem dX12_check_29 : decode cX12_check 29 = .ok (.iload_n 1, 1) := by decide +kernel
theorem dX12_check_30 : decode cX12_check 30 = .ok (.if_icmp .ge 42, 3) := by decide +kernel
theorem dX12_check_33 : decode cX12_check 33 = .ok (.aload_n 0, 1) := by decide +kernel
theorem dX12_check_34 : decode cX12_check 34 = .ok (.iload_n 2, 1) := by decide +kernel
theorem dX12_check_35 : decode cX12_check 35 = .ok (.invokevirtual 383, 3) := by decide +kernel
theorem dX12_check_38 : decode cX12_check 38 = .ok (.aload_n 0, 1) := by decide +kernel
theorem dX12_check_39 : decode cX12_check 39 = .ok (.iload_n 2, 1) := by decide +kernel
theorem dX12_check_40 : decode cX12_check 40 = .ok (.invokevirtual 286, 3) := by decide +kernel
theorem dX12_check_43 : decode cX12_check 43 = .ok (.ifCond .eq 15, 3) := by decide +kernel
theorem dX12_check_46 : decode cX12_check 46 = .ok (.aload_n 0, 1) := by decide +kernel
theorem dX12_check_47 : decode cX12_check 47 = .ok (.getfield 7, 3) := by decide +kernel
theorem dX12_check_50 : decode cX12_check 50 = .ok (.bipush 18, 2) := by decide +kernel
theorem dX12_check_52 : decode cX12_check 52 = .ok (.iload_n 2, 1) := by decide +kernel
theorem dX12_check_53 : decode cX12_check 53 = .ok (.iadd, 1) := by decide +kernel
theorem dX12_check_54 : decode cX12_check 54 = .ok (.iaload, 1) := by decide +kernel
theorem dX12_check_55 : decode cX12_check 55 = .ok (.goto 6, 3) := by decide +kernel
theorem dX12_check_58 : decode cX12_check 58 = .ok (.sipush 255, 3) := by decide +kernel
theorem dX12_check_61 : decode cX12_check 61 = .ok (.if_icmp .eq 5, 3) := by decide +kernel
theorem dX12_check_64 : decode cX12_check 64 = .ok (.iload_n 2, 1) := by decide +kernel
theorem dX12_check_65 : decode cX12_check 65 = .ok (.ireturn, 1) := by decide +kernel
theorem dX12_check_66 : decode cX12_check 66 = .ok (.iinc 2 1, 3) := by decide +kernel
theorem dX12_check_69 : decode cX12_check 69 = .ok (.goto (-41), 3) := by decide +kernel
theorem dX12_check_72 : decode cX12_check 72 = .ok (.iconst (-1), 1) := by decide +kernel
theorem dX12_check_73 : decode cX12_check 73 = .ok (.ireturn, 1) := by decide +kernel
theorem dX12_count_0 : decode cX12_count 0 = .ok (.iconst 0, 1) := by decide +kernel
theorem dX12_count_1 : decode cX12_count 1 = .ok (.istore_n 2, 1) := by decide +kernel
theorem dX12_count_2 : decode cX12_count 2 = .ok (.iload_n 1, 1) := by decide +kernel
theorem dX12_count_3 : decode cX12_count 3 = .ok (.tableswitch 139 0 8 #[49, 57, 75, 81, 111, 116, 121, 126, 131], 49) := by decide +kernel
theorem dX12_count_52 : decode cX12_count 52 = .ok (.aload_n 0, 1) := by decide +kernel
theorem dX12_count_53 : decode cX12_count 53 = .ok (.getfield 7, 3) := by decide +kernel
theorem dX12_count_56 : decode cX12_count 56 = .ok (.bipush 30, 2) := by decide +kernel
theorem dX12_count_58 : decode cX12_count 58 = .ok (.iaload, 1) := by decide +kernel
theorem dX12_count_59 : decode cX12_count 59 = .ok (.ireturn, 1) := by decide +kernel
theorem dX12_count_60 : decode cX12_count 60 = .ok (.aload_n 0, 1) := by decide +kernel
theorem dX12_count_61 : decode cX12_count 61 = .ok (.iconst 0, 1) := by decide +kernel
theorem dX12_count_62 : decode cX12_count 62 = .ok (.invokevirtual 340, 3) := by decide +kernel
theorem dX12_count_65 : decode cX12_count 65 = .ok (.aload_n 0, 1) := by decide +kernel
theorem dX12_count_66 : decode cX12_count 66 = .ok (.iconst 1, 1) := by decide +kernel
theorem dX12_count_67 : decode cX12_count 67 = .ok (.invokevirtual 340, 3) := by decide +kernel
theorem dX12_count_70 : decode cX12_count 70 = .ok (.ior, 1) := by decide +kernel
theorem dX12_count_71 : decode cX12_count 71 = .ok (.aload_n 0, 1) := by decide +kernel
theorem dX12_count_72 : decode cX12_count 72 = .ok (.iconst 2, 1) := by decide +kernel
theorem dX12_count_73 : decode cX12_count 73 = .ok (.invokevirtual 340, 3) := by decide +kernel
theorem dX12_count_76 : decode cX12_count 76 = .ok (.ior, 1) := by decide +kernel
theorem dX12_count_77 : decode cX12_count 77 = .ok (.ireturn, 1) := by decide +kernel
theorem dX12_count_78 : decode cX12_count 78 = .ok (.aload_n 0, 1) := by decide +kernel
theorem dX12_count_79 : decode cX12_count 79 = .ok (.iconst 0, 1) := by decide +kernel
theorem dX12_count_80 : decode cX12_count 80 = .ok (.invokevirtual 340, 3) := by decide +kernel
theorem dX12_count_83 : decode cX12_count 83 = .ok (.ireturn, 1) := by decide +kernel
theorem dX12_count_84 : decode cX12_count 84 = .ok (.iconst 0, 1) := by decide +kernel
theorem dX12_count_85 : decode cX12_count 85 = .ok (.istore_n 3, 1) := by decide +kernel
theorem dX12_count_86 : decode cX12_count 86 = .ok (.iload_n 3, 1) := by decide +kernel
theorem dX12_count_87 : decode cX12_count 87 = .ok (.bipush 8, 2) := by decide +kernel
theorem dX12_count_89 : decode cX12_count 89 = .ok (.if_icmp .ge 23, 3) := by decide +kernel
theorem dX12_count_92 : decode cX12_count 92 = .ok (.aload_n 0, 1) := by decide +kernel
theorem dX12_count_93 : decode cX12_count 93 = .ok (.iload_n 3, 1) := by decide +kernel
theorem dX12_count_94 : decode cX12_count 94 = .ok (.invokevirtual 122, 3) := by decide +kernel
theorem dX12_count_97 : decode cX12_count 97 = .ok (.ifCond .eq 9, 3) := by decide +kernel
theorem dX12_count_100 : decode cX12_count 100 = .ok (.iload_n 2, 1) := by decide +kernel
theorem dX12_count_101 : decode cX12_count 101 = .ok (.iconst 1, 1) := by decide +kernel
theorem dX12_count_102 : decode cX12_count 102 = .ok (.iload_n 3, 1) := by decide +kernel
theorem dX12_count_103 : decode cX12_count 103 = .ok (.ishl, 1) := by decide +kernel
theorem dX12_count_104 : decode cX12_count 104 = .ok (.ior, 1) := by decide +kernel
theorem dX12_count_105 : decode cX12_count 105 = .ok (.istore_n 2, 1) := by decide +kernel
theorem dX12_count_106 : decode cX12_count 106 = .ok (.iinc 3 1, 3) := by decide +kernel
theorem dX12_count_109 : decode cX12_count 109 = .ok (.goto (-23), 3) := by decide +kernel
theorem dX12_count_112 : decode cX12_count 112 = .ok (.iload_n 2, 1) := by decide +kernel
theorem dX12_count_113 : decode cX12_count 113 = .ok (.ireturn, 1) := by decide +kernel
theorem dX12_count_114 : decode cX12_count 114 = .ok (.aload_n 0, 1) := by decide +kernel
theorem dX12_count_115 : decode cX12_count 115 = .ok (.getfield 114, 3) := by decide +kernel
theorem dX12_count_118 : decode cX12_count 118 = .ok (.ireturn, 1) := by decide +kernel
theorem dX12_count_119 : decode cX12_count 119 = .ok (.aload_n 0, 1) := by decide +kernel
theorem dX12_count_120 : decode cX12_count 120 = .ok (.getfield 280, 3) := by decide +kernel
theorem dX12_count_123 : decode cX12_count 123 = .ok (.ireturn, 1) := by decide +kernel
theorem dX12_count_124 : decode cX12_count 124 = .ok (.aload_n 0, 1) := by decide +kernel
theorem dX12_count_125 : decode cX12_count 125 = .ok (.getfield 230, 3) := by decide +kernel
theorem dX12_count_128 : decode cX12_count 128 = .ok (.ireturn, 1) := by decide +kernel
theorem dX12_count_129 : decode cX12_count 129 = .ok (.aload_n 0, 1) := by decide +kernel
theorem dX12_count_130 : decode cX12_count 130 = .ok (.getfield 130, 3) := by decide +kernel
theorem dX12_count_133 : decode cX12_count 133 = .ok (.ireturn, 1) := by decide +kernel
theorem dX12_count_134 : decode cX12_count 134 = .ok (.aload_n 0, 1) := by decide +kernel
theorem dX12_count_135 : decode cX12_count 135 = .ok (.getfield 7, 3) := by decide +kernel
theorem dX12_count_138 : decode cX12_count 138 = .ok (.bipush 31, 2) := by decide +kernel
theorem dX12_count_140 : decode cX12_count 140 = .ok (.iaload, 1) := by decide +kernel
theorem dX12_count_141 : decode cX12_count 141 = .ok (.ireturn, 1) := by decide +kernel
theorem dX12_count_142 : decode cX12_count 142 = .ok (.iconst (-1), 1) := by decide +kernel
theorem dX12_count_143 : decode cX12_count 143 = .ok (.ireturn, 1) := by decide +kernel
theorem dX2_init_0 : decode cX2_init 0 = .ok (.aload_n 0, 1) := by decide +kernel
theorem dX2_init_1 : decode cX2_init 1 = .ok (.invokespecial 3, 3) := by decide +kernel
theorem dX2_init_4 : decode cX2_init 4 = .ok (.aload_n 0, 1) := by decide +kernel
theorem dX2_init_5 : decode cX2_init 5 = .ok (.iconst 0, 1) := by decide +kernel
theorem dX2_init_6 : decode cX2_init 6 = .ok (.putfield 9, 3) := by decide +kernel
theorem dX2_init_9 : decode cX2_init 9 = .ok (.aload_n 0, 1) := by decide +kernel
theorem dX2_init_10 : decode cX2_init 10 = .ok (.iconst (-1), 1) := by decide +kernel
theorem dX2_init_11 : decode cX2_init 11 = .ok (.putfield 15, 3) := by decide +kernel
theorem dX2_init_14 : decode cX2_init 14 = .ok (.aload_n 0, 1) := by decide +kernel
theorem dX2_init_15 : decode cX2_init 15 = .ok (.iconst 0, 1) := by decide +kernel
theorem dX2_init_16 : decode cX2_init 16 = .ok (.putfield 18, 3) := by decide +kernel
theorem dX2_init_19 : decode cX2_init 19 = .ok (.aload_n 0, 1) := by decide +kernel
theorem dX2_init_20 : decode cX2_init 20 = .ok (.iconst (-1), 1) := by decide +kernel
theorem dX2_init_21 : decode cX2_init 21 = .ok (.putfield 21, 3) := by decide +kernel
theorem dX2_init_24 : decode cX2_init 24 = .ok (.aload_n 0, 1) := by decide +kernel
theorem dX2_init_25 : decode cX2_init 25 = .ok (.aload_n 1, 1) := by decide +kernel
theorem dX2_init_26 : decode cX2_init 26 = .ok (.putfield 24, 3) := by decide +kernel
theorem dX2_init_29 : decode cX2_init 29 = .ok (.aload_n 0, 1) := by decide +kernel
theorem dX2_init_30 : decode cX2_init 30 = .ok (.aload_n 2, 1) := by decide +kernel
theorem dX2_init_31 : decode cX2_init 31 = .ok (.putfield 28, 3) := by decide +kernel
theorem dX2_init_34 : decode cX2_init 34 = .ok (.return_, 1) := by decide +kernel
theorem dX2_passMoment_0 : decode cX2_passMoment 0 = .ok (.iconst 0, 1) := by decide +kernel
theorem dX2_passMoment_1 : decode cX2_passMoment 1 = .ok (.istore_n 2, 1) := by decide +kernel
theorem dX2_passMoment_2 : decode cX2_passMoment 2 = .ok (.iload_n 2, 1) := by decide +kernel
theorem dX2_passMoment_3 : decode cX2_passMoment 3 = .ok (.bipush 6, 2) := by decide +kernel
theorem dX2_passMoment_5 : decode cX2_passMoment 5 = .ok (.if_icmp .ge 23, 3) := by decide +kernel
theorem dX2_passMoment_8 : decode cX2_passMoment 8 = .ok (.aload_n 1, 1) := by decide +kernel
theorem dX2_passMoment_9 : decode cX2_passMoment 9 = .ok (.iload_n 2, 1) := by decide +kernel
theorem dX2_passMoment_10 : decode cX2_passMoment 10 = .ok (.invokevirtual 32, 3) := by decide +kernel
theorem dX2_passMoment_13 : decode cX2_passMoment 13 = .ok (.ifCond .ne 9, 3) := by decide +kernel
theorem dX2_passMoment_16 : decode cX2_passMoment 16 = .ok (.aload_n 0, 1) := by decide +kernel
theorem dX2_passMoment_17 : decode cX2_passMoment 17 = .ok (.aload_n 1, 1) := by decide +kernel
theorem dX2_passMoment_18 : decode cX2_passMoment 18 = .ok (.iload_n 2, 1) := by decide +kernel
theorem dX2_passMoment_19 : decode cX2_passMoment 19 = .ok (.invokevirtual 38, 3) := by decide +kernel
theorem dX2_passMoment_22 : decode cX2_passMoment 22 = .ok (.iinc 2 1, 3) := by decide +kernel
theorem dX2_passMoment_25 : decode cX2_passMoment 25 = .ok (.goto (-23), 3) := by decide +kernel
theorem dX2_passMoment_28 : decode cX2_passMoment 28 = .ok (.aload_n 1, 1) := by decide +kernel
theorem dX2_passMoment_29 : decode cX2_passMoment 29 = .ok (.dup, 1) := by decide +kernel
theorem dX2_passMoment_30 : decode cX2_passMoment 30 = .ok (.getfield 42, 3) := by decide +kernel
theorem dX2_passMoment_33 : decode cX2_passMoment 33 = .ok (.iconst 1, 1) := by decide +kernel
theorem dX2_passMoment_34 : decode cX2_passMoment 34 = .ok (.iadd, 1) := by decide +kernel
theorem dX2_passMoment_35 : decode cX2_passMoment 35 = .ok (.putfield 42, 3) := by decide +kernel
theorem dX2_passMoment_38 : decode cX2_passMoment 38 = .ok (.return_, 1) := by decide +kernel
theorem dX2_takeTurn_0 : decode cX2_takeTurn 0 = .ok (.aload_n 0, 1) := by decide +kernel
theorem dX2_takeTurn_1 : decode cX2_takeTurn 1 = .ok (.getfield 28, 3) := by decide +kernel
theorem dX2_takeTurn_4 : decode cX2_takeTurn 4 = .ok (.iconst 0, 1) := by decide +kernel
theorem dX2_takeTurn_5 : decode cX2_takeTurn 5 = .ok (.iload_n 2, 1) := by decide +kernel
theorem dX2_takeTurn_6 : decode cX2_takeTurn 6 = .ok (.invokevirtual 47, 3) := by decide +kernel
theorem dX2_takeTurn_9 : decode cX2_takeTurn 9 = .ok (.aload_n 0, 1) := by decide +kernel
theorem dX2_takeTurn_10 : decode cX2_takeTurn 10 = .ok (.getfield 28, 3) := by decide +kernel
theorem dX2_takeTurn_13 : decode cX2_takeTurn 13 = .ok (.iconst 5, 1) := by decide +kernel
theorem dX2_takeTurn_14 : decode cX2_takeTurn 14 = .ok (.aload_n 1, 1) := by decide +kernel
theorem dX2_takeTurn_15 : decode cX2_takeTurn 15 = .ok (.iload_n 2, 1) := by decide +kernel
theorem dX2_takeTurn_16 : decode cX2_takeTurn 16 = .ok (.invokevirtual 51, 3) := by decide +kernel
theorem dX2_takeTurn_19 : decode cX2_takeTurn 19 = .ok (.invokevirtual 47, 3) := by decide +kernel
theorem dX2_takeTurn_22 : decode cX2_takeTurn 22 = .ok (.aload_n 0, 1) := by decide +kernel
theorem dX2_takeTurn_23 : decode cX2_takeTurn 23 = .ok (.getfield 28, 3) := by decide +kernel
theorem dX2_takeTurn_26 : decode cX2_takeTurn 26 = .ok (.bipush 7, 2) := by decide +kernel
theorem dX2_takeTurn_28 : decode cX2_takeTurn 28 = .ok (.aload_n 1, 1) := by decide +kernel
theorem dX2_takeTurn_29 : decode cX2_takeTurn 29 = .ok (.getfield 42, 3) := by decide +kernel
theorem dX2_takeTurn_32 : decode cX2_takeTurn 32 = .ok (.bipush 100, 2) := by decide +kernel
theorem dX2_takeTurn_34 : decode cX2_takeTurn 34 = .ok (.irem, 1) := by decide +kernel
theorem dX2_takeTurn_35 : decode cX2_takeTurn 35 = .ok (.invokevirtual 47, 3) := by decide +kernel
theorem dX2_takeTurn_38 : decode cX2_takeTurn 38 = .ok (.aload_n 0, 1) := by decide +kernel
theorem dX2_takeTurn_39 : decode cX2_takeTurn 39 = .ok (.getfield 28, 3) := by decide +kernel
theorem dX2_takeTurn_42 : decode cX2_takeTurn 42 = .ok (.bipush 6, 2) := by decide +kernel
theorem dX2_takeTurn_44 : decode cX2_takeTurn 44 = .ok (.aload_n 1, 1) := by decide +kernel
theorem dX2_takeTurn_45 : decode cX2_takeTurn 45 = .ok (.aload_n 1, 1) := by decide +kernel
theorem dX2_takeTurn_46 : decode cX2_takeTurn 46 = .ok (.iload_n 2, 1) := by decide +kernel
theorem dX2_takeTurn_47 : decode cX2_takeTurn 47 = .ok (.invokevirtual 54, 3) := by decide +kernel
theorem dX2_takeTurn_50 : decode cX2_takeTurn 50 = .ok (.invokevirtual 57, 3) := by decide +kernel
theorem dX2_takeTurn_53 : decode cX2_takeTurn 53 = .ok (.invokevirtual 47, 3) := by decide +kernel
theorem dX2_takeTurn_56 : decode cX2_takeTurn 56 = .ok (.aload_n 0, 1) := by decide +kernel
theorem dX2_takeTurn_57 : decode cX2_takeTurn 57 = .ok (.getfield 28, 3) := by decide +kernel
theorem dX2_takeTurn_60 : decode cX2_takeTurn 60 = .ok (.iconst 1, 1) := by decide +kernel
theorem dX2_takeTurn_61 : decode cX2_takeTurn 61 = .ok (.iconst 0, 1) := by decide +kernel
theorem dX2_takeTurn_62 : decode cX2_takeTurn 62 = .ok (.invokevirtual 47, 3) := by decide +kernel
theorem dX2_takeTurn_65 : decode cX2_takeTurn 65 = .ok (.aload_n 0, 1) := by decide +kernel
theorem dX2_takeTurn_66 : decode cX2_takeTurn 66 = .ok (.getfield 28, 3) := by decide +kernel
theorem dX2_takeTurn_69 : decode cX2_takeTurn 69 = .ok (.iconst 2, 1) := by decide +kernel
theorem dX2_takeTurn_70 : decode cX2_takeTurn 70 = .ok (.iconst 0, 1) := by decide +kernel
theorem dX2_takeTurn_71 : decode cX2_takeTurn 71 = .ok (.invokevirtual 47, 3) := by decide +kernel
theorem dX2_takeTurn_74 : decode cX2_takeTurn 74 = .ok (.aload_n 0, 1) := by decide +kernel
theorem dX2_takeTurn_75 : decode cX2_takeTurn 75 = .ok (.getfield 28, 3) := by decide +kernel
theorem dX2_takeTurn_78 : decode cX2_takeTurn 78 = .ok (.iconst 3, 1) := by decide +kernel
theorem dX2_takeTurn_79 : decode cX2_takeTurn 79 = .ok (.iconst 0, 1) := by decide +kernel
theorem dX2_takeTurn_80 : decode cX2_takeTurn 80 = .ok (.invokevirtual 47, 3) := by decide +kernel
theorem dX2_takeTurn_83 : decode cX2_takeTurn 83 = .ok (.aload_n 0, 1) := by decide +kernel
theorem dX2_takeTurn_84 : decode cX2_takeTurn 84 = .ok (.getfield 28, 3) := by decide +kernel
theorem dX2_takeTurn_87 : decode cX2_takeTurn 87 = .ok (.iconst 4, 1) := by decide +kernel
theorem dX2_takeTurn_88 : decode cX2_takeTurn 88 = .ok (.iconst 0, 1) := by decide +kernel
theorem dX2_takeTurn_89 : decode cX2_takeTurn 89 = .ok (.invokevirtual 47, 3) := by decide +kernel
theorem dX2_takeTurn_92 : decode cX2_takeTurn 92 = .ok (.aload_n 0, 1) := by decide +kernel
theorem dX2_takeTurn_93 : decode cX2_takeTurn 93 = .ok (.getfield 28, 3) := by decide +kernel
theorem dX2_takeTurn_96 : decode cX2_takeTurn 96 = .ok (.invokevirtual 60, 3) := by decide +kernel
theorem dX2_takeTurn_99 : decode cX2_takeTurn 99 = .ok (.ifCond .eq 9, 3) := by decide +kernel
theorem dX2_takeTurn_102 : decode cX2_takeTurn 102 = .ok (.aload_n 1, 1) := by decide +kernel
theorem dX2_takeTurn_103 : decode cX2_takeTurn 103 = .ok (.iload_n 2, 1) := by decide +kernel
theorem dX2_takeTurn_104 : decode cX2_takeTurn 104 = .ok (.invokevirtual 64, 3) := by decide +kernel
theorem dX2_takeTurn_107 : decode cX2_takeTurn 107 = .ok (.return_, 1) := by decide +kernel
theorem dX2_takeTurn_108 : decode cX2_takeTurn 108 = .ok (.aload_n 0, 1) := by decide +kernel
theorem dX2_takeTurn_109 : decode cX2_takeTurn 109 = .ok (.getfield 28, 3) := by decide +kernel
theorem dX2_takeTurn_112 : decode cX2_takeTurn 112 = .ok (.bipush 114, 2) := by decide +kernel
theorem dX2_takeTurn_114 : decode cX2_takeTurn 114 = .ok (.bipush 10, 2) := by decide +kernel
theorem dX2_takeTurn_116 : decode cX2_takeTurn 116 = .ok (.invokevirtual 68, 3) := by decide +kernel
theorem dX2_takeTurn_119 : decode cX2_takeTurn 119 = .ok (.istore_n 3, 1) := by decide +kernel
theorem dX2_takeTurn_120 : decode cX2_takeTurn 120 = .ok (.aload_n 1, 1) := by decide +kernel
theorem dX2_takeTurn_121 : decode cX2_takeTurn 121 = .ok (.invokevirtual 72, 3) := by decide +kernel
theorem dX2_takeTurn_124 : decode cX2_takeTurn 124 = .ok (.iload_n 3, 1) := by decide +kernel
theorem dX2_takeTurn_125 : decode cX2_takeTurn 125 = .ok (.if_icmp .lt 12, 3) := by decide +kernel
theorem dX2_takeTurn_128 : decode cX2_takeTurn 128 = .ok (.aload_n 0, 1) := by decide +kernel
theorem dX2_takeTurn_129 : decode cX2_takeTurn 129 = .ok (.aload_n 1, 1) := by decide +kernel
theorem dX2_takeTurn_130 : decode cX2_takeTurn 130 = .ok (.iload_n 2, 1) := by decide +kernel
theorem dX2_takeTurn_131 : decode cX2_takeTurn 131 = .ok (.invokevirtual 76, 3) := by decide +kernel
theorem dX2_takeTurn_134 : decode cX2_takeTurn 134 = .ok (.ifCond .ne 8, 3) := by decide +kernel
theorem dX2_takeTurn_137 : decode cX2_takeTurn 137 = .ok (.aload_n 1, 1) := by decide +kernel
theorem dX2_takeTurn_138 : decode cX2_takeTurn 138 = .ok (.iload_n 2, 1) := by decide +kernel
theorem dX2_takeTurn_139 : decode cX2_takeTurn 139 = .ok (.invokevirtual 80, 3) := by decide +kernel
theorem dX2_takeTurn_142 : decode cX2_takeTurn 142 = .ok (.return_, 1) := by decide +kernel
theorem dX2_follow_0 : decode cX2_follow 0 = .ok (.aload_n 0, 1) := by decide +kernel
theorem dX2_follow_1 : decode cX2_follow 1 = .ok (.iconst 0, 1) := by decide +kernel
theorem dX2_follow_2 : decode cX2_follow 2 = .ok (.putfield 9, 3) := by decide +kernel
theorem dX2_follow_5 : decode cX2_follow 5 = .ok (.iconst 0, 1) := by decide +kernel
theorem dX2_follow_6 : decode cX2_follow 6 = .ok (.istore_n 3, 1) := by decide +kernel
theorem dX2_follow_7 : decode cX2_follow 7 = .ok (.iload_n 3, 1) := by decide +kernel
theorem dX2_follow_8 : decode cX2_follow 8 = .ok (.bipush 8, 2) := by decide +kernel
theorem dX2_follow_10 : decode cX2_follow 10 = .ok (.if_icmp .ge 16, 3) := by decide +kernel
theorem dX2_follow_13 : decode cX2_follow 13 = .ok (.aload_n 0, 1) := by decide +kernel
theorem dX2_follow_14 : decode cX2_follow 14 = .ok (.aload_n 1, 1) := by decide +kernel
theorem dX2_follow_15 : decode cX2_follow 15 = .ok (.iload_n 2, 1) := by decide +kernel
theorem dX2_follow_16 : decode cX2_follow 16 = .ok (.iload_n 3, 1) := by decide +kernel
theorem dX2_follow_17 : decode cX2_follow 17 = .ok (.invokevirtual 83, 3) := by decide +kernel
theorem dX2_follow_20 : decode cX2_follow 20 = .ok (.iinc 3 1, 3) := by decide +kernel
theorem dX2_follow_23 : decode cX2_follow 23 = .ok (.goto (-16), 3) := by decide +kernel
theorem dX2_follow_26 : decode cX2_follow 26 = .ok (.aload_n 0, 1) := by decide +kernel
theorem dX2_follow_27 : decode cX2_follow 27 = .ok (.getfield 24, 3) := by decide +kernel
theorem dX2_follow_30 : decode cX2_follow 30 = .ok (.aload_n 0, 1) := by decide +kernel
theorem dX2_follow_31 : decode cX2_follow 31 = .ok (.getfield 21, 3) := by decide +kernel
theorem dX2_follow_34 : decode cX2_follow 34 = .ok (.invokevirtual 87, 3) := by decide +kernel
theorem dX2_follow_37 : decode cX2_follow 37 = .ok (.astore_n 3, 1) := by decide +kernel
theorem dX2_follow_38 : decode cX2_follow 38 = .ok (.aload_n 0, 1) := by decide +kernel
theorem dX2_follow_39 : decode cX2_follow 39 = .ok (.getfield 9, 3) := by decide +kernel
theorem dX2_follow_42 : decode cX2_follow 42 = .ok (.ifCond .le 7, 3) := by decide +kernel
theorem dX2_follow_45 : decode cX2_follow 45 = .ok (.aload_n 3, 1) := by decide +kernel
theorem dX2_follow_46 : decode cX2_follow 46 = .ok (.ifnonnull 5, 3) := by decide +kernel
theorem dX2_follow_49 : decode cX2_follow 49 = .ok (.iconst 0, 1) := by decide +kernel
theorem dX2_follow_50 : decode cX2_follow 50 = .ok (.ireturn, 1) := by decide +kernel
theorem dX2_follow_51 : decode cX2_follow 51 = .ok (.aload_n 0, 1) := by decide +kernel
theorem dX2_follow_52 : decode cX2_follow 52 = .ok (.getfield 15, 3) := by decide +kernel
theorem dX2_follow_55 : decode cX2_follow 55 = .ok (.aload_n 3, 1) := by decide +kernel
theorem dX2_follow_56 : decode cX2_follow 56 = .ok (.getfield 93, 3) := by decide +kernel
theorem dX2_follow_59 : decode cX2_follow 59 = .ok (.if_icmp .ne 7, 3) := by decide +kernel
theorem dX2_follow_62 : decode cX2_follow 62 = .ok (.iconst 1, 1) := by decide +kernel
theorem dX2_follow_63 : decode cX2_follow 63 = .ok (.goto 4, 3) := by decide +kernel
theorem dX2_follow_66 : decode cX2_follow 66 = .ok (.iconst 0, 1) := by decide +kernel
theorem dX2_follow_67 : decode cX2_follow 67 = .ok (.istore 4, 2) := by decide +kernel
theorem dX2_follow_69 : decode cX2_follow 69 = .ok (.aload_n 1, 1) := by decide +kernel
theorem dX2_follow_70 : decode cX2_follow 70 = .ok (.iload_n 2, 1) := by decide +kernel
theorem dX2_follow_71 : decode cX2_follow 71 = .ok (.aload_n 3, 1) := by decide +kernel
theorem dX2_follow_72 : decode cX2_follow 72 = .ok (.aload_n 0, 1) := by decide +kernel
theorem dX2_follow_73 : decode cX2_follow 73 = .ok (.getfield 15, 3) := by decide +kernel
theorem dX2_follow_76 : decode cX2_follow 76 = .ok (.invokevirtual 98, 3) := by decide +kernel
theorem dX2_follow_79 : decode cX2_follow 79 = .ok (.aload_n 0, 1) := by decide +kernel
theorem dX2_follow_80 : decode cX2_follow 80 = .ok (.getfield 15, 3) := by decide +kernel
theorem dX2_follow_83 : decode cX2_follow 83 = .ok (.iload 4, 2) := by decide +kernel
theorem dX2_follow_85 : decode cX2_follow 85 = .ok (.invokevirtual 101, 3) := by decide +kernel
theorem dX2_follow_88 : decode cX2_follow 88 = .ok (.iconst 1, 1) := by decide +kernel
theorem dX2_follow_89 : decode cX2_follow 89 = .ok (.ireturn, 1) := by decide +kernel
theorem dX2_weigh_0 : decode cX2_weigh 0 = .ok (.aload_n 0, 1) := by decide +kernel
theorem dX2_weigh_1 : decode cX2_weigh 1 = .ok (.getfield 24, 3) := by decide +kernel
theorem dX2_weigh_4 : decode cX2_weigh 4 = .ok (.iload_n 3, 1) := by decide +kernel
theorem dX2_weigh_5 : decode cX2_weigh 5 = .ok (.invokevirtual 87, 3) := by decide +kernel
theorem dX2_weigh_8 : decode cX2_weigh 8 = .ok (.astore 4, 2) := by decide +kernel
theorem dX2_weigh_10 : decode cX2_weigh 10 = .ok (.aload 4, 2) := by decide +kernel
theorem dX2_weigh_12 : decode cX2_weigh 12 = .ok (.ifnonnull 4, 3) := by decide +kernel
theorem dX2_weigh_15 : decode cX2_weigh 15 = .ok (.return_, 1) := by decide +kernel
theorem dX2_weigh_16 : decode cX2_weigh 16 = .ok (.aload_n 1, 1) := by decide +kernel
theorem dX2_weigh_17 : decode cX2_weigh 17 = .ok (.iload_n 2, 1) := by decide +kernel
theorem dX2_weigh_18 : decode cX2_weigh 18 = .ok (.invokevirtual 54, 3) := by decide +kernel
theorem dX2_weigh_21 : decode cX2_weigh 21 = .ok (.istore 5, 2) := by decide +kernel
theorem dX2_weigh_23 : decode cX2_weigh 23 = .ok (.aload 4, 2) := by decide +kernel
theorem dX2_weigh_25 : decode cX2_weigh 25 = .ok (.invokevirtual 105, 3) := by decide +kernel
theorem dX2_weigh_28 : decode cX2_weigh 28 = .ok (.aload_n 1, 1) := by decide +kernel
theorem dX2_weigh_29 : decode cX2_weigh 29 = .ok (.getfield 42, 3) := by decide +kernel
theorem dX2_weigh_32 : decode cX2_weigh 32 = .ok (.invokestatic 108, 3) := by decide +kernel
theorem dX2_weigh_35 : decode cX2_weigh 35 = .ok (.aload_n 1, 1) := by decide +kernel
theorem dX2_weigh_36 : decode cX2_weigh 36 = .ok (.iload_n 2, 1) := by decide +kernel
theorem dX2_weigh_37 : decode cX2_weigh 37 = .ok (.invokevirtual 113, 3) := by decide +kernel
theorem dX2_weigh_40 : decode cX2_weigh 40 = .ok (.iconst 1, 1) := by decide +kernel
theorem dX2_weigh_41 : decode cX2_weigh 41 = .ok (.isub, 1) := by decide +kernel
theorem dX2_weigh_42 : decode cX2_weigh 42 = .ok (.invokestatic 108, 3) := by decide +kernel
theorem dX2_weigh_45 : decode cX2_weigh 45 = .ok (.istore 6, 2) := by decide +kernel
theorem dX2_weigh_47 : decode cX2_weigh 47 = .ok (.iload 6, 2) := by decide +kernel
theorem dX2_weigh_49 : decode cX2_weigh 49 = .ok (.istore 7, 2) := by decide +kernel
theorem dX2_weigh_51 : decode cX2_weigh 51 = .ok (.iload 7, 2) := by decide +kernel
theorem dX2_weigh_53 : decode cX2_weigh 53 = .ok (.aload 4, 2) := by decide +kernel
theorem dX2_weigh_55 : decode cX2_weigh 55 = .ok (.getfield 93, 3) := by decide +kernel
theorem dX2_weigh_58 : decode cX2_weigh 58 = .ok (.if_icmp .lt 187, 3) := by decide +kernel
theorem dX2_weigh_61 : decode cX2_weigh 61 = .ok (.aload_n 0, 1) := by decide +kernel
theorem dX2_weigh_62 : decode cX2_weigh 62 = .ok (.getfield 24, 3) := by decide +kernel
theorem dX2_weigh_65 : decode cX2_weigh 65 = .ok (.iload 7, 2) := by decide +kernel
theorem dX2_weigh_67 : decode cX2_weigh 67 = .ok (.aload_n 1, 1) := by decide +kernel
theorem dX2_weigh_68 : decode cX2_weigh 68 = .ok (.getfield 42, 3) := by decide +kernel
theorem dX2_weigh_71 : decode cX2_weigh 71 = .ok (.invokevirtual 116, 3) := by decide +kernel
theorem dX2_weigh_74 : decode cX2_weigh 74 = .ok (.istore 8, 2) := by decide +kernel
theorem dX2_weigh_76 : decode cX2_weigh 76 = .ok (.iload 8, 2) := by decide +kernel
theorem dX2_weigh_78 : decode cX2_weigh 78 = .ok (.ifCond .gt 4, 3) := by decide +kernel
theorem dX2_weigh_81 : decode cX2_weigh 81 = .ok (.return_, 1) := by decide +kernel
theorem dX2_weigh_82 : decode cX2_weigh 82 = .ok (.aload 4, 2) := by decide +kernel
theorem dX2_weigh_84 : decode cX2_weigh 84 = .ok (.iload 7, 2) := by decide +kernel
theorem dX2_weigh_86 : decode cX2_weigh 86 = .ok (.invokevirtual 98, 3) := by decide +kernel
theorem dX2_weigh_89 : decode cX2_weigh 89 = .ok (.istore 9, 2) := by decide +kernel
theorem dX2_weigh_91 : decode cX2_weigh 91 = .ok (.iload 5, 2) := by decide +kernel
theorem dX2_weigh_93 : decode cX2_weigh 93 = .ok (.iload 9, 2) := by decide +kernel
theorem dX2_weigh_95 : decode cX2_weigh 95 = .ok (.invokestatic 119, 3) := by decide +kernel
theorem dX2_weigh_98 : decode cX2_weigh 98 = .ok (.istore 10, 2) := by decide +kernel
theorem dX2_weigh_100 : decode cX2_weigh 100 = .ok (.iload 10, 2) := by decide +kernel
theorem dX2_weigh_102 : decode cX2_weigh 102 = .ok (.iconst (-1), 1) := by decide +kernel
theorem dX2_weigh_103 : decode cX2_weigh 103 = .ok (.if_icmp .eq 136, 3) := by decide +kernel
theorem dX2_weigh_106 : decode cX2_weigh 106 = .ok (.aload_n 0, 1) := by decide +kernel
theorem dX2_weigh_107 : decode cX2_weigh 107 = .ok (.getfield 24, 3) := by decide +kernel
theorem dX2_weigh_110 : decode cX2_weigh 110 = .ok (.getfield 122, 3) := by decide +kernel
theorem dX2_weigh_113 : decode cX2_weigh 113 = .ok (.iload 9, 2) := by decide +kernel
theorem dX2_weigh_115 : decode cX2_weigh 115 = .ok (.invokevirtual 126, 3) := by decide +kernel
theorem dX2_weigh_118 : decode cX2_weigh 118 = .ok (.ifCond .eq 6, 3) := by decide +kernel
theorem dX2_weigh_121 : decode cX2_weigh 121 = .ok (.goto 118, 3) := by decide +kernel
theorem dX2_weigh_124 : decode cX2_weigh 124 = .ok (.aload_n 0, 1) := by decide +kernel
theorem dX2_weigh_125 : decode cX2_weigh 125 = .ok (.getfield 28, 3) := by decide +kernel
theorem dX2_weigh_128 : decode cX2_weigh 128 = .ok (.iconst 1, 1) := by decide +kernel
theorem dX2_weigh_129 : decode cX2_weigh 129 = .ok (.iload_n 3, 1) := by decide +kernel
theorem dX2_weigh_130 : decode cX2_weigh 130 = .ok (.invokevirtual 47, 3) := by decide +kernel
theorem dX2_weigh_133 : decode cX2_weigh 133 = .ok (.aload_n 0, 1) := by decide +kernel
theorem dX2_weigh_134 : decode cX2_weigh 134 = .ok (.getfield 28, 3) := by decide +kernel
theorem dX2_weigh_137 : decode cX2_weigh 137 = .ok (.iconst 2, 1) := by decide +kernel
theorem dX2_weigh_138 : decode cX2_weigh 138 = .ok (.aload_n 1, 1) := by decide +kernel
theorem dX2_weigh_139 : decode cX2_weigh 139 = .ok (.getfield 42, 3) := by decide +kernel
theorem dX2_weigh_142 : decode cX2_weigh 142 = .ok (.iload 7, 2) := by decide +kernel
theorem dX2_weigh_144 : decode cX2_weigh 144 = .ok (.isub, 1) := by decide +kernel
theorem dX2_weigh_145 : decode cX2_weigh 145 = .ok (.invokevirtual 47, 3) := by decide +kernel
theorem dX2_weigh_148 : decode cX2_weigh 148 = .ok (.aload_n 0, 1) := by decide +kernel
theorem dX2_weigh_149 : decode cX2_weigh 149 = .ok (.getfield 28, 3) := by decide +kernel
theorem dX2_weigh_152 : decode cX2_weigh 152 = .ok (.iconst 3, 1) := by decide +kernel
theorem dX2_weigh_153 : decode cX2_weigh 153 = .ok (.iload 8, 2) := by decide +kernel
theorem dX2_weigh_155 : decode cX2_weigh 155 = .ok (.invokevirtual 47, 3) := by decide +kernel
theorem dX2_weigh_158 : decode cX2_weigh 158 = .ok (.aload_n 0, 1) := by decide +kernel
theorem dX2_weigh_159 : decode cX2_weigh 159 = .ok (.getfield 28, 3) := by decide +kernel
theorem dX2_weigh_162 : decode cX2_weigh 162 = .ok (.iconst 4, 1) := by decide +kernel
theorem dX2_weigh_163 : decode cX2_weigh 163 = .ok (.aload_n 1, 1) := by decide +kernel
theorem dX2_weigh_164 : decode cX2_weigh 164 = .ok (.iload_n 2, 1) := by decide +kernel
theorem dX2_weigh_165 : decode cX2_weigh 165 = .ok (.invokevirtual 113, 3) := by decide +kernel
theorem dX2_weigh_168 : decode cX2_weigh 168 = .ok (.iload 7, 2) := by decide +kernel
theorem dX2_weigh_170 : decode cX2_weigh 170 = .ok (.isub, 1) := by decide +kernel
theorem dX2_weigh_171 : decode cX2_weigh 171 = .ok (.invokevirtual 47, 3) := by decide +kernel
theorem dX2_weigh_174 : decode cX2_weigh 174 = .ok (.aload_n 0, 1) := by decide +kernel
theorem dX2_weigh_175 : decode cX2_weigh 175 = .ok (.getfield 28, 3) := by decide +kernel
theorem dX2_weigh_178 : decode cX2_weigh 178 = .ok (.bipush 6, 2) := by decide +kernel
theorem dX2_weigh_180 : decode cX2_weigh 180 = .ok (.aload_n 1, 1) := by decide +kernel
theorem dX2_weigh_181 : decode cX2_weigh 181 = .ok (.iload 9, 2) := by decide +kernel
theorem dX2_weigh_183 : decode cX2_weigh 183 = .ok (.invokevirtual 57, 3) := by decide +kernel
theorem dX2_weigh_186 : decode cX2_weigh 186 = .ok (.invokevirtual 47, 3) := by decide +kernel
theorem dX2_weigh_189 : decode cX2_weigh 189 = .ok (.aload_n 0, 1) := by decide +kernel
theorem dX2_weigh_190 : decode cX2_weigh 190 = .ok (.getfield 28, 3) := by decide +kernel
theorem dX2_weigh_193 : decode cX2_weigh 193 = .ok (.bipush 101, 2) := by decide +kernel
theorem dX2_weigh_195 : decode cX2_weigh 195 = .ok (.sipush 9999, 3) := by decide +kernel
theorem dX2_weigh_198 : decode cX2_weigh 198 = .ok (.invokevirtual 68, 3) := by decide +kernel
theorem dX2_weigh_201 : decode cX2_weigh 201 = .ok (.istore 11, 2) := by decide +kernel
theorem dX2_weigh_203 : decode cX2_weigh 203 = .ok (.aload_n 0, 1) := by decide +kernel
theorem dX2_weigh_204 : decode cX2_weigh 204 = .ok (.iload 11, 2) := by decide +kernel
theorem dX2_weigh_206 : decode cX2_weigh 206 = .ok (.iload 7, 2) := by decide +kernel
theorem dX2_weigh_208 : decode cX2_weigh 208 = .ok (.iload 10, 2) := by decide +kernel
theorem dX2_weigh_210 : decode cX2_weigh 210 = .ok (.invokevirtual 132, 3) := by decide +kernel
theorem dX2_weigh_213 : decode cX2_weigh 213 = .ok (.ifCond .eq 26, 3) := by decide +kernel
theorem dX2_weigh_216 : decode cX2_weigh 216 = .ok (.aload_n 0, 1) := by decide +kernel
theorem dX2_weigh_217 : decode cX2_weigh 217 = .ok (.iload 11, 2) := by decide +kernel
theorem dX2_weigh_219 : decode cX2_weigh 219 = .ok (.putfield 9, 3) := by decide +kernel
theorem dX2_weigh_222 : decode cX2_weigh 222 = .ok (.aload_n 0, 1) := by decide +kernel
theorem dX2_weigh_223 : decode cX2_weigh 223 = .ok (.iload 7, 2) := by decide +kernel
theorem dX2_weigh_225 : decode cX2_weigh 225 = .ok (.putfield 15, 3) := by decide +kernel
theorem dX2_weigh_228 : decode cX2_weigh 228 = .ok (.aload_n 0, 1) := by decide +kernel
theorem dX2_weigh_229 : decode cX2_weigh 229 = .ok (.iload 10, 2) := by decide +kernel
theorem dX2_weigh_231 : decode cX2_weigh 231 = .ok (.putfield 18, 3) := by decide +kernel
theorem dX2_weigh_234 : decode cX2_weigh 234 = .ok (.aload_n 0, 1) := by decide +kernel
theorem dX2_weigh_235 : decode cX2_weigh 235 = .ok (.iload_n 3, 1) := by decide +kernel
theorem dX2_weigh_236 : decode cX2_weigh 236 = .ok (.putfield 21, 3) := by decide +kernel
theorem dX2_weigh_239 : decode cX2_weigh 239 = .ok (.iinc 7 (-1), 3) := by decide +kernel
theorem dX2_weigh_242 : decode cX2_weigh 242 = .ok (.goto (-191), 3) := by decide +kernel
theorem dX2_weigh_245 : decode cX2_weigh 245 = .ok (.return_, 1) := by decide +kernel
theorem dX2_isBetter_0 : decode cX2_isBetter 0 = .ok (.iload_n 1, 1) := by decide +kernel
theorem dX2_isBetter_1 : decode cX2_isBetter 1 = .ok (.aload_n 0, 1) := by decide +kernel
theorem dX2_isBetter_2 : decode cX2_isBetter 2 = .ok (.getfield 9, 3) := by decide +kernel
theorem dX2_isBetter_5 : decode cX2_isBetter 5 = .ok (.if_icmp .ne 7, 3) := by decide +kernel
theorem dX2_isBetter_8 : decode cX2_isBetter 8 = .ok (.iload_n 1, 1) := by decide +kernel
theorem dX2_isBetter_9 : decode cX2_isBetter 9 = .ok (.ifCond .ne 17, 3) := by decide +kernel
theorem dX2_isBetter_12 : decode cX2_isBetter 12 = .ok (.iload_n 1, 1) := by decide +kernel
theorem dX2_isBetter_13 : decode cX2_isBetter 13 = .ok (.aload_n 0, 1) := by decide +kernel
theorem dX2_isBetter_14 : decode cX2_isBetter 14 = .ok (.getfield 9, 3) := by decide +kernel
theorem dX2_isBetter_17 : decode cX2_isBetter 17 = .ok (.if_icmp .le 7, 3) := by decide +kernel
theorem dX2_isBetter_20 : decode cX2_isBetter 20 = .ok (.iconst 1, 1) := by decide +kernel
theorem dX2_isBetter_21 : decode cX2_isBetter 21 = .ok (.goto 4, 3) := by decide +kernel
theorem dX2_isBetter_24 : decode cX2_isBetter 24 = .ok (.iconst 0, 1) := by decide +kernel
theorem dX2_isBetter_25 : decode cX2_isBetter 25 = .ok (.ireturn, 1) := by decide +kernel
theorem dX2_isBetter_26 : decode cX2_isBetter 26 = .ok (.iload_n 2, 1) := by decide +kernel
theorem dX2_isBetter_27 : decode cX2_isBetter 27 = .ok (.aload_n 0, 1) := by decide +kernel
theorem dX2_isBetter_28 : decode cX2_isBetter 28 = .ok (.getfield 15, 3) := by decide +kernel
theorem dX2_isBetter_31 : decode cX2_isBetter 31 = .ok (.if_icmp .gt 19, 3) := by decide +kernel
theorem dX2_isBetter_34 : decode cX2_isBetter 34 = .ok (.iload_n 2, 1) := by decide +kernel
theorem dX2_isBetter_35 : decode cX2_isBetter 35 = .ok (.aload_n 0, 1) := by decide +kernel
theorem dX2_isBetter_36 : decode cX2_isBetter 36 = .ok (.getfield 15, 3) := by decide +kernel
theorem dX2_isBetter_39 : decode cX2_isBetter 39 = .ok (.if_icmp .ne 15, 3) := by decide +kernel
theorem dX2_isBetter_42 : decode cX2_isBetter 42 = .ok (.iload_n 3, 1) := by decide +kernel
theorem dX2_isBetter_43 : decode cX2_isBetter 43 = .ok (.aload_n 0, 1) := by decide +kernel
theorem dX2_isBetter_44 : decode cX2_isBetter 44 = .ok (.getfield 18, 3) := by decide +kernel
theorem dX2_isBetter_47 : decode cX2_isBetter 47 = .ok (.if_icmp .ge 7, 3) := by decide +kernel
theorem dX2_isBetter_50 : decode cX2_isBetter 50 = .ok (.iconst 1, 1) := by decide +kernel
theorem dX2_isBetter_51 : decode cX2_isBetter 51 = .ok (.goto 4, 3) := by decide +kernel
theorem dX2_isBetter_54 : decode cX2_isBetter 54 = .ok (.iconst 0, 1) := by decide +kernel
theorem dX2_isBetter_55 : decode cX2_isBetter 55 = .ok (.ireturn, 1) := by decide +kernel
theorem dX3_init_0 : decode cX3_init 0 = .ok (.aload_n 0, 1) := by decide +kernel
theorem dX3_init_1 : decode cX3_init 1 = .ok (.invokespecial 3, 3) := by decide +kernel
theorem dX3_init_4 : decode cX3_init 4 = .ok (.aload_n 0, 1) := by decide +kernel
theorem dX3_init_5 : decode cX3_init 5 = .ok (.sipush 192, 3) := by decide +kernel
theorem dX3_init_8 : decode cX3_init 8 = .ok (.newarray .int, 2) := by decide +kernel
theorem dX3_init_10 : decode cX3_init 10 = .ok (.putfield 9, 3) := by decide +kernel
theorem dX3_init_13 : decode cX3_init 13 = .ok (.aload_n 0, 1) := by decide +kernel
theorem dX3_init_14 : decode cX3_init 14 = .ok (.sipush 192, 3) := by decide +kernel
theorem dX3_init_17 : decode cX3_init 17 = .ok (.newarray .int, 2) := by decide +kernel
theorem dX3_init_19 : decode cX3_init 19 = .ok (.putfield 15, 3) := by decide +kernel
theorem dX3_init_22 : decode cX3_init 22 = .ok (.aload_n 0, 1) := by decide +kernel
theorem dX3_init_23 : decode cX3_init 23 = .ok (.iconst 0, 1) := by decide +kernel
theorem dX3_init_24 : decode cX3_init 24 = .ok (.putfield 18, 3) := by decide +kernel
theorem dX3_init_27 : decode cX3_init 27 = .ok (.return_, 1) := by decide +kernel
theorem dX3_clear_0 : decode cX3_clear 0 = .ok (.aload_n 0, 1) := by decide +kernel
theorem dX3_clear_1 : decode cX3_clear 1 = .ok (.getfield 9, 3) := by decide +kernel
theorem dX3_clear_4 : decode cX3_clear 4 = .ok (.iconst 0, 1) := by decide +kernel
theorem dX3_clear_5 : decode cX3_clear 5 = .ok (.invokestatic 22, 3) := by decide +kernel
theorem dX3_clear_8 : decode cX3_clear 8 = .ok (.aload_n 0, 1) := by decide +kernel
theorem dX3_clear_9 : decode cX3_clear 9 = .ok (.getfield 15, 3) := by decide +kernel
theorem dX3_clear_12 : decode cX3_clear 12 = .ok (.iconst 0, 1) := by decide +kernel
theorem dX3_clear_13 : decode cX3_clear 13 = .ok (.invokestatic 22, 3) := by decide +kernel
theorem dX3_clear_16 : decode cX3_clear 16 = .ok (.aload_n 0, 1) := by decide +kernel
theorem dX3_clear_17 : decode cX3_clear 17 = .ok (.iconst 0, 1) := by decide +kernel
theorem dX3_clear_18 : decode cX3_clear 18 = .ok (.putfield 18, 3) := by decide +kernel
theorem dX3_clear_21 : decode cX3_clear 21 = .ok (.return_, 1) := by decide +kernel
theorem dX3_copyFrom_0 : decode cX3_copyFrom 0 = .ok (.aload_n 1, 1) := by decide +kernel
theorem dX3_copyFrom_1 : decode cX3_copyFrom 1 = .ok (.getfield 9, 3) := by decide +kernel
theorem dX3_copyFrom_4 : decode cX3_copyFrom 4 = .ok (.iconst 0, 1) := by decide +kernel
theorem dX3_copyFrom_5 : decode cX3_copyFrom 5 = .ok (.aload_n 0, 1) := by decide +kernel
theorem dX3_copyFrom_6 : decode cX3_copyFrom 6 = .ok (.getfield 9, 3) := by decide +kernel
theorem dX3_copyFrom_9 : decode cX3_copyFrom 9 = .ok (.iconst 0, 1) := by decide +kernel
theorem dX3_copyFrom_10 : decode cX3_copyFrom 10 = .ok (.sipush 192, 3) := by decide +kernel
theorem dX3_copyFrom_13 : decode cX3_copyFrom 13 = .ok (.invokestatic 28, 3) := by decide +kernel
theorem dX3_copyFrom_16 : decode cX3_copyFrom 16 = .ok (.aload_n 1, 1) := by decide +kernel
theorem dX3_copyFrom_17 : decode cX3_copyFrom 17 = .ok (.getfield 15, 3) := by decide +kernel
theorem dX3_copyFrom_20 : decode cX3_copyFrom 20 = .ok (.iconst 0, 1) := by decide +kernel
theorem dX3_copyFrom_21 : decode cX3_copyFrom 21 = .ok (.aload_n 0, 1) := by decide +kernel
theorem dX3_copyFrom_22 : decode cX3_copyFrom 22 = .ok (.getfield 15, 3) := by decide +kernel
theorem dX3_copyFrom_25 : decode cX3_copyFrom 25 = .ok (.iconst 0, 1) := by decide +kernel
theorem dX3_copyFrom_26 : decode cX3_copyFrom 26 = .ok (.sipush 192, 3) := by decide +kernel
theorem dX3_copyFrom_29 : decode cX3_copyFrom 29 = .ok (.invokestatic 28, 3) := by decide +kernel
theorem dX3_copyFrom_32 : decode cX3_copyFrom 32 = .ok (.aload_n 0, 1) := by decide +kernel
theorem dX3_copyFrom_33 : decode cX3_copyFrom 33 = .ok (.aload_n 1, 1) := by decide +kernel
theorem dX3_copyFrom_34 : decode cX3_copyFrom 34 = .ok (.getfield 18, 3) := by decide +kernel
theorem dX3_copyFrom_37 : decode cX3_copyFrom 37 = .ok (.putfield 18, 3) := by decide +kernel
theorem dX3_copyFrom_40 : decode cX3_copyFrom 40 = .ok (.return_, 1) := by decide +kernel
theorem dX3_cover_0 : decode cX3_cover 0 = .ok (.iload_n 1, 1) := by decide +kernel
theorem dX3_cover_1 : decode cX3_cover 1 = .ok (.invokestatic 34, 3) := by decide +kernel
theorem dX3_cover_4 : decode cX3_cover 4 = .ok (.ifCond .eq 17, 3) := by decide +kernel
theorem dX3_cover_7 : decode cX3_cover 7 = .ok (.aload_n 0, 1) := by decide +kernel
theorem dX3_cover_8 : decode cX3_cover 8 = .ok (.getfield 9, 3) := by decide +kernel
theorem dX3_cover_11 : decode cX3_cover 11 = .ok (.iload_n 1, 1) := by decide +kernel
theorem dX3_cover_12 : decode cX3_cover 12 = .ok (.iload_n 2, 1) := by decide +kernel
theorem dX3_cover_13 : decode cX3_cover 13 = .ok (.iastore, 1) := by decide +kernel
theorem dX3_cover_14 : decode cX3_cover 14 = .ok (.aload_n 0, 1) := by decide +kernel
theorem dX3_cover_15 : decode cX3_cover 15 = .ok (.getfield 15, 3) := by decide +kernel
theorem dX3_cover_18 : decode cX3_cover 18 = .ok (.iload_n 1, 1) := by decide +kernel
theorem dX3_cover_19 : decode cX3_cover 19 = .ok (.iload_n 3, 1) := by decide +kernel
theorem dX3_cover_20 : decode cX3_cover 20 = .ok (.iastore, 1) := by decide +kernel
theorem dX3_cover_21 : decode cX3_cover 21 = .ok (.return_, 1) := by decide +kernel
theorem dX3_kindAt_0 : decode cX3_kindAt 0 = .ok (.iload_n 1, 1) := by decide +kernel
theorem dX3_kindAt_1 : decode cX3_kindAt 1 = .ok (.invokestatic 34, 3) := by decide +kernel
theorem dX3_kindAt_4 : decode cX3_kindAt 4 = .ok (.ifCond .eq 12, 3) := by decide +kernel
theorem dX3_kindAt_7 : decode cX3_kindAt 7 = .ok (.aload_n 0, 1) := by decide +kernel
theorem dX3_kindAt_8 : decode cX3_kindAt 8 = .ok (.getfield 9, 3) := by decide +kernel
theorem dX3_kindAt_11 : decode cX3_kindAt 11 = .ok (.iload_n 1, 1) := by decide +kernel
theorem dX3_kindAt_12 : decode cX3_kindAt 12 = .ok (.iaload, 1) := by decide +kernel
theorem dX3_kindAt_13 : decode cX3_kindAt 13 = .ok (.goto 4, 3) := by decide +kernel
theorem dX3_kindAt_16 : decode cX3_kindAt 16 = .ok (.iconst 0, 1) := by decide +kernel
theorem dX3_kindAt_17 : decode cX3_kindAt 17 = .ok (.ireturn, 1) := by decide +kernel
theorem dX3_penceAt_0 : decode cX3_penceAt 0 = .ok (.iload_n 1, 1) := by decide +kernel
theorem dX3_penceAt_1 : decode cX3_penceAt 1 = .ok (.invokestatic 34, 3) := by decide +kernel
theorem dX3_penceAt_4 : decode cX3_penceAt 4 = .ok (.ifCond .eq 12, 3) := by decide +kernel
theorem dX3_penceAt_7 : decode cX3_penceAt 7 = .ok (.aload_n 0, 1) := by decide +kernel
theorem dX3_penceAt_8 : decode cX3_penceAt 8 = .ok (.getfield 15, 3) := by decide +kernel
theorem dX3_penceAt_11 : decode cX3_penceAt 11 = .ok (.iload_n 1, 1) := by decide +kernel
theorem dX3_penceAt_12 : decode cX3_penceAt 12 = .ok (.iaload, 1) := by decide +kernel
theorem dX3_penceAt_13 : decode cX3_penceAt 13 = .ok (.goto 4, 3) := by decide +kernel
theorem dX3_penceAt_16 : decode cX3_penceAt 16 = .ok (.iconst 0, 1) := by decide +kernel
theorem dX3_penceAt_17 : decode cX3_penceAt 17 = .ok (.ireturn, 1) := by decide +kernel
theorem dX3_isWater_0 : decode cX3_isWater 0 = .ok (.aload_n 0, 1) := by decide +kernel
theorem dX3_isWater_1 : decode cX3_isWater 1 = .ok (.iload_n 1, 1) := by decide +kernel
theorem dX3_isWater_2 : decode cX3_isWater 2 = .ok (.invokevirtual 38, 3) := by decide +kernel
theorem dX3_isWater_5 : decode cX3_isWater 5 = .ok (.iconst 1, 1) := by decide +kernel
theorem dX3_isWater_6 : decode cX3_isWater 6 = .ok (.if_icmp .ne 7, 3) := by decide +kernel
theorem dX3_isWater_9 : decode cX3_isWater 9 = .ok (.iconst 1, 1) := by decide +kernel
theorem dX3_isWater_10 : decode cX3_isWater 10 = .ok (.goto 4, 3) := by decide +kernel
theorem dX3_isWater_13 : decode cX3_isWater 13 = .ok (.iconst 0, 1) := by decide +kernel
theorem dX3_isWater_14 : decode cX3_isWater 14 = .ok (.ireturn, 1) := by decide +kernel
theorem dX4_init_0 : decode cX4_init 0 = .ok (.aload_n 0, 1) := by decide +kernel
theorem dX4_init_1 : decode cX4_init 1 = .ok (.invokespecial 3, 3) := by decide +kernel
theorem dX4_init_4 : decode cX4_init 4 = .ok (.aload_n 0, 1) := by decide +kernel
theorem dX4_init_5 : decode cX4_init 5 = .ok (.new 9, 3) := by decide +kernel
theorem dX4_init_8 : decode cX4_init 8 = .ok (.dup, 1) := by decide +kernel
theorem dX4_init_9 : decode cX4_init 9 = .ok (.invokespecial 11, 3) := by decide +kernel
theorem dX4_init_12 : decode cX4_init 12 = .ok (.putfield 12, 3) := by decide +kernel
theorem dX4_init_15 : decode cX4_init 15 = .ok (.aload_n 0, 1) := by decide +kernel
theorem dX4_init_16 : decode cX4_init 16 = .ok (.aload_n 1, 1) := by decide +kernel
theorem dX4_init_17 : decode cX4_init 17 = .ok (.putfield 18, 3) := by decide +kernel
theorem dX4_init_20 : decode cX4_init 20 = .ok (.return_, 1) := by decide +kernel
theorem dX4_read_0 : decode cX4_read 0 = .ok (.aload_n 0, 1) := by decide +kernel
theorem dX4_read_1 : decode cX4_read 1 = .ok (.getfield 12, 3) := by decide +kernel
theorem dX4_read_4 : decode cX4_read 4 = .ok (.invokevirtual 22, 3) := by decide +kernel
theorem dX4_read_7 : decode cX4_read 7 = .ok (.iconst 0, 1) := by decide +kernel
theorem dX4_read_8 : decode cX4_read 8 = .ok (.istore_n 1, 1) := by decide +kernel
theorem dX4_read_9 : decode cX4_read 9 = .ok (.iload_n 1, 1) := by decide +kernel
theorem dX4_read_10 : decode cX4_read 10 = .ok (.bipush 12, 2) := by decide +kernel
theorem dX4_read_12 : decode cX4_read 12 = .ok (.if_icmp .gt 34, 3) := by decide +kernel
theorem dX4_read_15 : decode cX4_read 15 = .ok (.aload_n 0, 1) := by decide +kernel
theorem dX4_read_16 : decode cX4_read 16 = .ok (.invokevirtual 25, 3) := by decide +kernel
theorem dX4_read_19 : decode cX4_read 19 = .ok (.aload_n 0, 1) := by decide +kernel
theorem dX4_read_20 : decode cX4_read 20 = .ok (.getfield 18, 3) := by decide +kernel
theorem dX4_read_23 : decode cX4_read 23 = .ok (.iconst (-1), 1) := by decide +kernel
theorem dX4_read_24 : decode cX4_read 24 = .ok (.invokevirtual 30, 3) := by decide +kernel
theorem dX4_read_27 : decode cX4_read 27 = .ok (.ifCond .eq 4, 3) := by decide +kernel
theorem dX4_read_30 : decode cX4_read 30 = .ok (.return_, 1) := by decide +kernel
theorem dX4_read_31 : decode cX4_read 31 = .ok (.aload_n 0, 1) := by decide +kernel
theorem dX4_read_32 : decode cX4_read 32 = .ok (.getfield 18, 3) := by decide +kernel
theorem dX4_read_35 : decode cX4_read 35 = .ok (.bipush 59, 2) := by decide +kernel
theorem dX4_read_37 : decode cX4_read 37 = .ok (.invokevirtual 34, 3) := by decide +kernel
theorem dX4_read_40 : decode cX4_read 40 = .ok (.iinc 1 1, 3) := by decide +kernel
theorem dX4_read_43 : decode cX4_read 43 = .ok (.goto (-34), 3) := by decide +kernel
theorem dX4_read_46 : decode cX4_read 46 = .ok (.return_, 1) := by decide +kernel
theorem dX4_readOne_0 : decode cX4_readOne 0 = .ok (.aload_n 0, 1) := by decide +kernel
theorem dX4_readOne_1 : decode cX4_readOne 1 = .ok (.getfield 18, 3) := by decide +kernel
theorem dX4_readOne_4 : decode cX4_readOne 4 = .ok (.invokevirtual 38, 3) := by decide +kernel
theorem dX4_readOne_7 : decode cX4_readOne 7 = .ok (.invokestatic 42, 3) := by decide +kernel
theorem dX4_readOne_10 : decode cX4_readOne 10 = .ok (.istore_n 1, 1) := by decide +kernel
theorem dX4_readOne_11 : decode cX4_readOne 11 = .ok (.iload_n 1, 1) := by decide +kernel
theorem dX4_readOne_12 : decode cX4_readOne 12 = .ok (.ifCond .ne 14, 3) := by decide +kernel
theorem dX4_readOne_15 : decode cX4_readOne 15 = .ok (.aload_n 0, 1) := by decide +kernel
theorem dX4_readOne_16 : decode cX4_readOne 16 = .ok (.getfield 18, 3) := by decide +kernel
theorem dX4_readOne_19 : decode cX4_readOne 19 = .ok (.iconst 1, 1) := by decide +kernel
theorem dX4_readOne_20 : decode cX4_readOne 20 = .ok (.invokevirtual 46, 3) := by decide +kernel
theorem dX4_readOne_23 : decode cX4_readOne 23 = .ok (.goto 51, 3) := by decide +kernel
theorem dX4_readOne_26 : decode cX4_readOne 26 = .ok (.aload_n 0, 1) := by decide +kernel
theorem dX4_readOne_27 : decode cX4_readOne 27 = .ok (.getfield 12, 3) := by decide +kernel
theorem dX4_readOne_30 : decode cX4_readOne 30 = .ok (.getfield 49, 3) := by decide +kernel
theorem dX4_readOne_33 : decode cX4_readOne 33 = .ok (.bipush 12, 2) := by decide +kernel
theorem dX4_readOne_35 : decode cX4_readOne 35 = .ok (.if_icmp .lt 14, 3) := by decide +kernel
theorem dX4_readOne_38 : decode cX4_readOne 38 = .ok (.aload_n 0, 1) := by decide +kernel
theorem dX4_readOne_39 : decode cX4_readOne 39 = .ok (.getfield 18, 3) := by decide +kernel
theorem dX4_readOne_42 : decode cX4_readOne 42 = .ok (.iconst 4, 1) := by decide +kernel
theorem dX4_readOne_43 : decode cX4_readOne 43 = .ok (.invokevirtual 46, 3) := by decide +kernel
theorem dX4_readOne_46 : decode cX4_readOne 46 = .ok (.goto 28, 3) := by decide +kernel
theorem dX4_readOne_49 : decode cX4_readOne 49 = .ok (.aload_n 0, 1) := by decide +kernel
theorem dX4_readOne_50 : decode cX4_readOne 50 = .ok (.getfield 18, 3) := by decide +kernel
theorem dX4_readOne_53 : decode cX4_readOne 53 = .ok (.invokevirtual 53, 3) := by decide +kernel
theorem dX4_readOne_56 : decode cX4_readOne 56 = .ok (.aload_n 0, 1) := by decide +kernel
theorem dX4_readOne_57 : decode cX4_readOne 57 = .ok (.getfield 12, 3) := by decide +kernel
theorem dX4_readOne_60 : decode cX4_readOne 60 = .ok (.dup, 1) := by decide +kernel
theorem dX4_readOne_61 : decode cX4_readOne 61 = .ok (.getfield 49, 3) := by decide +kernel
theorem dX4_readOne_64 : decode cX4_readOne 64 = .ok (.iconst 1, 1) := by decide +kernel
theorem dX4_readOne_65 : decode cX4_readOne 65 = .ok (.iadd, 1) := by decide +kernel
theorem dX4_readOne_66 : decode cX4_readOne 66 = .ok (.putfield 49, 3) := by decide +kernel
theorem dX4_readOne_69 : decode cX4_readOne 69 = .ok (.aload_n 0, 1) := by decide +kernel
theorem dX4_readOne_70 : decode cX4_readOne 70 = .ok (.iload_n 1, 1) := by decide +kernel
theorem dX4_readOne_71 : decode cX4_readOne 71 = .ok (.invokevirtual 56, 3) := by decide +kernel
theorem dX4_readOne_74 : decode cX4_readOne 74 = .ok (.return_, 1) := by decide +kernel
theorem dX4_readPlaces_0 : decode cX4_readPlaces 0 = .ok (.aload_n 0, 1) := by decide +kernel
theorem dX4_readPlaces_1 : decode cX4_readPlaces 1 = .ok (.iconst 0, 1) := by decide +kernel
theorem dX4_readPlaces_2 : decode cX4_readPlaces 2 = .ok (.bipush 15, 2) := by decide +kernel
theorem dX4_readPlaces_4 : decode cX4_readPlaces 4 = .ok (.invokevirtual 59, 3) := by decide +kernel
theorem dX4_readPlaces_7 : decode cX4_readPlaces 7 = .ok (.istore_n 2, 1) := by decide +kernel
theorem dX4_readPlaces_8 : decode cX4_readPlaces 8 = .ok (.aload_n 0, 1) := by decide +kernel
theorem dX4_readPlaces_9 : decode cX4_readPlaces 9 = .ok (.getfield 18, 3) := by decide +kernel
theorem dX4_readPlaces_12 : decode cX4_readPlaces 12 = .ok (.bipush 44, 2) := by decide +kernel
theorem dX4_readPlaces_14 : decode cX4_readPlaces 14 = .ok (.invokevirtual 34, 3) := by decide +kernel
theorem dX4_readPlaces_17 : decode cX4_readPlaces 17 = .ok (.aload_n 0, 1) := by decide +kernel
theorem dX4_readPlaces_18 : decode cX4_readPlaces 18 = .ok (.iconst 0, 1) := by decide +kernel
theorem dX4_readPlaces_19 : decode cX4_readPlaces 19 = .ok (.bipush 11, 2) := by decide +kernel
theorem dX4_readPlaces_21 : decode cX4_readPlaces 21 = .ok (.invokevirtual 59, 3) := by decide +kernel
theorem dX4_readPlaces_24 : decode cX4_readPlaces 24 = .ok (.istore_n 3, 1) := by decide +kernel
theorem dX4_readPlaces_25 : decode cX4_readPlaces 25 = .ok (.aload_n 0, 1) := by decide +kernel
theorem dX4_readPlaces_26 : decode cX4_readPlaces 26 = .ok (.getfield 18, 3) := by decide +kernel
theorem dX4_readPlaces_29 : decode cX4_readPlaces 29 = .ok (.bipush 58, 2) := by decide +kernel
theorem dX4_readPlaces_31 : decode cX4_readPlaces 31 = .ok (.invokevirtual 34, 3) := by decide +kernel
theorem dX4_readPlaces_34 : decode cX4_readPlaces 34 = .ok (.aload_n 0, 1) := by decide +kernel
theorem dX4_readPlaces_35 : decode cX4_readPlaces 35 = .ok (.iconst 1, 1) := by decide +kernel
theorem dX4_readPlaces_36 : decode cX4_readPlaces 36 = .ok (.bipush 16, 2) := by decide +kernel
theorem dX4_readPlaces_38 : decode cX4_readPlaces 38 = .ok (.iload_n 2, 1) := by decide +kernel
theorem dX4_readPlaces_39 : decode cX4_readPlaces 39 = .ok (.isub, 1) := by decide +kernel
theorem dX4_readPlaces_40 : decode cX4_readPlaces 40 = .ok (.invokevirtual 59, 3) := by decide +kernel
theorem dX4_readPlaces_43 : decode cX4_readPlaces 43 = .ok (.istore 4, 2) := by decide +kernel
theorem dX4_readPlaces_45 : decode cX4_readPlaces 45 = .ok (.aload_n 0, 1) := by decide +kernel
theorem dX4_readPlaces_46 : decode cX4_readPlaces 46 = .ok (.getfield 18, 3) := by decide +kernel
theorem dX4_readPlaces_49 : decode cX4_readPlaces 49 = .ok (.bipush 120, 2) := by decide +kernel
theorem dX4_readPlaces_51 : decode cX4_readPlaces 51 = .ok (.invokevirtual 34, 3) := by decide +kernel
theorem dX4_readPlaces_54 : decode cX4_readPlaces 54 = .ok (.aload_n 0, 1) := by decide +kernel
theorem dX4_readPlaces_55 : decode cX4_readPlaces 55 = .ok (.iconst 1, 1) := by decide +kernel
theorem dX4_readPlaces_56 : decode cX4_readPlaces 56 = .ok (.bipush 12, 2) := by decide +kernel
theorem dX4_readPlaces_58 : decode cX4_readPlaces 58 = .ok (.iload_n 3, 1) := by decide +kernel
theorem dX4_readPlaces_59 : decode cX4_readPlaces 59 = .ok (.isub, 1) := by decide +kernel
theorem dX4_readPlaces_60 : decode cX4_readPlaces 60 = .ok (.invokevirtual 59, 3) := by decide +kernel
theorem dX4_readPlaces_63 : decode cX4_readPlaces 63 = .ok (.istore 5, 2) := by decide +kernel
theorem dX4_readPlaces_65 : decode cX4_readPlaces 65 = .ok (.iload_n 1, 1) := by decide +kernel
theorem dX4_readPlaces_66 : decode cX4_readPlaces 66 = .ok (.iconst 1, 1) := by decide +kernel
theorem dX4_readPlaces_67 : decode cX4_readPlaces 67 = .ok (.if_icmp .ne 7, 3) := by decide +kernel
theorem dX4_readPlaces_70 : decode cX4_readPlaces 70 = .ok (.iconst 0, 1) := by decide +kernel
theorem dX4_readPlaces_71 : decode cX4_readPlaces 71 = .ok (.goto 7, 3) := by decide +kernel
theorem dX4_readPlaces_74 : decode cX4_readPlaces 74 = .ok (.aload_n 0, 1) := by decide +kernel
theorem dX4_readPlaces_75 : decode cX4_readPlaces 75 = .ok (.invokevirtual 63, 3) := by decide +kernel
theorem dX4_readPlaces_78 : decode cX4_readPlaces 78 = .ok (.istore 6, 2) := by decide +kernel
theorem dX4_readPlaces_80 : decode cX4_readPlaces 80 = .ok (.aload_n 0, 1) := by decide +kernel
theorem dX4_readPlaces_81 : decode cX4_readPlaces 81 = .ok (.getfield 18, 3) := by decide +kernel
theorem dX4_readPlaces_84 : decode cX4_readPlaces 84 = .ok (.invokevirtual 66, 3) := by decide +kernel
theorem dX4_readPlaces_87 : decode cX4_readPlaces 87 = .ok (.ifCond .ne 4, 3) := by decide +kernel
theorem dX4_readPlaces_90 : decode cX4_readPlaces 90 = .ok (.return_, 1) := by decide +kernel
theorem dX4_readPlaces_91 : decode cX4_readPlaces 91 = .ok (.iconst 0, 1) := by decide +kernel
theorem dX4_readPlaces_92 : decode cX4_readPlaces 92 = .ok (.istore 7, 2) := by decide +kernel
theorem dX4_readPlaces_94 : decode cX4_readPlaces 94 = .ok (.iload 7, 2) := by decide +kernel
theorem dX4_readPlaces_96 : decode cX4_readPlaces 96 = .ok (.iload 5, 2) := by decide +kernel
theorem dX4_readPlaces_98 : decode cX4_readPlaces 98 = .ok (.if_icmp .ge 46, 3) := by decide +kernel
theorem dX4_readPlaces_101 : decode cX4_readPlaces 101 = .ok (.iconst 0, 1) := by decide +kernel
theorem dX4_readPlaces_102 : decode cX4_readPlaces 102 = .ok (.istore 8, 2) := by decide +kernel
theorem dX4_readPlaces_104 : decode cX4_readPlaces 104 = .ok (.iload 8, 2) := by decide +kernel
theorem dX4_readPlaces_106 : decode cX4_readPlaces 106 = .ok (.iload 4, 2) := by decide +kernel
theorem dX4_readPlaces_108 : decode cX4_readPlaces 108 = .ok (.if_icmp .ge 30, 3) := by decide +kernel
theorem dX4_readPlaces_111 : decode cX4_readPlaces 111 = .ok (.aload_n 0, 1) := by decide +kernel
theorem dX4_readPlaces_112 : decode cX4_readPlaces 112 = .ok (.getfield 12, 3) := by decide +kernel
theorem dX4_readPlaces_115 : decode cX4_readPlaces 115 = .ok (.iload_n 2, 1) := by decide +kernel
theorem dX4_readPlaces_116 : decode cX4_readPlaces 116 = .ok (.iload 8, 2) := by decide +kernel
theorem dX4_readPlaces_118 : decode cX4_readPlaces 118 = .ok (.iadd, 1) := by decide +kernel
theorem dX4_readPlaces_119 : decode cX4_readPlaces 119 = .ok (.iload_n 3, 1) := by decide +kernel
theorem dX4_readPlaces_120 : decode cX4_readPlaces 120 = .ok (.iload 7, 2) := by decide +kernel
theorem dX4_readPlaces_122 : decode cX4_readPlaces 122 = .ok (.iadd, 1) := by decide +kernel
theorem dX4_readPlaces_123 : decode cX4_readPlaces 123 = .ok (.invokestatic 70, 3) := by decide +kernel
theorem dX4_readPlaces_126 : decode cX4_readPlaces 126 = .ok (.iload_n 1, 1) := by decide +kernel
theorem dX4_readPlaces_127 : decode cX4_readPlaces 127 = .ok (.iload 6, 2) := by decide +kernel
theorem dX4_readPlaces_129 : decode cX4_readPlaces 129 = .ok (.invokevirtual 73, 3) := by decide +kernel
theorem dX4_readPlaces_132 : decode cX4_readPlaces 132 = .ok (.iinc 8 1, 3) := by decide +kernel
theorem dX4_readPlaces_135 : decode cX4_readPlaces 135 = .ok (.goto (-31), 3) := by decide +kernel
theorem dX4_readPlaces_138 : decode cX4_readPlaces 138 = .ok (.iinc 7 1, 3) := by decide +kernel
theorem dX4_readPlaces_141 : decode cX4_readPlaces 141 = .ok (.goto (-47), 3) := by decide +kernel
theorem dX4_readPlaces_144 : decode cX4_readPlaces 144 = .ok (.return_, 1) := by decide +kernel
theorem dX4_readBounded_0 : decode cX4_readBounded 0 = .ok (.aload_n 0, 1) := by decide +kernel
theorem dX4_readBounded_1 : decode cX4_readBounded 1 = .ok (.getfield 18, 3) := by decide +kernel
theorem dX4_readBounded_4 : decode cX4_readBounded 4 = .ok (.getfield 77, 3) := by decide +kernel
theorem dX4_readBounded_7 : decode cX4_readBounded 7 = .ok (.istore_n 3, 1) := by decide +kernel
theorem dX4_readBounded_8 : decode cX4_readBounded 8 = .ok (.aload_n 0, 1) := by decide +kernel
theorem dX4_readBounded_9 : decode cX4_readBounded 9 = .ok (.getfield 18, 3) := by decide +kernel
theorem dX4_readBounded_12 : decode cX4_readBounded 12 = .ok (.iconst 2, 1) := by decide +kernel
theorem dX4_readBounded_13 : decode cX4_readBounded 13 = .ok (.invokevirtual 80, 3) := by decide +kernel
theorem dX4_readBounded_16 : decode cX4_readBounded 16 = .ok (.istore 4, 2) := by decide +kernel
theorem dX4_readBounded_18 : decode cX4_readBounded 18 = .ok (.iload 4, 2) := by decide +kernel
theorem dX4_readBounded_20 : decode cX4_readBounded 20 = .ok (.iload_n 1, 1) := by decide +kernel
theorem dX4_readBounded_21 : decode cX4_readBounded 21 = .ok (.if_icmp .lt 9, 3) := by decide +kernel
theorem dX4_readBounded_24 : decode cX4_readBounded 24 = .ok (.iload 4, 2) := by decide +kernel
theorem dX4_readBounded_26 : decode cX4_readBounded 26 = .ok (.iload_n 2, 1) := by decide +kernel
theorem dX4_readBounded_27 : decode cX4_readBounded 27 = .ok (.if_icmp .le 12, 3) := by decide +kernel
theorem dX4_readBounded_30 : decode cX4_readBounded 30 = .ok (.aload_n 0, 1) := by decide +kernel
theorem dX4_readBounded_31 : decode cX4_readBounded 31 = .ok (.getfield 18, 3) := by decide +kernel
theorem dX4_readBounded_34 : decode cX4_readBounded 34 = .ok (.iconst 3, 1) := by decide +kernel
theorem dX4_readBounded_35 : decode cX4_readBounded 35 = .ok (.iload_n 3, 1) := by decide +kernel
theorem dX4_readBounded_36 : decode cX4_readBounded 36 = .ok (.invokevirtual 83, 3) := by decide +kernel
theorem dX4_readBounded_39 : decode cX4_readBounded 39 = .ok (.iload 4, 2) := by decide +kernel
theorem dX4_readBounded_41 : decode cX4_readBounded 41 = .ok (.ireturn, 1) := by decide +kernel
theorem dX4_readCharge_0 : decode cX4_readCharge 0 = .ok (.aload_n 0, 1) := by decide +kernel
theorem dX4_readCharge_1 : decode cX4_readCharge 1 = .ok (.getfield 18, 3) := by decide +kernel
theorem dX4_readCharge_4 : decode cX4_readCharge 4 = .ok (.bipush 61, 2) := by decide +kernel
theorem dX4_readCharge_6 : decode cX4_readCharge 6 = .ok (.invokevirtual 34, 3) := by decide +kernel
theorem dX4_readCharge_9 : decode cX4_readCharge 9 = .ok (.aload_n 0, 1) := by decide +kernel
theorem dX4_readCharge_10 : decode cX4_readCharge 10 = .ok (.getfield 18, 3) := by decide +kernel
theorem dX4_readCharge_13 : decode cX4_readCharge 13 = .ok (.iconst 2, 1) := by decide +kernel
theorem dX4_readCharge_14 : decode cX4_readCharge 14 = .ok (.invokevirtual 80, 3) := by decide +kernel
theorem dX4_readCharge_17 : decode cX4_readCharge 17 = .ok (.ireturn, 1) := by decide +kernel
theorem dX4_kindOf_0 : decode cX4_kindOf 0 = .ok (.iload_n 0, 1) := by decide +kernel
theorem dX4_kindOf_1 : decode cX4_kindOf 1 = .ok (.bipush 126, 2) := by decide +kernel
theorem dX4_kindOf_3 : decode cX4_kindOf 3 = .ok (.if_icmp .ne 5, 3) := by decide +kernel
theorem dX4_kindOf_6 : decode cX4_kindOf 6 = .ok (.iconst 1, 1) := by decide +kernel
theorem dX4_kindOf_7 : decode cX4_kindOf 7 = .ok (.ireturn, 1) := by decide +kernel
theorem dX4_kindOf_8 : decode cX4_kindOf 8 = .ok (.iload_n 0, 1) := by decide +kernel
theorem dX4_kindOf_9 : decode cX4_kindOf 9 = .ok (.bipush 97, 2) := by decide +kernel
theorem dX4_kindOf_11 : decode cX4_kindOf 11 = .ok (.if_icmp .lt 18, 3) := by decide +kernel
theorem dX4_kindOf_14 : decode cX4_kindOf 14 = .ok (.iload_n 0, 1) := by decide +kernel
theorem dX4_kindOf_15 : decode cX4_kindOf 15 = .ok (.bipush 104, 2) := by decide +kernel
theorem dX4_kindOf_17 : decode cX4_kindOf 17 = .ok (.if_icmp .gt 12, 3) := by decide +kernel
theorem dX4_kindOf_20 : decode cX4_kindOf 20 = .ok (.iconst 2, 1) := by decide +kernel
theorem dX4_kindOf_21 : decode cX4_kindOf 21 = .ok (.iload_n 0, 1) := by decide +kernel
theorem dX4_kindOf_22 : decode cX4_kindOf 22 = .ok (.iadd, 1) := by decide +kernel
theorem dX4_kindOf_23 : decode cX4_kindOf 23 = .ok (.bipush 97, 2) := by decide +kernel
theorem dX4_kindOf_25 : decode cX4_kindOf 25 = .ok (.isub, 1) := by decide +kernel
theorem dX4_kindOf_26 : decode cX4_kindOf 26 = .ok (.goto 4, 3) := by decide +kernel
theorem dX4_kindOf_29 : decode cX4_kindOf 29 = .ok (.iconst 0, 1) := by decide +kernel
theorem dX4_kindOf_30 : decode cX4_kindOf 30 = .ok (.ireturn, 1) := by decide +kernel
theorem dX5_init_0 : decode cX5_init 0 = .ok (.aload_n 0, 1) := by decide +kernel
theorem dX5_init_1 : decode cX5_init 1 = .ok (.invokespecial 3, 3) := by decide +kernel
theorem dX5_init_4 : decode cX5_init 4 = .ok (.aload_n 0, 1) := by decide +kernel
theorem dX5_init_5 : decode cX5_init 5 = .ok (.bipush 16, 2) := by decide +kernel
theorem dX5_init_7 : decode cX5_init 7 = .ok (.newarray .int, 2) := by decide +kernel
theorem dX5_init_9 : decode cX5_init 9 = .ok (.putfield 11, 3) := by decide +kernel
theorem dX5_init_12 : decode cX5_init 12 = .ok (.aload_n 0, 1) := by decide +kernel
theorem dX5_init_13 : decode cX5_init 13 = .ok (.bipush 16, 2) := by decide +kernel
theorem dX5_init_15 : decode cX5_init 15 = .ok (.newarray .int, 2) := by decide +kernel
theorem dX5_init_17 : decode cX5_init 17 = .ok (.putfield 15, 3) := by decide +kernel
theorem dX5_init_20 : decode cX5_init 20 = .ok (.aload_n 0, 1) := by decide +kernel
theorem dX5_init_21 : decode cX5_init 21 = .ok (.bipush 16, 2) := by decide +kernel
theorem dX5_init_23 : decode cX5_init 23 = .ok (.newarray .int, 2) := by decide +kernel
theorem dX5_init_25 : decode cX5_init 25 = .ok (.putfield 18, 3) := by decide +kernel
theorem dX5_init_28 : decode cX5_init 28 = .ok (.aload_n 0, 1) := by decide +kernel
theorem dX5_init_29 : decode cX5_init 29 = .ok (.iconst 0, 1) := by decide +kernel
theorem dX5_init_30 : decode cX5_init 30 = .ok (.putfield 21, 3) := by decide +kernel
theorem dX5_init_33 : decode cX5_init 33 = .ok (.aload_n 0, 1) := by decide +kernel
theorem dX5_init_34 : decode cX5_init 34 = .ok (.sipush 240, 3) := by decide +kernel
theorem dX5_init_37 : decode cX5_init 37 = .ok (.newarray .int, 2) := by decide +kernel
theorem dX5_init_39 : decode cX5_init 39 = .ok (.putfield 25, 3) := by decide +kernel
theorem dX5_init_42 : decode cX5_init 42 = .ok (.aload_n 0, 1) := by decide +kernel
theorem dX5_init_43 : decode cX5_init 43 = .ok (.sipush 240, 3) := by decide +kernel
theorem dX5_init_46 : decode cX5_init 46 = .ok (.newarray .int, 2) := by decide +kernel
theorem dX5_init_48 : decode cX5_init 48 = .ok (.putfield 28, 3) := by decide +kernel
theorem dX5_init_51 : decode cX5_init 51 = .ok (.aload_n 0, 1) := by decide +kernel
theorem dX5_init_52 : decode cX5_init 52 = .ok (.iconst 0, 1) := by decide +kernel
theorem dX5_init_53 : decode cX5_init 53 = .ok (.putfield 31, 3) := by decide +kernel
theorem dX5_init_56 : decode cX5_init 56 = .ok (.aload_n 0, 1) := by decide +kernel
theorem dX5_init_57 : decode cX5_init 57 = .ok (.bipush 8, 2) := by decide +kernel
theorem dX5_init_59 : decode cX5_init 59 = .ok (.newarray .int, 2) := by decide +kernel
theorem dX5_init_61 : decode cX5_init 61 = .ok (.putfield 34, 3) := by decide +kernel
theorem dX5_init_64 : decode cX5_init 64 = .ok (.aload_n 0, 1) := by decide +kernel
theorem dX5_init_65 : decode cX5_init 65 = .ok (.bipush 32, 2) := by decide +kernel
theorem dX5_init_67 : decode cX5_init 67 = .ok (.newarray .int, 2) := by decide +kernel
theorem dX5_init_69 : decode cX5_init 69 = .ok (.putfield 37, 3) := by decide +kernel
theorem dX5_init_72 : decode cX5_init 72 = .ok (.return_, 1) := by decide +kernel
theorem dX5_clear_0 : decode cX5_clear 0 = .ok (.aload_n 0, 1) := by decide +kernel
theorem dX5_clear_1 : decode cX5_clear 1 = .ok (.iconst 0, 1) := by decide +kernel
theorem dX5_clear_2 : decode cX5_clear 2 = .ok (.putfield 21, 3) := by decide +kernel
theorem dX5_clear_5 : decode cX5_clear 5 = .ok (.aload_n 0, 1) := by decide +kernel
theorem dX5_clear_6 : decode cX5_clear 6 = .ok (.iconst 0, 1) := by decide +kernel
theorem dX5_clear_7 : decode cX5_clear 7 = .ok (.putfield 31, 3) := by decide +kernel
theorem dX5_clear_10 : decode cX5_clear 10 = .ok (.return_, 1) := by decide +kernel
theorem dX5_copyFrom_0 : decode cX5_copyFrom 0 = .ok (.aload_n 0, 1) := by decide +kernel
theorem dX5_copyFrom_1 : decode cX5_copyFrom 1 = .ok (.aload_n 1, 1) := by decide +kernel
theorem dX5_copyFrom_2 : decode cX5_copyFrom 2 = .ok (.getfield 21, 3) := by decide +kernel
theorem dX5_copyFrom_5 : decode cX5_copyFrom 5 = .ok (.putfield 21, 3) := by decide +kernel
theorem dX5_copyFrom_8 : decode cX5_copyFrom 8 = .ok (.aload_n 0, 1) := by decide +kernel
theorem dX5_copyFrom_9 : decode cX5_copyFrom 9 = .ok (.aload_n 1, 1) := by decide +kernel
theorem dX5_copyFrom_10 : decode cX5_copyFrom 10 = .ok (.getfield 31, 3) := by decide +kernel
theorem dX5_copyFrom_13 : decode cX5_copyFrom 13 = .ok (.putfield 31, 3) := by decide +kernel
theorem dX5_copyFrom_16 : decode cX5_copyFrom 16 = .ok (.aload_n 1, 1) := by decide +kernel
theorem dX5_copyFrom_17 : decode cX5_copyFrom 17 = .ok (.getfield 11, 3) := by decide +kernel
theorem dX5_copyFrom_20 : decode cX5_copyFrom 20 = .ok (.iconst 0, 1) := by decide +kernel
theorem dX5_copyFrom_21 : decode cX5_copyFrom 21 = .ok (.aload_n 0, 1) := by decide +kernel
theorem dX5_copyFrom_22 : decode cX5_copyFrom 22 = .ok (.getfield 11, 3) := by decide +kernel
theorem dX5_copyFrom_25 : decode cX5_copyFrom 25 = .ok (.iconst 0, 1) := by decide +kernel
theorem dX5_copyFrom_26 : decode cX5_copyFrom 26 = .ok (.bipush 16, 2) := by decide +kernel
theorem dX5_copyFrom_28 : decode cX5_copyFrom 28 = .ok (.invokestatic 40, 3) := by decide +kernel
theorem dX5_copyFrom_31 : decode cX5_copyFrom 31 = .ok (.aload_n 1, 1) := by decide +kernel
theorem dX5_copyFrom_32 : decode cX5_copyFrom 32 = .ok (.getfield 15, 3) := by decide +kernel
theorem dX5_copyFrom_35 : decode cX5_copyFrom 35 = .ok (.iconst 0, 1) := by decide +kernel
theorem dX5_copyFrom_36 : decode cX5_copyFrom 36 = .ok (.aload_n 0, 1) := by decide +kernel
theorem dX5_copyFrom_37 : decode cX5_copyFrom 37 = .ok (.getfield 15, 3) := by decide +kernel
theorem dX5_copyFrom_40 : decode cX5_copyFrom 40 = .ok (.iconst 0, 1) := by decide +kernel
theorem dX5_copyFrom_41 : decode cX5_copyFrom 41 = .ok (.bipush 16, 2) := by decide +kernel
theorem dX5_copyFrom_43 : decode cX5_copyFrom 43 = .ok (.invokestatic 40, 3) := by decide +kernel
theorem dX5_copyFrom_46 : decode cX5_copyFrom 46 = .ok (.aload_n 1, 1) := by decide +kernel
theorem dX5_copyFrom_47 : decode cX5_copyFrom 47 = .ok (.getfield 18, 3) := by decide +kernel
theorem dX5_copyFrom_50 : decode cX5_copyFrom 50 = .ok (.iconst 0, 1) := by decide +kernel
theorem dX5_copyFrom_51 : decode cX5_copyFrom 51 = .ok (.aload_n 0, 1) := by decide +kernel
theorem dX5_copyFrom_52 : decode cX5_copyFrom 52 = .ok (.getfield 18, 3) := by decide +kernel
theorem dX5_copyFrom_55 : decode cX5_copyFrom 55 = .ok (.iconst 0, 1) := by decide +kernel
theorem dX5_copyFrom_56 : decode cX5_copyFrom 56 = .ok (.bipush 16, 2) := by decide +kernel
theorem dX5_copyFrom_58 : decode cX5_copyFrom 58 = .ok (.invokestatic 40, 3) := by decide +kernel
theorem dX5_copyFrom_61 : decode cX5_copyFrom 61 = .ok (.aload_n 1, 1) := by decide +kernel
theorem dX5_copyFrom_62 : decode cX5_copyFrom 62 = .ok (.getfield 25, 3) := by decide +kernel
theorem dX5_copyFrom_65 : decode cX5_copyFrom 65 = .ok (.iconst 0, 1) := by decide +kernel
theorem dX5_copyFrom_66 : decode cX5_copyFrom 66 = .ok (.aload_n 0, 1) := by decide +kernel
theorem dX5_copyFrom_67 : decode cX5_copyFrom 67 = .ok (.getfield 25, 3) := by decide +kernel
theorem dX5_copyFrom_70 : decode cX5_copyFrom 70 = .ok (.iconst 0, 1) := by decide +kernel
theorem dX5_copyFrom_71 : decode cX5_copyFrom 71 = .ok (.sipush 240, 3) := by decide +kernel
theorem dX5_copyFrom_74 : decode cX5_copyFrom 74 = .ok (.invokestatic 40, 3) := by decide +kernel
theorem dX5_copyFrom_77 : decode cX5_copyFrom 77 = .ok (.aload_n 1, 1) := by decide +kernel
theorem dX5_copyFrom_78 : decode cX5_copyFrom 78 = .ok (.getfield 28, 3) := by decide +kernel
theorem dX5_copyFrom_81 : decode cX5_copyFrom 81 = .ok (.iconst 0, 1) := by decide +kernel
theorem dX5_copyFrom_82 : decode cX5_copyFrom 82 = .ok (.aload_n 0, 1) := by decide +kernel
theorem dX5_copyFrom_83 : decode cX5_copyFrom 83 = .ok (.getfield 28, 3) := by decide +kernel
theorem dX5_copyFrom_86 : decode cX5_copyFrom 86 = .ok (.iconst 0, 1) := by decide +kernel
theorem dX5_copyFrom_87 : decode cX5_copyFrom 87 = .ok (.sipush 240, 3) := by decide +kernel
theorem dX5_copyFrom_90 : decode cX5_copyFrom 90 = .ok (.invokestatic 40, 3) := by decide +kernel
theorem dX5_copyFrom_93 : decode cX5_copyFrom 93 = .ok (.return_, 1) := by decide +kernel
theorem dX5_beginWorth_0 : decode cX5_beginWorth 0 = .ok (.aload_n 0, 1) := by decide +kernel
theorem dX5_beginWorth_1 : decode cX5_beginWorth 1 = .ok (.getfield 21, 3) := by decide +kernel
theorem dX5_beginWorth_4 : decode cX5_beginWorth 4 = .ok (.bipush 16, 2) := by decide +kernel
theorem dX5_beginWorth_6 : decode cX5_beginWorth 6 = .ok (.if_icmp .ge 26, 3) := by decide +kernel
theorem dX5_beginWorth_9 : decode cX5_beginWorth 9 = .ok (.aload_n 0, 1) := by decide +kernel
theorem dX5_beginWorth_10 : decode cX5_beginWorth 10 = .ok (.getfield 11, 3) := by decide +kernel
theorem dX5_beginWorth_13 : decode cX5_beginWorth 13 = .ok (.aload_n 0, 1) := by decide +kernel
theorem dX5_beginWorth_14 : decode cX5_beginWorth 14 = .ok (.getfield 21, 3) := by decide +kernel
theorem dX5_beginWorth_17 : decode cX5_beginWorth 17 = .ok (.iload_n 1, 1) := by decide +kernel
theorem dX5_beginWorth_18 : decode cX5_beginWorth 18 = .ok (.iastore, 1) := by decide +kernel
theorem dX5_beginWorth_19 : decode cX5_beginWorth 19 = .ok (.aload_n 0, 1) := by decide +kernel
theorem dX5_beginWorth_20 : decode cX5_beginWorth 20 = .ok (.getfield 15, 3) := by decide +kernel
theorem dX5_beginWorth_23 : decode cX5_beginWorth 23 = .ok (.aload_n 0, 1) := by decide +kernel
theorem dX5_beginWorth_24 : decode cX5_beginWorth 24 = .ok (.getfield 21, 3) := by decide +kernel
theorem dX5_beginWorth_27 : decode cX5_beginWorth 27 = .ok (.aload_n 0, 1) := by decide +kernel
theorem dX5_beginWorth_28 : decode cX5_beginWorth 28 = .ok (.getfield 31, 3) := by decide +kernel
theorem dX5_beginWorth_31 : decode cX5_beginWorth 31 = .ok (.iastore, 1) := by decide +kernel
theorem dX5_beginWorth_32 : decode cX5_beginWorth 32 = .ok (.return_, 1) := by decide +kernel
theorem dX5_beginTest_0 : decode cX5_beginTest 0 = .ok (.aload_n 0, 1) := by decide +kernel
theorem dX5_beginTest_1 : decode cX5_beginTest 1 = .ok (.getfield 21, 3) := by decide +kernel
theorem dX5_beginTest_4 : decode cX5_beginTest 4 = .ok (.bipush 16, 2) := by decide +kernel
theorem dX5_beginTest_6 : decode cX5_beginTest 6 = .ok (.if_icmp .ge 16, 3) := by decide +kernel
theorem dX5_beginTest_9 : decode cX5_beginTest 9 = .ok (.aload_n 0, 1) := by decide +kernel
theorem dX5_beginTest_10 : decode cX5_beginTest 10 = .ok (.getfield 18, 3) := by decide +kernel
theorem dX5_beginTest_13 : decode cX5_beginTest 13 = .ok (.aload_n 0, 1) := by decide +kernel
theorem dX5_beginTest_14 : decode cX5_beginTest 14 = .ok (.getfield 21, 3) := by decide +kernel
theorem dX5_beginTest_17 : decode cX5_beginTest 17 = .ok (.aload_n 0, 1) := by decide +kernel
theorem dX5_beginTest_18 : decode cX5_beginTest 18 = .ok (.getfield 31, 3) := by decide +kernel
theorem dX5_beginTest_21 : decode cX5_beginTest 21 = .ok (.iastore, 1) := by decide +kernel
theorem dX5_beginTest_22 : decode cX5_beginTest 22 = .ok (.return_, 1) := by decide +kernel
theorem dX5_endRule_0 : decode cX5_endRule 0 = .ok (.aload_n 0, 1) := by decide +kernel
theorem dX5_endRule_1 : decode cX5_endRule 1 = .ok (.getfield 21, 3) := by decide +kernel
theorem dX5_endRule_4 : decode cX5_endRule 4 = .ok (.bipush 16, 2) := by decide +kernel
theorem dX5_endRule_6 : decode cX5_endRule 6 = .ok (.if_icmp .ge 13, 3) := by decide +kernel
theorem dX5_endRule_9 : decode cX5_endRule 9 = .ok (.aload_n 0, 1) := by decide +kernel
theorem dX5_endRule_10 : decode cX5_endRule 10 = .ok (.dup, 1) := by decide +kernel
theorem dX5_endRule_11 : decode cX5_endRule 11 = .ok (.getfield 21, 3) := by decide +kernel
theorem dX5_endRule_14 : decode cX5_endRule 14 = .ok (.iconst 1, 1) := by decide +kernel
theorem dX5_endRule_15 : decode cX5_endRule 15 = .ok (.iadd, 1) := by decide +kernel
theorem dX5_endRule_16 : decode cX5_endRule 16 = .ok (.putfield 21, 3) := by decide +kernel
theorem dX5_endRule_19 : decode cX5_endRule 19 = .ok (.return_, 1) := by decide +kernel
theorem dX5_add_0 : decode cX5_add 0 = .ok (.aload_n 0, 1) := by decide +kernel
theorem dX5_add_1 : decode cX5_add 1 = .ok (.getfield 31, 3) := by decide +kernel
theorem dX5_add_4 : decode cX5_add 4 = .ok (.sipush 240, 3) := by decide +kernel
theorem dX5_add_7 : decode cX5_add 7 = .ok (.if_icmp .lt 5, 3) := by decide +kernel
theorem dX5_add_10 : decode cX5_add 10 = .ok (.iconst (-1), 1) := by decide +kernel
theorem dX5_add_11 : decode cX5_add 11 = .ok (.ireturn, 1) := by decide +kernel
theorem dX5_add_12 : decode cX5_add 12 = .ok (.aload_n 0, 1) := by decide +kernel
theorem dX5_add_13 : decode cX5_add 13 = .ok (.getfield 25, 3) := by decide +kernel
theorem dX5_add_16 : decode cX5_add 16 = .ok (.aload_n 0, 1) := by decide +kernel
theorem dX5_add_17 : decode cX5_add 17 = .ok (.getfield 31, 3) := by decide +kernel
theorem dX5_add_20 : decode cX5_add 20 = .ok (.iload_n 1, 1) := by decide +kernel
theorem dX5_add_21 : decode cX5_add 21 = .ok (.iastore, 1) := by decide +kernel
theorem dX5_add_22 : decode cX5_add 22 = .ok (.aload_n 0, 1) := by decide +kernel
theorem dX5_add_23 : decode cX5_add 23 = .ok (.getfield 28, 3) := by decide +kernel
theorem dX5_add_26 : decode cX5_add 26 = .ok (.aload_n 0, 1) := by decide +kernel
theorem dX5_add_27 : decode cX5_add 27 = .ok (.getfield 31, 3) := by decide +kernel
theorem dX5_add_30 : decode cX5_add 30 = .ok (.iload_n 2, 1) := by decide +kernel
theorem dX5_add_31 : decode cX5_add 31 = .ok (.iastore, 1) := by decide +kernel
theorem dX5_add_32 : decode cX5_add 32 = .ok (.aload_n 0, 1) := by decide +kernel
theorem dX5_add_33 : decode cX5_add 33 = .ok (.dup, 1) := by decide +kernel
theorem dX5_add_34 : decode cX5_add 34 = .ok (.getfield 31, 3) := by decide +kernel
theorem dX5_add_37 : decode cX5_add 37 = .ok (.iconst 1, 1) := by decide +kernel
theorem dX5_add_38 : decode cX5_add 38 = .ok (.iadd, 1) := by decide +kernel
theorem dX5_add_39 : decode cX5_add 39 = .ok (.putfield 31, 3) := by decide +kernel
theorem dX5_add_42 : decode cX5_add 42 = .ok (.aload_n 0, 1) := by decide +kernel
theorem dX5_add_43 : decode cX5_add 43 = .ok (.getfield 31, 3) := by decide +kernel
theorem dX5_add_46 : decode cX5_add 46 = .ok (.iconst 1, 1) := by decide +kernel
theorem dX5_add_47 : decode cX5_add 47 = .ok (.isub, 1) := by decide +kernel
theorem dX5_add_48 : decode cX5_add 48 = .ok (.ireturn, 1) := by decide +kernel
theorem dX5_settle_0 : decode cX5_settle 0 = .ok (.iload_n 1, 1) := by decide +kernel
theorem dX5_settle_1 : decode cX5_settle 1 = .ok (.istore_n 2, 1) := by decide +kernel
theorem dX5_settle_2 : decode cX5_settle 2 = .ok (.iconst 0, 1) := by decide +kernel
theorem dX5_settle_3 : decode cX5_settle 3 = .ok (.istore_n 3, 1) := by decide +kernel
theorem dX5_settle_4 : decode cX5_settle 4 = .ok (.iload_n 3, 1) := by decide +kernel
theorem dX5_settle_5 : decode cX5_settle 5 = .ok (.sipush 240, 3) := by decide +kernel
theorem dX5_settle_8 : decode cX5_settle 8 = .ok (.if_icmp .ge 41, 3) := by decide +kernel
theorem dX5_settle_11 : decode cX5_settle 11 = .ok (.iload_n 2, 1) := by decide +kernel
theorem dX5_settle_12 : decode cX5_settle 12 = .ok (.ifCond .lt 37, 3) := by decide +kernel
theorem dX5_settle_15 : decode cX5_settle 15 = .ok (.iload_n 2, 1) := by decide +kernel
theorem dX5_settle_16 : decode cX5_settle 16 = .ok (.sipush 240, 3) := by decide +kernel
theorem dX5_settle_19 : decode cX5_settle 19 = .ok (.if_icmp .ge 30, 3) := by decide +kernel
theorem dX5_settle_22 : decode cX5_settle 22 = .ok (.aload_n 0, 1) := by decide +kernel
theorem dX5_settle_23 : decode cX5_settle 23 = .ok (.getfield 28, 3) := by decide +kernel
theorem dX5_settle_26 : decode cX5_settle 26 = .ok (.iload_n 2, 1) := by decide +kernel
theorem dX5_settle_27 : decode cX5_settle 27 = .ok (.iaload, 1) := by decide +kernel
theorem dX5_settle_28 : decode cX5_settle 28 = .ok (.istore 4, 2) := by decide +kernel
theorem dX5_settle_30 : decode cX5_settle 30 = .ok (.aload_n 0, 1) := by decide +kernel
theorem dX5_settle_31 : decode cX5_settle 31 = .ok (.getfield 28, 3) := by decide +kernel
theorem dX5_settle_34 : decode cX5_settle 34 = .ok (.iload_n 2, 1) := by decide +kernel
theorem dX5_settle_35 : decode cX5_settle 35 = .ok (.aload_n 0, 1) := by decide +kernel
theorem dX5_settle_36 : decode cX5_settle 36 = .ok (.getfield 31, 3) := by decide +kernel
theorem dX5_settle_39 : decode cX5_settle 39 = .ok (.iastore, 1) := by decide +kernel
theorem dX5_settle_40 : decode cX5_settle 40 = .ok (.iload 4, 2) := by decide +kernel
theorem dX5_settle_42 : decode cX5_settle 42 = .ok (.istore_n 2, 1) := by decide +kernel
theorem dX5_settle_43 : decode cX5_settle 43 = .ok (.iinc 3 1, 3) := by decide +kernel
theorem dX5_settle_46 : decode cX5_settle 46 = .ok (.goto (-42), 3) := by decide +kernel
theorem dX5_settle_49 : decode cX5_settle 49 = .ok (.return_, 1) := by decide +kernel
theorem dX5_put_0 : decode cX5_put 0 = .ok (.iload_n 1, 1) := by decide +kernel
theorem dX5_put_1 : decode cX5_put 1 = .ok (.ifCond .lt 16, 3) := by decide +kernel
theorem dX5_put_4 : decode cX5_put 4 = .ok (.iload_n 1, 1) := by decide +kernel
theorem dX5_put_5 : decode cX5_put 5 = .ok (.bipush 8, 2) := by decide +kernel
theorem dX5_put_7 : decode cX5_put 7 = .ok (.if_icmp .ge 10, 3) := by decide +kernel
theorem dX5_put_10 : decode cX5_put 10 = .ok (.aload_n 0, 1) := by decide +kernel
theorem dX5_put_11 : decode cX5_put 11 = .ok (.getfield 34, 3) := by decide +kernel
theorem dX5_put_14 : decode cX5_put 14 = .ok (.iload_n 1, 1) := by decide +kernel
theorem dX5_put_15 : decode cX5_put 15 = .ok (.iload_n 2, 1) := by decide +kernel
theorem dX5_put_16 : decode cX5_put 16 = .ok (.iastore, 1) := by decide +kernel
theorem dX5_put_17 : decode cX5_put 17 = .ok (.return_, 1) := by decide +kernel
theorem dX5_worth_0 : decode cX5_worth 0 = .ok (.iconst 0, 1) := by decide +kernel
theorem dX5_worth_1 : decode cX5_worth 1 = .ok (.istore_n 3, 1) := by decide +kernel
theorem dX5_worth_2 : decode cX5_worth 2 = .ok (.iload_n 3, 1) := by decide +kernel
theorem dX5_worth_3 : decode cX5_worth 3 = .ok (.aload_n 0, 1) := by decide +kernel
theorem dX5_worth_4 : decode cX5_worth 4 = .ok (.getfield 21, 3) := by decide +kernel
theorem dX5_worth_7 : decode cX5_worth 7 = .ok (.if_icmp .ge 57, 3) := by decide +kernel
theorem dX5_worth_10 : decode cX5_worth 10 = .ok (.iload_n 3, 1) := by decide +kernel
theorem dX5_worth_11 : decode cX5_worth 11 = .ok (.bipush 16, 2) := by decide +kernel
theorem dX5_worth_13 : decode cX5_worth 13 = .ok (.if_icmp .ge 51, 3) := by decide +kernel
theorem dX5_worth_16 : decode cX5_worth 16 = .ok (.aload_n 0, 1) := by decide +kernel
theorem dX5_worth_17 : decode cX5_worth 17 = .ok (.getfield 11, 3) := by decide +kernel
theorem dX5_worth_20 : decode cX5_worth 20 = .ok (.iload_n 3, 1) := by decide +kernel
theorem dX5_worth_21 : decode cX5_worth 21 = .ok (.iaload, 1) := by decide +kernel
theorem dX5_worth_22 : decode cX5_worth 22 = .ok (.iload_n 1, 1) := by decide +kernel
theorem dX5_worth_23 : decode cX5_worth 23 = .ok (.if_icmp .ne 35, 3) := by decide +kernel
theorem dX5_worth_26 : decode cX5_worth 26 = .ok (.aload_n 0, 1) := by decide +kernel
theorem dX5_worth_27 : decode cX5_worth 27 = .ok (.aload_n 0, 1) := by decide +kernel
theorem dX5_worth_28 : decode cX5_worth 28 = .ok (.getfield 18, 3) := by decide +kernel
theorem dX5_worth_31 : decode cX5_worth 31 = .ok (.iload_n 3, 1) := by decide +kernel
theorem dX5_worth_32 : decode cX5_worth 32 = .ok (.iaload, 1) := by decide +kernel
theorem dX5_worth_33 : decode cX5_worth 33 = .ok (.invokevirtual 46, 3) := by decide +kernel
theorem dX5_worth_36 : decode cX5_worth 36 = .ok (.ifCond .eq 22, 3) := by decide +kernel
theorem dX5_worth_39 : decode cX5_worth 39 = .ok (.iconst 0, 1) := by decide +kernel
theorem dX5_worth_40 : decode cX5_worth 40 = .ok (.iload_n 2, 1) := by decide +kernel
theorem dX5_worth_41 : decode cX5_worth 41 = .ok (.aload_n 0, 1) := by decide +kernel
theorem dX5_worth_42 : decode cX5_worth 42 = .ok (.aload_n 0, 1) := by decide +kernel
theorem dX5_worth_43 : decode cX5_worth 43 = .ok (.getfield 15, 3) := by decide +kernel
theorem dX5_worth_46 : decode cX5_worth 46 = .ok (.iload_n 3, 1) := by decide +kernel
theorem dX5_worth_47 : decode cX5_worth 47 = .ok (.iaload, 1) := by decide +kernel
theorem dX5_worth_48 : decode cX5_worth 48 = .ok (.invokevirtual 46, 3) := by decide +kernel
theorem dX5_worth_51 : decode cX5_worth 51 = .ok (.invokestatic 50, 3) := by decide +kernel
theorem dX5_worth_54 : decode cX5_worth 54 = .ok (.invokestatic 56, 3) := by decide +kernel
theorem dX5_worth_57 : decode cX5_worth 57 = .ok (.ireturn, 1) := by decide +kernel
theorem dX5_worth_58 : decode cX5_worth 58 = .ok (.iinc 3 1, 3) := by decide +kernel
theorem dX5_worth_61 : decode cX5_worth 61 = .ok (.goto (-59), 3) := by decide +kernel
theorem dX5_worth_64 : decode cX5_worth 64 = .ok (.iconst 0, 1) := by decide +kernel
theorem dX5_worth_65 : decode cX5_worth 65 = .ok (.ireturn, 1) := by decide +kernel
theorem dX5_givesUp_0 : decode cX5_givesUp 0 = .ok (.iconst 0, 1) := by decide +kernel
theorem dX5_givesUp_1 : decode cX5_givesUp 1 = .ok (.istore_n 1, 1) := by decide +kernel
theorem dX5_givesUp_2 : decode cX5_givesUp 2 = .ok (.iload_n 1, 1) := by decide +kernel
theorem dX5_givesUp_3 : decode cX5_givesUp 3 = .ok (.aload_n 0, 1) := by decide +kernel
theorem dX5_givesUp_4 : decode cX5_givesUp 4 = .ok (.getfield 21, 3) := by decide +kernel
theorem dX5_givesUp_7 : decode cX5_givesUp 7 = .ok (.if_icmp .ge 41, 3) := by decide +kernel
theorem dX5_givesUp_10 : decode cX5_givesUp 10 = .ok (.iload_n 1, 1) := by decide +kernel
theorem dX5_givesUp_11 : decode cX5_givesUp 11 = .ok (.bipush 16, 2) := by decide +kernel
theorem dX5_givesUp_13 : decode cX5_givesUp 13 = .ok (.if_icmp .ge 35, 3) := by decide +kernel
theorem dX5_givesUp_16 : decode cX5_givesUp 16 = .ok (.aload_n 0, 1) := by decide +kernel
theorem dX5_givesUp_17 : decode cX5_givesUp 17 = .ok (.getfield 11, 3) := by decide +kernel
theorem dX5_givesUp_20 : decode cX5_givesUp 20 = .ok (.iload_n 1, 1) := by decide +kernel
theorem dX5_givesUp_21 : decode cX5_givesUp 21 = .ok (.iaload, 1) := by decide +kernel
theorem dX5_givesUp_22 : decode cX5_givesUp 22 = .ok (.bipush 120, 2) := by decide +kernel
theorem dX5_givesUp_24 : decode cX5_givesUp 24 = .ok (.if_icmp .ne 18, 3) := by decide +kernel
theorem dX5_givesUp_27 : decode cX5_givesUp 27 = .ok (.aload_n 0, 1) := by decide +kernel
theorem dX5_givesUp_28 : decode cX5_givesUp 28 = .ok (.aload_n 0, 1) := by decide +kernel
theorem dX5_givesUp_29 : decode cX5_givesUp 29 = .ok (.getfield 18, 3) := by decide +kernel
theorem dX5_givesUp_32 : decode cX5_givesUp 32 = .ok (.iload_n 1, 1) := by decide +kernel
theorem dX5_givesUp_33 : decode cX5_givesUp 33 = .ok (.iaload, 1) := by decide +kernel
theorem dX5_givesUp_34 : decode cX5_givesUp 34 = .ok (.invokevirtual 46, 3) := by decide +kernel
theorem dX5_givesUp_37 : decode cX5_givesUp 37 = .ok (.ifCond .eq 5, 3) := by decide +kernel
theorem dX5_givesUp_40 : decode cX5_givesUp 40 = .ok (.iconst 1, 1) := by decide +kernel
theorem dX5_givesUp_41 : decode cX5_givesUp 41 = .ok (.ireturn, 1) := by decide +kernel
theorem dX5_givesUp_42 : decode cX5_givesUp 42 = .ok (.iinc 1 1, 3) := by decide +kernel
theorem dX5_givesUp_45 : decode cX5_givesUp 45 = .ok (.goto (-43), 3) := by decide +kernel
theorem dX5_givesUp_48 : decode cX5_givesUp 48 = .ok (.iconst 0, 1) := by decide +kernel
theorem dX5_givesUp_49 : decode cX5_givesUp 49 = .ok (.ireturn, 1) := by decide +kernel
theorem dX5_run_0 : decode cX5_run 0 = .ok (.iconst 0, 1) := by decide +kernel
theorem dX5_run_1 : decode cX5_run 1 = .ok (.istore_n 2, 1) := by decide +kernel
theorem dX5_run_2 : decode cX5_run 2 = .ok (.iload_n 1, 1) := by decide +kernel
theorem dX5_run_3 : decode cX5_run 3 = .ok (.istore_n 3, 1) := by decide +kernel
theorem dX5_run_4 : decode cX5_run 4 = .ok (.iconst 0, 1) := by decide +kernel
theorem dX5_run_5 : decode cX5_run 5 = .ok (.istore 4, 2) := by decide +kernel
theorem dX5_run_7 : decode cX5_run 7 = .ok (.iload 4, 2) := by decide +kernel
theorem dX5_run_9 : decode cX5_run 9 = .ok (.sipush 240, 3) := by decide +kernel
theorem dX5_run_12 : decode cX5_run 12 = .ok (.if_icmp .ge 246, 3) := by decide +kernel
theorem dX5_run_15 : decode cX5_run 15 = .ok (.iload_n 3, 1) := by decide +kernel
theorem dX5_run_16 : decode cX5_run 16 = .ok (.ifCond .lt 242, 3) := by decide +kernel
theorem dX5_run_19 : decode cX5_run 19 = .ok (.iload_n 3, 1) := by decide +kernel
theorem dX5_run_20 : decode cX5_run 20 = .ok (.aload_n 0, 1) := by decide +kernel
theorem dX5_run_21 : decode cX5_run 21 = .ok (.getfield 31, 3) := by decide +kernel
theorem dX5_run_24 : decode cX5_run 24 = .ok (.if_icmp .ge 234, 3) := by decide +kernel
theorem dX5_run_27 : decode cX5_run 27 = .ok (.iload_n 3, 1) := by decide +kernel
theorem dX5_run_28 : decode cX5_run 28 = .ok (.sipush 240, 3) := by decide +kernel
theorem dX5_run_31 : decode cX5_run 31 = .ok (.if_icmp .ge 227, 3) := by decide +kernel
theorem dX5_run_34 : decode cX5_run 34 = .ok (.aload_n 0, 1) := by decide +kernel
theorem dX5_run_35 : decode cX5_run 35 = .ok (.getfield 25, 3) := by decide +kernel
theorem dX5_run_38 : decode cX5_run 38 = .ok (.iload_n 3, 1) := by decide +kernel
theorem dX5_run_39 : decode cX5_run 39 = .ok (.iaload, 1) := by decide +kernel
theorem dX5_run_40 : decode cX5_run 40 = .ok (.istore 5, 2) := by decide +kernel
theorem dX5_run_42 : decode cX5_run 42 = .ok (.aload_n 0, 1) := by decide +kernel
theorem dX5_run_43 : decode cX5_run 43 = .ok (.getfield 28, 3) := by decide +kernel
theorem dX5_run_46 : decode cX5_run 46 = .ok (.iload_n 3, 1) := by decide +kernel
theorem dX5_run_47 : decode cX5_run 47 = .ok (.iaload, 1) := by decide +kernel
theorem dX5_run_48 : decode cX5_run 48 = .ok (.istore 6, 2) := by decide +kernel
theorem dX5_run_50 : decode cX5_run 50 = .ok (.iinc 3 1, 3) := by decide +kernel
theorem dX5_run_53 : decode cX5_run 53 = .ok (.iload 5, 2) := by decide +kernel
theorem dX5_run_55 : decode cX5_run 55 = .ok (.ifCond .ne 6, 3) := by decide +kernel
theorem dX5_run_58 : decode cX5_run 58 = .ok (.goto 200, 3) := by decide +kernel
theorem dX5_run_61 : decode cX5_run 61 = .ok (.iload 5, 2) := by decide +kernel
theorem dX5_run_63 : decode cX5_run 63 = .ok (.iconst 1, 1) := by decide +kernel
theorem dX5_run_64 : decode cX5_run 64 = .ok (.if_icmp .eq 9, 3) := by decide +kernel
theorem dX5_run_67 : decode cX5_run 67 = .ok (.iload 5, 2) := by decide +kernel
theorem dX5_run_69 : decode cX5_run 69 = .ok (.iconst 2, 1) := by decide +kernel
theorem dX5_run_70 : decode cX5_run 70 = .ok (.if_icmp .ne 40, 3) := by decide +kernel
theorem dX5_run_73 : decode cX5_run 73 = .ok (.iload_n 2, 1) := by decide +kernel
theorem dX5_run_74 : decode cX5_run 74 = .ok (.bipush 32, 2) := by decide +kernel
theorem dX5_run_76 : decode cX5_run 76 = .ok (.if_icmp .lt 5, 3) := by decide +kernel
theorem dX5_run_79 : decode cX5_run 79 = .ok (.iconst 0, 1) := by decide +kernel
theorem dX5_run_80 : decode cX5_run 80 = .ok (.ireturn, 1) := by decide +kernel
theorem dX5_run_81 : decode cX5_run 81 = .ok (.aload_n 0, 1) := by decide +kernel
theorem dX5_run_82 : decode cX5_run 82 = .ok (.getfield 37, 3) := by decide +kernel
theorem dX5_run_85 : decode cX5_run 85 = .ok (.iload_n 2, 1) := by decide +kernel
theorem dX5_run_86 : decode cX5_run 86 = .ok (.iload 5, 2) := by decide +kernel
theorem dX5_run_88 : decode cX5_run 88 = .ok (.iconst 1, 1) := by decide +kernel
theorem dX5_run_89 : decode cX5_run 89 = .ok (.if_icmp .ne 8, 3) := by decide +kernel
theorem dX5_run_92 : decode cX5_run 92 = .ok (.iload 6, 2) := by decide +kernel
theorem dX5_run_94 : decode cX5_run 94 = .ok (.goto 9, 3) := by decide +kernel
theorem dX5_run_97 : decode cX5_run 97 = .ok (.aload_n 0, 1) := by decide +kernel
theorem dX5_run_98 : decode cX5_run 98 = .ok (.iload 6, 2) := by decide +kernel
theorem dX5_run_100 : decode cX5_run 100 = .ok (.invokevirtual 59, 3) := by decide +kernel
theorem dX5_run_103 : decode cX5_run 103 = .ok (.iastore, 1) := by decide +kernel
theorem dX5_run_104 : decode cX5_run 104 = .ok (.iinc 2 1, 3) := by decide +kernel
theorem dX5_run_107 : decode cX5_run 107 = .ok (.goto 145, 3) := by decide +kernel
theorem dX5_run_110 : decode cX5_run 110 = .ok (.iload_n 2, 1) := by decide +kernel
theorem dX5_run_111 : decode cX5_run 111 = .ok (.iconst 1, 1) := by decide +kernel
theorem dX5_run_112 : decode cX5_run 112 = .ok (.if_icmp .lt 9, 3) := by decide +kernel
theorem dX5_run_115 : decode cX5_run 115 = .ok (.iload_n 2, 1) := by decide +kernel
theorem dX5_run_116 : decode cX5_run 116 = .ok (.bipush 32, 2) := by decide +kernel
theorem dX5_run_118 : decode cX5_run 118 = .ok (.if_icmp .le 5, 3) := by decide +kernel
theorem dX5_run_121 : decode cX5_run 121 = .ok (.iconst 0, 1) := by decide +kernel
theorem dX5_run_122 : decode cX5_run 122 = .ok (.ireturn, 1) := by decide +kernel
theorem dX5_run_123 : decode cX5_run 123 = .ok (.aload_n 0, 1) := by decide +kernel
theorem dX5_run_124 : decode cX5_run 124 = .ok (.getfield 37, 3) := by decide +kernel
theorem dX5_run_127 : decode cX5_run 127 = .ok (.iload_n 2, 1) := by decide +kernel
theorem dX5_run_128 : decode cX5_run 128 = .ok (.iconst 1, 1) := by decide +kernel
theorem dX5_run_129 : decode cX5_run 129 = .ok (.isub, 1) := by decide +kernel
theorem dX5_run_130 : decode cX5_run 130 = .ok (.iaload, 1) := by decide +kernel
theorem dX5_run_131 : decode cX5_run 131 = .ok (.istore 7, 2) := by decide +kernel
theorem dX5_run_133 : decode cX5_run 133 = .ok (.iload 5, 2) := by decide +kernel
theorem dX5_run_135 : decode cX5_run 135 = .ok (.iconst 3, 1) := by decide +kernel
theorem dX5_run_136 : decode cX5_run 136 = .ok (.if_icmp .ne 18, 3) := by decide +kernel
theorem dX5_run_139 : decode cX5_run 139 = .ok (.aload_n 0, 1) := by decide +kernel
theorem dX5_run_140 : decode cX5_run 140 = .ok (.getfield 37, 3) := by decide +kernel
theorem dX5_run_143 : decode cX5_run 143 = .ok (.iload_n 2, 1) := by decide +kernel
theorem dX5_run_144 : decode cX5_run 144 = .ok (.iconst 1, 1) := by decide +kernel
theorem dX5_run_145 : decode cX5_run 145 = .ok (.isub, 1) := by decide +kernel
theorem dX5_run_146 : decode cX5_run 146 = .ok (.iconst 1, 1) := by decide +kernel
theorem dX5_run_147 : decode cX5_run 147 = .ok (.iload 7, 2) := by decide +kernel
theorem dX5_run_149 : decode cX5_run 149 = .ok (.isub, 1) := by decide +kernel
theorem dX5_run_150 : decode cX5_run 150 = .ok (.iastore, 1) := by decide +kernel
theorem dX5_run_151 : decode cX5_run 151 = .ok (.goto 101, 3) := by decide +kernel
theorem dX5_run_154 : decode cX5_run 154 = .ok (.iload 5, 2) := by decide +kernel
theorem dX5_run_156 : decode cX5_run 156 = .ok (.iconst 4, 1) := by decide +kernel
theorem dX5_run_157 : decode cX5_run 157 = .ok (.if_icmp .ne 8, 3) := by decide +kernel
theorem dX5_run_160 : decode cX5_run 160 = .ok (.iload 7, 2) := by decide +kernel
theorem dX5_run_162 : decode cX5_run 162 = .ok (.ifCond .eq 14, 3) := by decide +kernel
theorem dX5_run_165 : decode cX5_run 165 = .ok (.iload 5, 2) := by decide +kernel
theorem dX5_run_167 : decode cX5_run 167 = .ok (.iconst 5, 1) := by decide +kernel
theorem dX5_run_168 : decode cX5_run 168 = .ok (.if_icmp .ne 14, 3) := by decide +kernel
theorem dX5_run_171 : decode cX5_run 171 = .ok (.iload 7, 2) := by decide +kernel
theorem dX5_run_173 : decode cX5_run 173 = .ok (.ifCond .eq 9, 3) := by decide +kernel
theorem dX5_run_176 : decode cX5_run 176 = .ok (.iload 6, 2) := by decide +kernel
theorem dX5_run_178 : decode cX5_run 178 = .ok (.istore_n 3, 1) := by decide +kernel
theorem dX5_run_179 : decode cX5_run 179 = .ok (.goto 73, 3) := by decide +kernel
theorem dX5_run_182 : decode cX5_run 182 = .ok (.iload 5, 2) := by decide +kernel
theorem dX5_run_184 : decode cX5_run 184 = .ok (.iconst 4, 1) := by decide +kernel
theorem dX5_run_185 : decode cX5_run 185 = .ok (.if_icmp .eq 9, 3) := by decide +kernel
theorem dX5_run_188 : decode cX5_run 188 = .ok (.iload 5, 2) := by decide +kernel
theorem dX5_run_190 : decode cX5_run 190 = .ok (.iconst 5, 1) := by decide +kernel
theorem dX5_run_191 : decode cX5_run 191 = .ok (.if_icmp .ne 9, 3) := by decide +kernel
theorem dX5_run_194 : decode cX5_run 194 = .ok (.iinc 2 (-1), 3) := by decide +kernel
theorem dX5_run_197 : decode cX5_run 197 = .ok (.goto 55, 3) := by decide +kernel
theorem dX5_run_200 : decode cX5_run 200 = .ok (.iload_n 2, 1) := by decide +kernel
theorem dX5_run_201 : decode cX5_run 201 = .ok (.iconst 2, 1) := by decide +kernel
theorem dX5_run_202 : decode cX5_run 202 = .ok (.if_icmp .lt 22, 3) := by decide +kernel
theorem dX5_run_205 : decode cX5_run 205 = .ok (.iload 7, 2) := by decide +kernel
theorem dX5_run_207 : decode cX5_run 207 = .ok (.ifCond .ne 19, 3) := by decide +kernel
theorem dX5_run_210 : decode cX5_run 210 = .ok (.iload 5, 2) := by decide +kernel
theorem dX5_run_212 : decode cX5_run 212 = .ok (.bipush 47, 2) := by decide +kernel
theorem dX5_run_214 : decode cX5_run 214 = .ok (.if_icmp .eq 10, 3) := by decide +kernel
theorem dX5_run_217 : decode cX5_run 217 = .ok (.iload 5, 2) := by decide +kernel
theorem dX5_run_219 : decode cX5_run 219 = .ok (.bipush 37, 2) := by decide +kernel
theorem dX5_run_221 : decode cX5_run 221 = .ok (.if_icmp .ne 5, 3) := by decide +kernel
theorem dX5_run_224 : decode cX5_run 224 = .ok (.iconst 0, 1) := by decide +kernel
theorem dX5_run_225 : decode cX5_run 225 = .ok (.ireturn, 1) := by decide +kernel
theorem dX5_run_226 : decode cX5_run 226 = .ok (.iinc 2 (-1), 3) := by decide +kernel
theorem dX5_run_229 : decode cX5_run 229 = .ok (.aload_n 0, 1) := by decide +kernel
theorem dX5_run_230 : decode cX5_run 230 = .ok (.getfield 37, 3) := by decide +kernel
theorem dX5_run_233 : decode cX5_run 233 = .ok (.iload_n 2, 1) := by decide +kernel
theorem dX5_run_234 : decode cX5_run 234 = .ok (.iconst 1, 1) := by decide +kernel
theorem dX5_run_235 : decode cX5_run 235 = .ok (.isub, 1) := by decide +kernel
theorem dX5_run_236 : decode cX5_run 236 = .ok (.iload 5, 2) := by decide +kernel
theorem dX5_run_238 : decode cX5_run 238 = .ok (.aload_n 0, 1) := by decide +kernel
theorem dX5_run_239 : decode cX5_run 239 = .ok (.getfield 37, 3) := by decide +kernel
theorem dX5_run_242 : decode cX5_run 242 = .ok (.iload_n 2, 1) := by decide +kernel
theorem dX5_run_243 : decode cX5_run 243 = .ok (.iconst 1, 1) := by decide +kernel
theorem dX5_run_244 : decode cX5_run 244 = .ok (.isub, 1) := by decide +kernel
theorem dX5_run_245 : decode cX5_run 245 = .ok (.iaload, 1) := by decide +kernel
theorem dX5_run_246 : decode cX5_run 246 = .ok (.iload 7, 2) := by decide +kernel
theorem dX5_run_248 : decode cX5_run 248 = .ok (.invokestatic 62, 3) := by decide +kernel
theorem dX5_run_251 : decode cX5_run 251 = .ok (.iastore, 1) := by decide +kernel
theorem dX5_run_252 : decode cX5_run 252 = .ok (.iinc 4 1, 3) := by decide +kernel
theorem dX5_run_255 : decode cX5_run 255 = .ok (.goto (-248), 3) := by decide +kernel
theorem dX5_run_258 : decode cX5_run 258 = .ok (.iload_n 2, 1) := by decide +kernel
theorem dX5_run_259 : decode cX5_run 259 = .ok (.ifCond .le 12, 3) := by decide +kernel
theorem dX5_run_262 : decode cX5_run 262 = .ok (.aload_n 0, 1) := by decide +kernel
theorem dX5_run_263 : decode cX5_run 263 = .ok (.getfield 37, 3) := by decide +kernel
theorem dX5_run_266 : decode cX5_run 266 = .ok (.iconst 0, 1) := by decide +kernel
theorem dX5_run_267 : decode cX5_run 267 = .ok (.iaload, 1) := by decide +kernel
theorem dX5_run_268 : decode cX5_run 268 = .ok (.goto 4, 3) := by decide +kernel
theorem dX5_run_271 : decode cX5_run 271 = .ok (.iconst 0, 1) := by decide +kernel
theorem dX5_run_272 : decode cX5_run 272 = .ok (.ireturn, 1) := by decide +kernel
theorem dX5_valueOf_0 : decode cX5_valueOf 0 = .ok (.iload_n 1, 1) := by decide +kernel
theorem dX5_valueOf_1 : decode cX5_valueOf 1 = .ok (.ifCond .lt 18, 3) := by decide +kernel
theorem dX5_valueOf_4 : decode cX5_valueOf 4 = .ok (.iload_n 1, 1) := by decide +kernel
theorem dX5_valueOf_5 : decode cX5_valueOf 5 = .ok (.bipush 8, 2) := by decide +kernel
theorem dX5_valueOf_7 : decode cX5_valueOf 7 = .ok (.if_icmp .ge 12, 3) := by decide +kernel
theorem dX5_valueOf_10 : decode cX5_valueOf 10 = .ok (.aload_n 0, 1) := by decide +kernel
theorem dX5_valueOf_11 : decode cX5_valueOf 11 = .ok (.getfield 34, 3) := by decide +kernel
theorem dX5_valueOf_14 : decode cX5_valueOf 14 = .ok (.iload_n 1, 1) := by decide +kernel
theorem dX5_valueOf_15 : decode cX5_valueOf 15 = .ok (.iaload, 1) := by decide +kernel
theorem dX5_valueOf_16 : decode cX5_valueOf 16 = .ok (.goto 4, 3) := by decide +kernel
theorem dX5_valueOf_19 : decode cX5_valueOf 19 = .ok (.iconst 0, 1) := by decide +kernel
theorem dX5_valueOf_20 : decode cX5_valueOf 20 = .ok (.ireturn, 1) := by decide +kernel
theorem dX5_combined_0 : decode cX5_combined 0 = .ok (.iload_n 0, 1) := by decide +kernel
theorem dX5_combined_1 : decode cX5_combined 1 = .ok (.lookupswitch 125 #[(37, 91), (42, 75), (43, 67), (45, 71), (47, 79), (60, 103), (62, 114)], 67) := by decide +kernel
theorem dX5_combined_68 : decode cX5_combined 68 = .ok (.iload_n 1, 1) := by decide +kernel
theorem dX5_combined_69 : decode cX5_combined 69 = .ok (.iload_n 2, 1) := by decide +kernel
theorem dX5_combined_70 : decode cX5_combined 70 = .ok (.iadd, 1) := by decide +kernel
theorem dX5_combined_71 : decode cX5_combined 71 = .ok (.ireturn, 1) := by decide +kernel
theorem dX5_combined_72 : decode cX5_combined 72 = .ok (.iload_n 1, 1) := by decide +kernel
theorem dX5_combined_73 : decode cX5_combined 73 = .ok (.iload_n 2, 1) := by decide +kernel
theorem dX5_combined_74 : decode cX5_combined 74 = .ok (.isub, 1) := by decide +kernel
theorem dX5_combined_75 : decode cX5_combined 75 = .ok (.ireturn, 1) := by decide +kernel
theorem dX5_combined_76 : decode cX5_combined 76 = .ok (.iload_n 1, 1) := by decide +kernel
theorem dX5_combined_77 : decode cX5_combined 77 = .ok (.iload_n 2, 1) := by decide +kernel
theorem dX5_combined_78 : decode cX5_combined 78 = .ok (.imul, 1) := by decide +kernel
theorem dX5_combined_79 : decode cX5_combined 79 = .ok (.ireturn, 1) := by decide +kernel
theorem dX5_combined_80 : decode cX5_combined 80 = .ok (.iload_n 2, 1) := by decide +kernel
theorem dX5_combined_81 : decode cX5_combined 81 = .ok (.ifCond .ne 7, 3) := by decide +kernel
theorem dX5_combined_84 : decode cX5_combined 84 = .ok (.iconst 0, 1) := by decide +kernel
theorem dX5_combined_85 : decode cX5_combined 85 = .ok (.goto 6, 3) := by decide +kernel
theorem dX5_combined_88 : decode cX5_combined 88 = .ok (.iload_n 1, 1) := by decide +kernel
theorem dX5_combined_89 : decode cX5_combined 89 = .ok (.iload_n 2, 1) := by decide +kernel
theorem dX5_combined_90 : decode cX5_combined 90 = .ok (.idiv, 1) := by decide +kernel
theorem dX5_combined_91 : decode cX5_combined 91 = .ok (.ireturn, 1) := by decide +kernel
theorem dX5_combined_92 : decode cX5_combined 92 = .ok (.iload_n 2, 1) := by decide +kernel
theorem dX5_combined_93 : decode cX5_combined 93 = .ok (.ifCond .ne 7, 3) := by decide +kernel
theorem dX5_combined_96 : decode cX5_combined 96 = .ok (.iconst 0, 1) := by decide +kernel
theorem dX5_combined_97 : decode cX5_combined 97 = .ok (.goto 6, 3) := by decide +kernel
theorem dX5_combined_100 : decode cX5_combined 100 = .ok (.iload_n 1, 1) := by decide +kernel
theorem dX5_combined_101 : decode cX5_combined 101 = .ok (.iload_n 2, 1) := by decide +kernel
theorem dX5_combined_102 : decode cX5_combined 102 = .ok (.irem, 1) := by decide +kernel
theorem dX5_combined_103 : decode cX5_combined 103 = .ok (.ireturn, 1) := by decide +kernel
theorem dX5_combined_104 : decode cX5_combined 104 = .ok (.iload_n 1, 1) := by decide +kernel
theorem dX5_combined_105 : decode cX5_combined 105 = .ok (.iload_n 2, 1) := by decide +kernel
theorem dX5_combined_106 : decode cX5_combined 106 = .ok (.if_icmp .ge 7, 3) := by decide +kernel
theorem dX5_combined_109 : decode cX5_combined 109 = .ok (.iconst 1, 1) := by decide +kernel
theorem dX5_combined_110 : decode cX5_combined 110 = .ok (.goto 4, 3) := by decide +kernel
theorem dX5_combined_113 : decode cX5_combined 113 = .ok (.iconst 0, 1) := by decide +kernel
theorem dX5_combined_114 : decode cX5_combined 114 = .ok (.ireturn, 1) := by decide +kernel
theorem dX5_combined_115 : decode cX5_combined 115 = .ok (.iload_n 1, 1) := by decide +kernel
theorem dX5_combined_116 : decode cX5_combined 116 = .ok (.iload_n 2, 1) := by decide +kernel
theorem dX5_combined_117 : decode cX5_combined 117 = .ok (.if_icmp .le 7, 3) := by decide +kernel
theorem dX5_combined_120 : decode cX5_combined 120 = .ok (.iconst 1, 1) := by decide +kernel
theorem dX5_combined_121 : decode cX5_combined 121 = .ok (.goto 4, 3) := by decide +kernel
theorem dX5_combined_124 : decode cX5_combined 124 = .ok (.iconst 0, 1) := by decide +kernel
theorem dX5_combined_125 : decode cX5_combined 125 = .ok (.ireturn, 1) := by decide +kernel
theorem dX5_combined_126 : decode cX5_combined 126 = .ok (.iload_n 1, 1) := by decide +kernel
theorem dX5_combined_127 : decode cX5_combined 127 = .ok (.iload_n 2, 1) := by decide +kernel
theorem dX5_combined_128 : decode cX5_combined 128 = .ok (.if_icmp .ne 7, 3) := by decide +kernel
theorem dX5_combined_131 : decode cX5_combined 131 = .ok (.iconst 1, 1) := by decide +kernel
theorem dX5_combined_132 : decode cX5_combined 132 = .ok (.goto 4, 3) := by decide +kernel
theorem dX5_combined_135 : decode cX5_combined 135 = .ok (.iconst 0, 1) := by decide +kernel
theorem dX5_combined_136 : decode cX5_combined 136 = .ok (.ireturn, 1) := by decide +kernel
theorem dX6_init_0 : decode cX6_init 0 = .ok (.aload_n 0, 1) := by decide +kernel
theorem dX6_init_1 : decode cX6_init 1 = .ok (.invokespecial 3, 3) := by decide +kernel
theorem dX6_init_4 : decode cX6_init 4 = .ok (.aload_n 0, 1) := by decide +kernel
theorem dX6_init_5 : decode cX6_init 5 = .ok (.new 9, 3) := by decide +kernel
theorem dX6_init_8 : decode cX6_init 8 = .ok (.dup, 1) := by decide +kernel
theorem dX6_init_9 : decode cX6_init 9 = .ok (.invokespecial 11, 3) := by decide +kernel
theorem dX6_init_12 : decode cX6_init 12 = .ok (.putfield 12, 3) := by decide +kernel
theorem dX6_init_15 : decode cX6_init 15 = .ok (.aload_n 0, 1) := by decide +kernel
theorem dX6_init_16 : decode cX6_init 16 = .ok (.aload_n 1, 1) := by decide +kernel
theorem dX6_init_17 : decode cX6_init 17 = .ok (.putfield 18, 3) := by decide +kernel
theorem dX6_init_20 : decode cX6_init 20 = .ok (.return_, 1) := by decide +kernel
theorem dX6_read_0 : decode cX6_read 0 = .ok (.aload_n 0, 1) := by decide +kernel
theorem dX6_read_1 : decode cX6_read 1 = .ok (.getfield 12, 3) := by decide +kernel
theorem dX6_read_4 : decode cX6_read 4 = .ok (.invokevirtual 22, 3) := by decide +kernel
theorem dX6_read_7 : decode cX6_read 7 = .ok (.iconst 0, 1) := by decide +kernel
theorem dX6_read_8 : decode cX6_read 8 = .ok (.istore_n 1, 1) := by decide +kernel
theorem dX6_read_9 : decode cX6_read 9 = .ok (.iload_n 1, 1) := by decide +kernel
theorem dX6_read_10 : decode cX6_read 10 = .ok (.bipush 16, 2) := by decide +kernel
theorem dX6_read_12 : decode cX6_read 12 = .ok (.if_icmp .gt 34, 3) := by decide +kernel
theorem dX6_read_15 : decode cX6_read 15 = .ok (.aload_n 0, 1) := by decide +kernel
theorem dX6_read_16 : decode cX6_read 16 = .ok (.invokevirtual 25, 3) := by decide +kernel
theorem dX6_read_19 : decode cX6_read 19 = .ok (.aload_n 0, 1) := by decide +kernel
theorem dX6_read_20 : decode cX6_read 20 = .ok (.getfield 18, 3) := by decide +kernel
theorem dX6_read_23 : decode cX6_read 23 = .ok (.iconst (-1), 1) := by decide +kernel
theorem dX6_read_24 : decode cX6_read 24 = .ok (.invokevirtual 30, 3) := by decide +kernel
theorem dX6_read_27 : decode cX6_read 27 = .ok (.ifCond .eq 4, 3) := by decide +kernel
theorem dX6_read_30 : decode cX6_read 30 = .ok (.return_, 1) := by decide +kernel
theorem dX6_read_31 : decode cX6_read 31 = .ok (.aload_n 0, 1) := by decide +kernel
theorem dX6_read_32 : decode cX6_read 32 = .ok (.getfield 18, 3) := by decide +kernel
theorem dX6_read_35 : decode cX6_read 35 = .ok (.bipush 59, 2) := by decide +kernel
theorem dX6_read_37 : decode cX6_read 37 = .ok (.invokevirtual 34, 3) := by decide +kernel
theorem dX6_read_40 : decode cX6_read 40 = .ok (.iinc 1 1, 3) := by decide +kernel
theorem dX6_read_43 : decode cX6_read 43 = .ok (.goto (-34), 3) := by decide +kernel
theorem dX6_read_46 : decode cX6_read 46 = .ok (.return_, 1) := by decide +kernel
theorem dX6_readRule_0 : decode cX6_readRule 0 = .ok (.aload_n 0, 1) := by decide +kernel
theorem dX6_readRule_1 : decode cX6_readRule 1 = .ok (.getfield 18, 3) := by decide +kernel
theorem dX6_readRule_4 : decode cX6_readRule 4 = .ok (.invokevirtual 38, 3) := by decide +kernel
theorem dX6_readRule_7 : decode cX6_readRule 7 = .ok (.istore_n 1, 1) := by decide +kernel
theorem dX6_readRule_8 : decode cX6_readRule 8 = .ok (.iload_n 1, 1) := by decide +kernel
theorem dX6_readRule_9 : decode cX6_readRule 9 = .ok (.bipush 101, 2) := by decide +kernel
theorem dX6_readRule_11 : decode cX6_readRule 11 = .ok (.if_icmp .eq 24, 3) := by decide +kernel
theorem dX6_readRule_14 : decode cX6_readRule 14 = .ok (.iload_n 1, 1) := by decide +kernel
theorem dX6_readRule_15 : decode cX6_readRule 15 = .ok (.bipush 114, 2) := by decide +kernel
theorem dX6_readRule_17 : decode cX6_readRule 17 = .ok (.if_icmp .eq 18, 3) := by decide +kernel
theorem dX6_readRule_20 : decode cX6_readRule 20 = .ok (.iload_n 1, 1) := by decide +kernel
theorem dX6_readRule_21 : decode cX6_readRule 21 = .ok (.bipush 120, 2) := by decide +kernel
theorem dX6_readRule_23 : decode cX6_readRule 23 = .ok (.if_icmp .eq 12, 3) := by decide +kernel
theorem dX6_readRule_26 : decode cX6_readRule 26 = .ok (.aload_n 0, 1) := by decide +kernel
theorem dX6_readRule_27 : decode cX6_readRule 27 = .ok (.getfield 18, 3) := by decide +kernel
theorem dX6_readRule_30 : decode cX6_readRule 30 = .ok (.iconst 1, 1) := by decide +kernel
theorem dX6_readRule_31 : decode cX6_readRule 31 = .ok (.invokevirtual 42, 3) := by decide +kernel
theorem dX6_readRule_34 : decode cX6_readRule 34 = .ok (.return_, 1) := by decide +kernel
theorem dX6_readRule_35 : decode cX6_readRule 35 = .ok (.aload_n 0, 1) := by decide +kernel
theorem dX6_readRule_36 : decode cX6_readRule 36 = .ok (.getfield 12, 3) := by decide +kernel
theorem dX6_readRule_39 : decode cX6_readRule 39 = .ok (.getfield 45, 3) := by decide +kernel
theorem dX6_readRule_42 : decode cX6_readRule 42 = .ok (.bipush 16, 2) := by decide +kernel
theorem dX6_readRule_44 : decode cX6_readRule 44 = .ok (.if_icmp .lt 12, 3) := by decide +kernel
theorem dX6_readRule_47 : decode cX6_readRule 47 = .ok (.aload_n 0, 1) := by decide +kernel
theorem dX6_readRule_48 : decode cX6_readRule 48 = .ok (.getfield 18, 3) := by decide +kernel
theorem dX6_readRule_51 : decode cX6_readRule 51 = .ok (.iconst 4, 1) := by decide +kernel
theorem dX6_readRule_52 : decode cX6_readRule 52 = .ok (.invokevirtual 42, 3) := by decide +kernel
theorem dX6_readRule_55 : decode cX6_readRule 55 = .ok (.return_, 1) := by decide +kernel
theorem dX6_readRule_56 : decode cX6_readRule 56 = .ok (.aload_n 0, 1) := by decide +kernel
theorem dX6_readRule_57 : decode cX6_readRule 57 = .ok (.getfield 18, 3) := by decide +kernel
theorem dX6_readRule_60 : decode cX6_readRule 60 = .ok (.invokevirtual 49, 3) := by decide +kernel
theorem dX6_readRule_63 : decode cX6_readRule 63 = .ok (.aload_n 0, 1) := by decide +kernel
theorem dX6_readRule_64 : decode cX6_readRule 64 = .ok (.getfield 12, 3) := by decide +kernel
theorem dX6_readRule_67 : decode cX6_readRule 67 = .ok (.iload_n 1, 1) := by decide +kernel
theorem dX6_readRule_68 : decode cX6_readRule 68 = .ok (.invokevirtual 52, 3) := by decide +kernel
theorem dX6_readRule_71 : decode cX6_readRule 71 = .ok (.iload_n 1, 1) := by decide +kernel
theorem dX6_readRule_72 : decode cX6_readRule 72 = .ok (.bipush 120, 2) := by decide +kernel
theorem dX6_readRule_74 : decode cX6_readRule 74 = .ok (.if_icmp .eq 18, 3) := by decide +kernel
theorem dX6_readRule_77 : decode cX6_readRule 77 = .ok (.aload_n 0, 1) := by decide +kernel
theorem dX6_readRule_78 : decode cX6_readRule 78 = .ok (.iconst 0, 1) := by decide +kernel
theorem dX6_readRule_79 : decode cX6_readRule 79 = .ok (.invokevirtual 55, 3) := by decide +kernel
theorem dX6_readRule_82 : decode cX6_readRule 82 = .ok (.aload_n 0, 1) := by decide +kernel
theorem dX6_readRule_83 : decode cX6_readRule 83 = .ok (.getfield 12, 3) := by decide +kernel
theorem dX6_readRule_86 : decode cX6_readRule 86 = .ok (.iconst 0, 1) := by decide +kernel
theorem dX6_readRule_87 : decode cX6_readRule 87 = .ok (.iconst 0, 1) := by decide +kernel
theorem dX6_readRule_88 : decode cX6_readRule 88 = .ok (.invokevirtual 58, 3) := by decide +kernel
theorem dX6_readRule_91 : decode cX6_readRule 91 = .ok (.pop, 1) := by decide +kernel
theorem dX6_readRule_92 : decode cX6_readRule 92 = .ok (.aload_n 0, 1) := by decide +kernel
theorem dX6_readRule_93 : decode cX6_readRule 93 = .ok (.getfield 12, 3) := by decide +kernel
theorem dX6_readRule_96 : decode cX6_readRule 96 = .ok (.invokevirtual 62, 3) := by decide +kernel
theorem dX6_readRule_99 : decode cX6_readRule 99 = .ok (.aload_n 0, 1) := by decide +kernel
theorem dX6_readRule_100 : decode cX6_readRule 100 = .ok (.getfield 18, 3) := by decide +kernel
theorem dX6_readRule_103 : decode cX6_readRule 103 = .ok (.bipush 40, 2) := by decide +kernel
theorem dX6_readRule_105 : decode cX6_readRule 105 = .ok (.invokevirtual 34, 3) := by decide +kernel
theorem dX6_readRule_108 : decode cX6_readRule 108 = .ok (.aload_n 0, 1) := by decide +kernel
theorem dX6_readRule_109 : decode cX6_readRule 109 = .ok (.iconst 1, 1) := by decide +kernel
theorem dX6_readRule_110 : decode cX6_readRule 110 = .ok (.invokevirtual 65, 3) := by decide +kernel
theorem dX6_readRule_113 : decode cX6_readRule 113 = .ok (.aload_n 0, 1) := by decide +kernel
theorem dX6_readRule_114 : decode cX6_readRule 114 = .ok (.getfield 18, 3) := by decide +kernel
theorem dX6_readRule_117 : decode cX6_readRule 117 = .ok (.bipush 41, 2) := by decide +kernel
theorem dX6_readRule_119 : decode cX6_readRule 119 = .ok (.invokevirtual 34, 3) := by decide +kernel
theorem dX6_readRule_122 : decode cX6_readRule 122 = .ok (.aload_n 0, 1) := by decide +kernel
theorem dX6_readRule_123 : decode cX6_readRule 123 = .ok (.getfield 12, 3) := by decide +kernel
theorem dX6_readRule_126 : decode cX6_readRule 126 = .ok (.iconst 0, 1) := by decide +kernel
theorem dX6_readRule_127 : decode cX6_readRule 127 = .ok (.iconst 0, 1) := by decide +kernel
theorem dX6_readRule_128 : decode cX6_readRule 128 = .ok (.invokevirtual 58, 3) := by decide +kernel
theorem dX6_readRule_131 : decode cX6_readRule 131 = .ok (.pop, 1) := by decide +kernel
theorem dX6_readRule_132 : decode cX6_readRule 132 = .ok (.aload_n 0, 1) := by decide +kernel
theorem dX6_readRule_133 : decode cX6_readRule 133 = .ok (.getfield 12, 3) := by decide +kernel
theorem dX6_readRule_136 : decode cX6_readRule 136 = .ok (.invokevirtual 68, 3) := by decide +kernel
theorem dX6_readRule_139 : decode cX6_readRule 139 = .ok (.return_, 1) := by decide +kernel
theorem dX6_readChoice_0 : decode cX6_readChoice 0 = .ok (.iconst (-1), 1) := by decide +kernel
theorem dX6_readChoice_1 : decode cX6_readChoice 1 = .ok (.istore_n 2, 1) := by decide +kernel
theorem dX6_readChoice_2 : decode cX6_readChoice 2 = .ok (.aload_n 0, 1) := by decide +kernel
theorem dX6_readChoice_3 : decode cX6_readChoice 3 = .ok (.iload_n 1, 1) := by decide +kernel
theorem dX6_readChoice_4 : decode cX6_readChoice 4 = .ok (.invokevirtual 71, 3) := by decide +kernel
theorem dX6_readChoice_7 : decode cX6_readChoice 7 = .ok (.iconst 0, 1) := by decide +kernel
theorem dX6_readChoice_8 : decode cX6_readChoice 8 = .ok (.istore_n 3, 1) := by decide +kernel
theorem dX6_readChoice_9 : decode cX6_readChoice 9 = .ok (.iload_n 3, 1) := by decide +kernel
theorem dX6_readChoice_10 : decode cX6_readChoice 10 = .ok (.sipush 240, 3) := by decide +kernel
theorem dX6_readChoice_13 : decode cX6_readChoice 13 = .ok (.if_icmp .ge 43, 3) := by decide +kernel
theorem dX6_readChoice_16 : decode cX6_readChoice 16 = .ok (.aload_n 0, 1) := by decide +kernel
theorem dX6_readChoice_17 : decode cX6_readChoice 17 = .ok (.getfield 18, 3) := by decide +kernel
theorem dX6_readChoice_20 : decode cX6_readChoice 20 = .ok (.bipush 124, 2) := by decide +kernel
theorem dX6_readChoice_22 : decode cX6_readChoice 22 = .ok (.invokevirtual 30, 3) := by decide +kernel
theorem dX6_readChoice_25 : decode cX6_readChoice 25 = .ok (.ifCond .eq 31, 3) := by decide +kernel
theorem dX6_readChoice_28 : decode cX6_readChoice 28 = .ok (.aload_n 0, 1) := by decide +kernel
theorem dX6_readChoice_29 : decode cX6_readChoice 29 = .ok (.getfield 18, 3) := by decide +kernel
theorem dX6_readChoice_32 : decode cX6_readChoice 32 = .ok (.invokevirtual 49, 3) := by decide +kernel
theorem dX6_readChoice_35 : decode cX6_readChoice 35 = .ok (.aload_n 0, 1) := by decide +kernel
theorem dX6_readChoice_36 : decode cX6_readChoice 36 = .ok (.getfield 12, 3) := by decide +kernel
theorem dX6_readChoice_39 : decode cX6_readChoice 39 = .ok (.iconst 5, 1) := by decide +kernel
theorem dX6_readChoice_40 : decode cX6_readChoice 40 = .ok (.iload_n 2, 1) := by decide +kernel
theorem dX6_readChoice_41 : decode cX6_readChoice 41 = .ok (.invokevirtual 58, 3) := by decide +kernel
theorem dX6_readChoice_44 : decode cX6_readChoice 44 = .ok (.istore_n 2, 1) := by decide +kernel
theorem dX6_readChoice_45 : decode cX6_readChoice 45 = .ok (.aload_n 0, 1) := by decide +kernel
theorem dX6_readChoice_46 : decode cX6_readChoice 46 = .ok (.iload_n 1, 1) := by decide +kernel
theorem dX6_readChoice_47 : decode cX6_readChoice 47 = .ok (.invokevirtual 71, 3) := by decide +kernel
theorem dX6_readChoice_50 : decode cX6_readChoice 50 = .ok (.iinc 3 1, 3) := by decide +kernel
theorem dX6_readChoice_53 : decode cX6_readChoice 53 = .ok (.goto (-44), 3) := by decide +kernel
theorem dX6_readChoice_56 : decode cX6_readChoice 56 = .ok (.aload_n 0, 1) := by decide +kernel
theorem dX6_readChoice_57 : decode cX6_readChoice 57 = .ok (.getfield 12, 3) := by decide +kernel
theorem dX6_readChoice_60 : decode cX6_readChoice 60 = .ok (.iload_n 2, 1) := by decide +kernel
theorem dX6_readChoice_61 : decode cX6_readChoice 61 = .ok (.invokevirtual 74, 3) := by decide +kernel
theorem dX6_readChoice_64 : decode cX6_readChoice 64 = .ok (.return_, 1) := by decide +kernel
theorem dX6_readPart_0 : decode cX6_readPart 0 = .ok (.iconst (-1), 1) := by decide +kernel
theorem dX6_readPart_1 : decode cX6_readPart 1 = .ok (.istore_n 2, 1) := by decide +kernel
theorem dX6_readPart_2 : decode cX6_readPart 2 = .ok (.aload_n 0, 1) := by decide +kernel
theorem dX6_readPart_3 : decode cX6_readPart 3 = .ok (.iload_n 1, 1) := by decide +kernel
theorem dX6_readPart_4 : decode cX6_readPart 4 = .ok (.invokevirtual 77, 3) := by decide +kernel
theorem dX6_readPart_7 : decode cX6_readPart 7 = .ok (.iconst 0, 1) := by decide +kernel
theorem dX6_readPart_8 : decode cX6_readPart 8 = .ok (.istore_n 3, 1) := by decide +kernel
theorem dX6_readPart_9 : decode cX6_readPart 9 = .ok (.iload_n 3, 1) := by decide +kernel
theorem dX6_readPart_10 : decode cX6_readPart 10 = .ok (.sipush 240, 3) := by decide +kernel
theorem dX6_readPart_13 : decode cX6_readPart 13 = .ok (.if_icmp .ge 43, 3) := by decide +kernel
theorem dX6_readPart_16 : decode cX6_readPart 16 = .ok (.aload_n 0, 1) := by decide +kernel
theorem dX6_readPart_17 : decode cX6_readPart 17 = .ok (.getfield 18, 3) := by decide +kernel
theorem dX6_readPart_20 : decode cX6_readPart 20 = .ok (.bipush 38, 2) := by decide +kernel
theorem dX6_readPart_22 : decode cX6_readPart 22 = .ok (.invokevirtual 30, 3) := by decide +kernel
theorem dX6_readPart_25 : decode cX6_readPart 25 = .ok (.ifCond .eq 31, 3) := by decide +kernel
theorem dX6_readPart_28 : decode cX6_readPart 28 = .ok (.aload_n 0, 1) := by decide +kernel
theorem dX6_readPart_29 : decode cX6_readPart 29 = .ok (.getfield 18, 3) := by decide +kernel
theorem dX6_readPart_32 : decode cX6_readPart 32 = .ok (.invokevirtual 49, 3) := by decide +kernel
theorem dX6_readPart_35 : decode cX6_readPart 35 = .ok (.aload_n 0, 1) := by decide +kernel
theorem dX6_readPart_36 : decode cX6_readPart 36 = .ok (.getfield 12, 3) := by decide +kernel
theorem dX6_readPart_39 : decode cX6_readPart 39 = .ok (.iconst 4, 1) := by decide +kernel
theorem dX6_readPart_40 : decode cX6_readPart 40 = .ok (.iload_n 2, 1) := by decide +kernel
theorem dX6_readPart_41 : decode cX6_readPart 41 = .ok (.invokevirtual 58, 3) := by decide +kernel
theorem dX6_readPart_44 : decode cX6_readPart 44 = .ok (.istore_n 2, 1) := by decide +kernel
theorem dX6_readPart_45 : decode cX6_readPart 45 = .ok (.aload_n 0, 1) := by decide +kernel
theorem dX6_readPart_46 : decode cX6_readPart 46 = .ok (.iload_n 1, 1) := by decide +kernel
theorem dX6_readPart_47 : decode cX6_readPart 47 = .ok (.invokevirtual 77, 3) := by decide +kernel
theorem dX6_readPart_50 : decode cX6_readPart 50 = .ok (.iinc 3 1, 3) := by decide +kernel
theorem dX6_readPart_53 : decode cX6_readPart 53 = .ok (.goto (-44), 3) := by decide +kernel
theorem dX6_readPart_56 : decode cX6_readPart 56 = .ok (.aload_n 0, 1) := by decide +kernel
theorem dX6_readPart_57 : decode cX6_readPart 57 = .ok (.getfield 12, 3) := by decide +kernel
theorem dX6_readPart_60 : decode cX6_readPart 60 = .ok (.iload_n 2, 1) := by decide +kernel
theorem dX6_readPart_61 : decode cX6_readPart 61 = .ok (.invokevirtual 74, 3) := by decide +kernel
theorem dX6_readPart_64 : decode cX6_readPart 64 = .ok (.return_, 1) := by decide +kernel
theorem dX6_readTest_0 : decode cX6_readTest 0 = .ok (.aload_n 0, 1) := by decide +kernel
theorem dX6_readTest_1 : decode cX6_readTest 1 = .ok (.getfield 18, 3) := by decide +kernel
theorem dX6_readTest_4 : decode cX6_readTest 4 = .ok (.bipush 33, 2) := by decide +kernel
theorem dX6_readTest_6 : decode cX6_readTest 6 = .ok (.invokevirtual 30, 3) := by decide +kernel
theorem dX6_readTest_9 : decode cX6_readTest 9 = .ok (.ifCond .eq 31, 3) := by decide +kernel
theorem dX6_readTest_12 : decode cX6_readTest 12 = .ok (.aload_n 0, 1) := by decide +kernel
theorem dX6_readTest_13 : decode cX6_readTest 13 = .ok (.iload_n 1, 1) := by decide +kernel
theorem dX6_readTest_14 : decode cX6_readTest 14 = .ok (.invokevirtual 80, 3) := by decide +kernel
theorem dX6_readTest_17 : decode cX6_readTest 17 = .ok (.ifCond .eq 67, 3) := by decide +kernel
theorem dX6_readTest_20 : decode cX6_readTest 20 = .ok (.aload_n 0, 1) := by decide +kernel
theorem dX6_readTest_21 : decode cX6_readTest 21 = .ok (.iload_n 1, 1) := by decide +kernel
theorem dX6_readTest_22 : decode cX6_readTest 22 = .ok (.iconst 1, 1) := by decide +kernel
theorem dX6_readTest_23 : decode cX6_readTest 23 = .ok (.iadd, 1) := by decide +kernel
theorem dX6_readTest_24 : decode cX6_readTest 24 = .ok (.invokevirtual 77, 3) := by decide +kernel
theorem dX6_readTest_27 : decode cX6_readTest 27 = .ok (.aload_n 0, 1) := by decide +kernel
theorem dX6_readTest_28 : decode cX6_readTest 28 = .ok (.getfield 12, 3) := by decide +kernel
theorem dX6_readTest_31 : decode cX6_readTest 31 = .ok (.iconst 3, 1) := by decide +kernel
theorem dX6_readTest_32 : decode cX6_readTest 32 = .ok (.iconst 0, 1) := by decide +kernel
theorem dX6_readTest_33 : decode cX6_readTest 33 = .ok (.invokevirtual 58, 3) := by decide +kernel
theorem dX6_readTest_36 : decode cX6_readTest 36 = .ok (.pop, 1) := by decide +kernel
theorem dX6_readTest_37 : decode cX6_readTest 37 = .ok (.goto 47, 3) := by decide +kernel
theorem dX6_readTest_40 : decode cX6_readTest 40 = .ok (.aload_n 0, 1) := by decide +kernel
theorem dX6_readTest_41 : decode cX6_readTest 41 = .ok (.getfield 18, 3) := by decide +kernel
theorem dX6_readTest_44 : decode cX6_readTest 44 = .ok (.bipush 40, 2) := by decide +kernel
theorem dX6_readTest_46 : decode cX6_readTest 46 = .ok (.invokevirtual 30, 3) := by decide +kernel
theorem dX6_readTest_49 : decode cX6_readTest 49 = .ok (.ifCond .eq 30, 3) := by decide +kernel
theorem dX6_readTest_52 : decode cX6_readTest 52 = .ok (.aload_n 0, 1) := by decide +kernel
theorem dX6_readTest_53 : decode cX6_readTest 53 = .ok (.iload_n 1, 1) := by decide +kernel
theorem dX6_readTest_54 : decode cX6_readTest 54 = .ok (.invokevirtual 80, 3) := by decide +kernel
theorem dX6_readTest_57 : decode cX6_readTest 57 = .ok (.ifCond .eq 27, 3) := by decide +kernel
theorem dX6_readTest_60 : decode cX6_readTest 60 = .ok (.aload_n 0, 1) := by decide +kernel
theorem dX6_readTest_61 : decode cX6_readTest 61 = .ok (.iload_n 1, 1) := by decide +kernel
theorem dX6_readTest_62 : decode cX6_readTest 62 = .ok (.iconst 1, 1) := by decide +kernel
theorem dX6_readTest_63 : decode cX6_readTest 63 = .ok (.iadd, 1) := by decide +kernel
theorem dX6_readTest_64 : decode cX6_readTest 64 = .ok (.invokevirtual 65, 3) := by decide +kernel
theorem dX6_readTest_67 : decode cX6_readTest 67 = .ok (.aload_n 0, 1) := by decide +kernel
theorem dX6_readTest_68 : decode cX6_readTest 68 = .ok (.getfield 18, 3) := by decide +kernel
theorem dX6_readTest_71 : decode cX6_readTest 71 = .ok (.bipush 41, 2) := by decide +kernel
theorem dX6_readTest_73 : decode cX6_readTest 73 = .ok (.invokevirtual 34, 3) := by decide +kernel
theorem dX6_readTest_76 : decode cX6_readTest 76 = .ok (.goto 8, 3) := by decide +kernel
theorem dX6_readTest_79 : decode cX6_readTest 79 = .ok (.aload_n 0, 1) := by decide +kernel
theorem dX6_readTest_80 : decode cX6_readTest 80 = .ok (.iload_n 1, 1) := by decide +kernel
theorem dX6_readTest_81 : decode cX6_readTest 81 = .ok (.invokevirtual 83, 3) := by decide +kernel
theorem dX6_readTest_84 : decode cX6_readTest 84 = .ok (.return_, 1) := by decide +kernel
theorem dX6_readComparison_0 : decode cX6_readComparison 0 = .ok (.aload_n 0, 1) := by decide +kernel
theorem dX6_readComparison_1 : decode cX6_readComparison 1 = .ok (.iload_n 1, 1) := by decide +kernel
theorem dX6_readComparison_2 : decode cX6_readComparison 2 = .ok (.invokevirtual 55, 3) := by decide +kernel
theorem dX6_readComparison_5 : decode cX6_readComparison 5 = .ok (.aload_n 0, 1) := by decide +kernel
theorem dX6_readComparison_6 : decode cX6_readComparison 6 = .ok (.getfield 18, 3) := by decide +kernel
theorem dX6_readComparison_9 : decode cX6_readComparison 9 = .ok (.invokevirtual 38, 3) := by decide +kernel
theorem dX6_readComparison_12 : decode cX6_readComparison 12 = .ok (.istore_n 2, 1) := by decide +kernel
theorem dX6_readComparison_13 : decode cX6_readComparison 13 = .ok (.iload_n 2, 1) := by decide +kernel
theorem dX6_readComparison_14 : decode cX6_readComparison 14 = .ok (.bipush 60, 2) := by decide +kernel
theorem dX6_readComparison_16 : decode cX6_readComparison 16 = .ok (.if_icmp .eq 24, 3) := by decide +kernel
theorem dX6_readComparison_19 : decode cX6_readComparison 19 = .ok (.iload_n 2, 1) := by decide +kernel
theorem dX6_readComparison_20 : decode cX6_readComparison 20 = .ok (.bipush 62, 2) := by decide +kernel
theorem dX6_readComparison_22 : decode cX6_readComparison 22 = .ok (.if_icmp .eq 18, 3) := by decide +kernel
theorem dX6_readComparison_25 : decode cX6_readComparison 25 = .ok (.iload_n 2, 1) := by decide +kernel
theorem dX6_readComparison_26 : decode cX6_readComparison 26 = .ok (.bipush 61, 2) := by decide +kernel
theorem dX6_readComparison_28 : decode cX6_readComparison 28 = .ok (.if_icmp .eq 12, 3) := by decide +kernel
theorem dX6_readComparison_31 : decode cX6_readComparison 31 = .ok (.aload_n 0, 1) := by decide +kernel
theorem dX6_readComparison_32 : decode cX6_readComparison 32 = .ok (.getfield 18, 3) := by decide +kernel
theorem dX6_readComparison_35 : decode cX6_readComparison 35 = .ok (.iconst 1, 1) := by decide +kernel
theorem dX6_readComparison_36 : decode cX6_readComparison 36 = .ok (.invokevirtual 42, 3) := by decide +kernel
theorem dX6_readComparison_39 : decode cX6_readComparison 39 = .ok (.return_, 1) := by decide +kernel
theorem dX6_readComparison_40 : decode cX6_readComparison 40 = .ok (.aload_n 0, 1) := by decide +kernel
theorem dX6_readComparison_41 : decode cX6_readComparison 41 = .ok (.getfield 18, 3) := by decide +kernel
theorem dX6_readComparison_44 : decode cX6_readComparison 44 = .ok (.invokevirtual 49, 3) := by decide +kernel
theorem dX6_readComparison_47 : decode cX6_readComparison 47 = .ok (.aload_n 0, 1) := by decide +kernel
theorem dX6_readComparison_48 : decode cX6_readComparison 48 = .ok (.iload_n 1, 1) := by decide +kernel
theorem dX6_readComparison_49 : decode cX6_readComparison 49 = .ok (.invokevirtual 55, 3) := by decide +kernel
theorem dX6_readComparison_52 : decode cX6_readComparison 52 = .ok (.aload_n 0, 1) := by decide +kernel
theorem dX6_readComparison_53 : decode cX6_readComparison 53 = .ok (.getfield 12, 3) := by decide +kernel
theorem dX6_readComparison_56 : decode cX6_readComparison 56 = .ok (.iload_n 2, 1) := by decide +kernel
theorem dX6_readComparison_57 : decode cX6_readComparison 57 = .ok (.iconst 0, 1) := by decide +kernel
theorem dX6_readComparison_58 : decode cX6_readComparison 58 = .ok (.invokevirtual 58, 3) := by decide +kernel
theorem dX6_readComparison_61 : decode cX6_readComparison 61 = .ok (.pop, 1) := by decide +kernel
theorem dX6_readComparison_62 : decode cX6_readComparison 62 = .ok (.return_, 1) := by decide +kernel
theorem dX6_readSum_0 : decode cX6_readSum 0 = .ok (.aload_n 0, 1) := by decide +kernel
theorem dX6_readSum_1 : decode cX6_readSum 1 = .ok (.iload_n 1, 1) := by decide +kernel
theorem dX6_readSum_2 : decode cX6_readSum 2 = .ok (.invokevirtual 86, 3) := by decide +kernel
theorem dX6_readSum_5 : decode cX6_readSum 5 = .ok (.iconst 0, 1) := by decide +kernel
