theorem dX12_firstHome_32 : decode cX12_firstHome 32 = .ok (.iconst 0, 1) := by decide +kernel
theorem dX12_firstHome_33 : decode cX12_firstHome 33 = .ok (.istore_n 3, 1) := by decide +kernel
theorem dX12_firstHome_34 : decode cX12_firstHome 34 = .ok (.aload_n 0, 1) := by decide +kernel
theorem dX12_firstHome_35 : decode cX12_firstHome 35 = .ok (.iconst 1, 1) := by decide +kernel
theorem dX12_firstHome_36 : decode cX12_firstHome 36 = .ok (.invokevirtual 340, 3) := by decide +kernel
theorem dX12_firstHome_39 : decode cX12_firstHome 39 = .ok (.ifCond .ne 32, 3) := by decide +kernel
theorem dX12_firstHome_42 : decode cX12_firstHome 42 = .ok (.iload_n 3, 1) := by decide +kernel
theorem dX12_firstHome_43 : decode cX12_firstHome 43 = .ok (.iload_n 1, 1) := by decide +kernel
theorem dX12_firstHome_44 : decode cX12_firstHome 44 = .ok (.if_icmp .ge 27, 3) := by decide +kernel
theorem dX12_firstHome_47 : decode cX12_firstHome 47 = .ok (.aload_n 0, 1) := by decide +kernel
theorem dX12_firstHome_48 : decode cX12_firstHome 48 = .ok (.getfield 7, 3) := by decide +kernel
theorem dX12_firstHome_51 : decode cX12_firstHome 51 = .ok (.bipush 30, 2) := by decide +kernel
theorem dX12_firstHome_53 : decode cX12_firstHome 53 = .ok (.iaload, 1) := by decide +kernel
theorem dX12_firstHome_54 : decode cX12_firstHome 54 = .ok (.sipush 9999, 3) := by decide +kernel
theorem dX12_firstHome_57 : decode cX12_firstHome 57 = .ok (.if_icmp .ge 14, 3) := by decide +kernel
theorem dX12_firstHome_60 : decode cX12_firstHome 60 = .ok (.aload_n 0, 1) := by decide +kernel
theorem dX12_firstHome_61 : decode cX12_firstHome 61 = .ok (.invokevirtual 334, 3) := by decide +kernel
theorem dX12_firstHome_64 : decode cX12_firstHome 64 = .ok (.iload_n 3, 1) := by decide +kernel
theorem dX12_firstHome_65 : decode cX12_firstHome 65 = .ok (.iconst 1, 1) := by decide +kernel
theorem dX12_firstHome_66 : decode cX12_firstHome 66 = .ok (.iadd, 1) := by decide +kernel
theorem dX12_firstHome_67 : decode cX12_firstHome 67 = .ok (.istore_n 3, 1) := by decide +kernel
theorem dX12_firstHome_68 : decode cX12_firstHome 68 = .ok (.goto (-34), 3) := by decide +kernel
theorem dX12_firstHome_71 : decode cX12_firstHome 71 = .ok (.aload_n 0, 1) := by decide +kernel
theorem dX12_firstHome_72 : decode cX12_firstHome 72 = .ok (.iconst 1, 1) := by decide +kernel
theorem dX12_firstHome_73 : decode cX12_firstHome 73 = .ok (.invokevirtual 340, 3) := by decide +kernel
theorem dX12_firstHome_76 : decode cX12_firstHome 76 = .ok (.istore 4, 2) := by decide +kernel
theorem dX12_firstHome_78 : decode cX12_firstHome 78 = .ok (.aload_n 0, 1) := by decide +kernel
theorem dX12_firstHome_79 : decode cX12_firstHome 79 = .ok (.getfield 13, 3) := by decide +kernel
theorem dX12_firstHome_82 : decode cX12_firstHome 82 = .ok (.aload_n 0, 1) := by decide +kernel
theorem dX12_firstHome_83 : decode cX12_firstHome 83 = .ok (.getfield 7, 3) := by decide +kernel
theorem dX12_firstHome_86 : decode cX12_firstHome 86 = .ok (.invokestatic 346, 3) := by decide +kernel
theorem dX12_firstHome_89 : decode cX12_firstHome 89 = .ok (.iload 4, 2) := by decide +kernel
theorem dX12_firstHome_91 : decode cX12_firstHome 91 = .ok (.ifCond .ne 6, 3) := by decide +kernel
theorem dX12_firstHome_94 : decode cX12_firstHome 94 = .ok (.bipush (-2), 2) := by decide +kernel
theorem dX12_firstHome_96 : decode cX12_firstHome 96 = .ok (.ireturn, 1) := by decide +kernel
theorem dX12_firstHome_97 : decode cX12_firstHome 97 = .ok (.iload_n 2, 1) := by decide +kernel
theorem dX12_firstHome_98 : decode cX12_firstHome 98 = .ok (.ifCond .ne 7, 3) := by decide +kernel
theorem dX12_firstHome_101 : decode cX12_firstHome 101 = .ok (.iload_n 3, 1) := by decide +kernel
theorem dX12_firstHome_102 : decode cX12_firstHome 102 = .ok (.goto 8, 3) := by decide +kernel
theorem dX12_firstHome_105 : decode cX12_firstHome 105 = .ok (.iload 4, 2) := by decide +kernel
theorem dX12_firstHome_107 : decode cX12_firstHome 107 = .ok (.invokestatic 353, 3) := by decide +kernel
theorem dX12_firstHome_110 : decode cX12_firstHome 110 = .ok (.ireturn, 1) := by decide +kernel
theorem dX12_where_0 : decode cX12_where 0 = .ok (.aload_n 0, 1) := by decide +kernel
theorem dX12_where_1 : decode cX12_where 1 = .ok (.iload_n 1, 1) := by decide +kernel
theorem dX12_where_2 : decode cX12_where 2 = .ok (.invokevirtual 122, 3) := by decide +kernel
theorem dX12_where_5 : decode cX12_where 5 = .ok (.ifCond .eq 14, 3) := by decide +kernel
theorem dX12_where_8 : decode cX12_where 8 = .ok (.iload_n 2, 1) := by decide +kernel
theorem dX12_where_9 : decode cX12_where 9 = .ok (.iconst 0, 1) := by decide +kernel
theorem dX12_where_10 : decode cX12_where 10 = .ok (.sipush 20000, 3) := by decide +kernel
theorem dX12_where_13 : decode cX12_where 13 = .ok (.invokestatic 118, 3) := by decide +kernel
theorem dX12_where_16 : decode cX12_where 16 = .ok (.ifCond .ne 5, 3) := by decide +kernel
theorem dX12_where_19 : decode cX12_where 19 = .ok (.iconst (-1), 1) := by decide +kernel
theorem dX12_where_20 : decode cX12_where 20 = .ok (.ireturn, 1) := by decide +kernel
theorem dX12_where_21 : decode cX12_where 21 = .ok (.aload_n 0, 1) := by decide +kernel
theorem dX12_where_22 : decode cX12_where 22 = .ok (.iload_n 1, 1) := by decide +kernel
theorem dX12_where_23 : decode cX12_where 23 = .ok (.iload_n 2, 1) := by decide +kernel
theorem dX12_where_24 : decode cX12_where 24 = .ok (.invokevirtual 356, 3) := by decide +kernel
theorem dX12_where_27 : decode cX12_where 27 = .ok (.istore_n 3, 1) := by decide +kernel
theorem dX12_where_28 : decode cX12_where 28 = .ok (.iload_n 3, 1) := by decide +kernel
theorem dX12_where_29 : decode cX12_where 29 = .ok (.iconst (-1), 1) := by decide +kernel
theorem dX12_where_30 : decode cX12_where 30 = .ok (.if_icmp .ne 8, 3) := by decide +kernel
theorem dX12_where_33 : decode cX12_where 33 = .ok (.bipush (-2), 2) := by decide +kernel
theorem dX12_where_35 : decode cX12_where 35 = .ok (.goto 4, 3) := by decide +kernel
theorem dX12_where_38 : decode cX12_where 38 = .ok (.iload_n 3, 1) := by decide +kernel
theorem dX12_where_39 : decode cX12_where 39 = .ok (.ireturn, 1) := by decide +kernel
theorem dX12_freshest_0 : decode cX12_freshest 0 = .ok (.iload_n 1, 1) := by decide +kernel
theorem dX12_freshest_1 : decode cX12_freshest 1 = .ok (.iload_n 2, 1) := by decide +kernel
theorem dX12_freshest_2 : decode cX12_freshest 2 = .ok (.invokestatic 126, 3) := by decide +kernel
theorem dX12_freshest_5 : decode cX12_freshest 5 = .ok (.ifCond .eq 12, 3) := by decide +kernel
theorem dX12_freshest_8 : decode cX12_freshest 8 = .ok (.iload_n 3, 1) := by decide +kernel
theorem dX12_freshest_9 : decode cX12_freshest 9 = .ok (.iconst 0, 1) := by decide +kernel
theorem dX12_freshest_10 : decode cX12_freshest 10 = .ok (.iconst 2, 1) := by decide +kernel
theorem dX12_freshest_11 : decode cX12_freshest 11 = .ok (.invokestatic 118, 3) := by decide +kernel
theorem dX12_freshest_14 : decode cX12_freshest 14 = .ok (.ifCond .ne 5, 3) := by decide +kernel
theorem dX12_freshest_17 : decode cX12_freshest 17 = .ok (.iconst (-1), 1) := by decide +kernel
theorem dX12_freshest_18 : decode cX12_freshest 18 = .ok (.ireturn, 1) := by decide +kernel
theorem dX12_freshest_19 : decode cX12_freshest 19 = .ok (.bipush (-2), 2) := by decide +kernel
theorem dX12_freshest_21 : decode cX12_freshest 21 = .ok (.istore 4, 2) := by decide +kernel
theorem dX12_freshest_23 : decode cX12_freshest 23 = .ok (.bipush (-2), 2) := by decide +kernel
theorem dX12_freshest_25 : decode cX12_freshest 25 = .ok (.istore 5, 2) := by decide +kernel
theorem dX12_freshest_27 : decode cX12_freshest 27 = .ok (.iconst 0, 1) := by decide +kernel
theorem dX12_freshest_28 : decode cX12_freshest 28 = .ok (.istore 6, 2) := by decide +kernel
theorem dX12_freshest_30 : decode cX12_freshest 30 = .ok (.iconst 0, 1) := by decide +kernel
theorem dX12_freshest_31 : decode cX12_freshest 31 = .ok (.istore 7, 2) := by decide +kernel
theorem dX12_freshest_33 : decode cX12_freshest 33 = .ok (.iload 7, 2) := by decide +kernel
theorem dX12_freshest_35 : decode cX12_freshest 35 = .ok (.bipush 8, 2) := by decide +kernel
theorem dX12_freshest_37 : decode cX12_freshest 37 = .ok (.if_icmp .ge 115, 3) := by decide +kernel
theorem dX12_freshest_40 : decode cX12_freshest 40 = .ok (.iconst 0, 1) := by decide +kernel
theorem dX12_freshest_41 : decode cX12_freshest 41 = .ok (.istore 8, 2) := by decide +kernel
theorem dX12_freshest_43 : decode cX12_freshest 43 = .ok (.iload 8, 2) := by decide +kernel
theorem dX12_freshest_45 : decode cX12_freshest 45 = .ok (.aload_n 0, 1) := by decide +kernel
theorem dX12_freshest_46 : decode cX12_freshest 46 = .ok (.getfield 19, 3) := by decide +kernel
theorem dX12_freshest_49 : decode cX12_freshest 49 = .ok (.iload 7, 2) := by decide +kernel
theorem dX12_freshest_51 : decode cX12_freshest 51 = .ok (.iaload, 1) := by decide +kernel
theorem dX12_freshest_52 : decode cX12_freshest 52 = .ok (.if_icmp .gt 94, 3) := by decide +kernel
theorem dX12_freshest_55 : decode cX12_freshest 55 = .ok (.aload_n 0, 1) := by decide +kernel
theorem dX12_freshest_56 : decode cX12_freshest 56 = .ok (.iload 7, 2) := by decide +kernel
theorem dX12_freshest_58 : decode cX12_freshest 58 = .ok (.invokevirtual 122, 3) := by decide +kernel
theorem dX12_freshest_61 : decode cX12_freshest 61 = .ok (.ifCond .eq 85, 3) := by decide +kernel
theorem dX12_freshest_64 : decode cX12_freshest 64 = .ok (.aload_n 0, 1) := by decide +kernel
theorem dX12_freshest_65 : decode cX12_freshest 65 = .ok (.getfield 28, 3) := by decide +kernel
theorem dX12_freshest_68 : decode cX12_freshest 68 = .ok (.bipush 97, 2) := by decide +kernel
theorem dX12_freshest_70 : decode cX12_freshest 70 = .ok (.iload 7, 2) := by decide +kernel
theorem dX12_freshest_72 : decode cX12_freshest 72 = .ok (.imul, 1) := by decide +kernel
theorem dX12_freshest_73 : decode cX12_freshest 73 = .ok (.iload 8, 2) := by decide +kernel
theorem dX12_freshest_75 : decode cX12_freshest 75 = .ok (.iadd, 1) := by decide +kernel
theorem dX12_freshest_76 : decode cX12_freshest 76 = .ok (.iaload, 1) := by decide +kernel
theorem dX12_freshest_77 : decode cX12_freshest 77 = .ok (.bipush 16, 2) := by decide +kernel
theorem dX12_freshest_79 : decode cX12_freshest 79 = .ok (.iload_n 2, 1) := by decide +kernel
theorem dX12_freshest_80 : decode cX12_freshest 80 = .ok (.imul, 1) := by decide +kernel
theorem dX12_freshest_81 : decode cX12_freshest 81 = .ok (.iload_n 1, 1) := by decide +kernel
theorem dX12_freshest_82 : decode cX12_freshest 82 = .ok (.iadd, 1) := by decide +kernel
theorem dX12_freshest_83 : decode cX12_freshest 83 = .ok (.if_icmp .ne 57, 3) := by decide +kernel
theorem dX12_freshest_86 : decode cX12_freshest 86 = .ok (.aload_n 0, 1) := by decide +kernel
theorem dX12_freshest_87 : decode cX12_freshest 87 = .ok (.iload 7, 2) := by decide +kernel
theorem dX12_freshest_89 : decode cX12_freshest 89 = .ok (.iload 8, 2) := by decide +kernel
theorem dX12_freshest_91 : decode cX12_freshest 91 = .ok (.invokevirtual 295, 3) := by decide +kernel
theorem dX12_freshest_94 : decode cX12_freshest 94 = .ok (.ifCond .ne 6, 3) := by decide +kernel
theorem dX12_freshest_97 : decode cX12_freshest 97 = .ok (.goto 43, 3) := by decide +kernel
theorem dX12_freshest_100 : decode cX12_freshest 100 = .ok (.iload 6, 2) := by decide +kernel
theorem dX12_freshest_102 : decode cX12_freshest 102 = .ok (.iconst 1, 1) := by decide +kernel
theorem dX12_freshest_103 : decode cX12_freshest 103 = .ok (.iadd, 1) := by decide +kernel
theorem dX12_freshest_104 : decode cX12_freshest 104 = .ok (.istore 6, 2) := by decide +kernel
theorem dX12_freshest_106 : decode cX12_freshest 106 = .ok (.aload_n 0, 1) := by decide +kernel
theorem dX12_freshest_107 : decode cX12_freshest 107 = .ok (.getfield 22, 3) := by decide +kernel
theorem dX12_freshest_110 : decode cX12_freshest 110 = .ok (.iload 7, 2) := by decide +kernel
theorem dX12_freshest_112 : decode cX12_freshest 112 = .ok (.iaload, 1) := by decide +kernel
theorem dX12_freshest_113 : decode cX12_freshest 113 = .ok (.iload 8, 2) := by decide +kernel
theorem dX12_freshest_115 : decode cX12_freshest 115 = .ok (.iadd, 1) := by decide +kernel
theorem dX12_freshest_116 : decode cX12_freshest 116 = .ok (.iload 4, 2) := by decide +kernel
theorem dX12_freshest_118 : decode cX12_freshest 118 = .ok (.if_icmp .gt 6, 3) := by decide +kernel
theorem dX12_freshest_121 : decode cX12_freshest 121 = .ok (.goto 19, 3) := by decide +kernel
theorem dX12_freshest_124 : decode cX12_freshest 124 = .ok (.aload_n 0, 1) := by decide +kernel
theorem dX12_freshest_125 : decode cX12_freshest 125 = .ok (.getfield 22, 3) := by decide +kernel
theorem dX12_freshest_128 : decode cX12_freshest 128 = .ok (.iload 7, 2) := by decide +kernel
theorem dX12_freshest_130 : decode cX12_freshest 130 = .ok (.iaload, 1) := by decide +kernel
theorem dX12_freshest_131 : decode cX12_freshest 131 = .ok (.iload 8, 2) := by decide +kernel
theorem dX12_freshest_133 : decode cX12_freshest 133 = .ok (.iadd, 1) := by decide +kernel
theorem dX12_freshest_134 : decode cX12_freshest 134 = .ok (.istore 4, 2) := by decide +kernel
theorem dX12_freshest_136 : decode cX12_freshest 136 = .ok (.iload 7, 2) := by decide +kernel
theorem dX12_freshest_138 : decode cX12_freshest 138 = .ok (.istore 5, 2) := by decide +kernel
theorem dX12_freshest_140 : decode cX12_freshest 140 = .ok (.iinc 8 1, 3) := by decide +kernel
theorem dX12_freshest_143 : decode cX12_freshest 143 = .ok (.goto (-100), 3) := by decide +kernel
theorem dX12_freshest_146 : decode cX12_freshest 146 = .ok (.iinc 7 1, 3) := by decide +kernel
theorem dX12_freshest_149 : decode cX12_freshest 149 = .ok (.goto (-116), 3) := by decide +kernel
theorem dX12_freshest_152 : decode cX12_freshest 152 = .ok (.iload_n 3, 1) := by decide +kernel
theorem dX12_freshest_153 : decode cX12_freshest 153 = .ok (.ifCond .ne 8, 3) := by decide +kernel
theorem dX12_freshest_156 : decode cX12_freshest 156 = .ok (.iload 4, 2) := by decide +kernel
theorem dX12_freshest_158 : decode cX12_freshest 158 = .ok (.goto 15, 3) := by decide +kernel
theorem dX12_freshest_161 : decode cX12_freshest 161 = .ok (.iload_n 3, 1) := by decide +kernel
theorem dX12_freshest_162 : decode cX12_freshest 162 = .ok (.iconst 1, 1) := by decide +kernel
theorem dX12_freshest_163 : decode cX12_freshest 163 = .ok (.if_icmp .ne 8, 3) := by decide +kernel
theorem dX12_freshest_166 : decode cX12_freshest 166 = .ok (.iload 5, 2) := by decide +kernel
theorem dX12_freshest_168 : decode cX12_freshest 168 = .ok (.goto 5, 3) := by decide +kernel
theorem dX12_freshest_171 : decode cX12_freshest 171 = .ok (.iload 6, 2) := by decide +kernel
theorem dX12_freshest_173 : decode cX12_freshest 173 = .ok (.ireturn, 1) := by decide +kernel
theorem dX12_isOn_0 : decode cX12_isOn 0 = .ok (.iconst 0, 1) := by decide +kernel
theorem dX12_isOn_1 : decode cX12_isOn 1 = .ok (.istore_n 3, 1) := by decide +kernel
theorem dX12_isOn_2 : decode cX12_isOn 2 = .ok (.iload_n 3, 1) := by decide +kernel
theorem dX12_isOn_3 : decode cX12_isOn 3 = .ok (.aload_n 0, 1) := by decide +kernel
theorem dX12_isOn_4 : decode cX12_isOn 4 = .ok (.getfield 19, 3) := by decide +kernel
theorem dX12_isOn_7 : decode cX12_isOn 7 = .ok (.iload_n 1, 1) := by decide +kernel
theorem dX12_isOn_8 : decode cX12_isOn 8 = .ok (.iaload, 1) := by decide +kernel
theorem dX12_isOn_9 : decode cX12_isOn 9 = .ok (.if_icmp .gt 26, 3) := by decide +kernel
theorem dX12_isOn_12 : decode cX12_isOn 12 = .ok (.aload_n 0, 1) := by decide +kernel
theorem dX12_isOn_13 : decode cX12_isOn 13 = .ok (.getfield 28, 3) := by decide +kernel
theorem dX12_isOn_16 : decode cX12_isOn 16 = .ok (.bipush 97, 2) := by decide +kernel
theorem dX12_isOn_18 : decode cX12_isOn 18 = .ok (.iload_n 1, 1) := by decide +kernel
theorem dX12_isOn_19 : decode cX12_isOn 19 = .ok (.imul, 1) := by decide +kernel
theorem dX12_isOn_20 : decode cX12_isOn 20 = .ok (.iload_n 3, 1) := by decide +kernel
theorem dX12_isOn_21 : decode cX12_isOn 21 = .ok (.iadd, 1) := by decide +kernel
theorem dX12_isOn_22 : decode cX12_isOn 22 = .ok (.iaload, 1) := by decide +kernel
theorem dX12_isOn_23 : decode cX12_isOn 23 = .ok (.iload_n 2, 1) := by decide +kernel
theorem dX12_isOn_24 : decode cX12_isOn 24 = .ok (.if_icmp .ne 5, 3) := by decide +kernel
theorem dX12_isOn_27 : decode cX12_isOn 27 = .ok (.iconst 1, 1) := by decide +kernel
theorem dX12_isOn_28 : decode cX12_isOn 28 = .ok (.ireturn, 1) := by decide +kernel
theorem dX12_isOn_29 : decode cX12_isOn 29 = .ok (.iinc 3 1, 3) := by decide +kernel
theorem dX12_isOn_32 : decode cX12_isOn 32 = .ok (.goto (-30), 3) := by decide +kernel
theorem dX12_isOn_35 : decode cX12_isOn 35 = .ok (.iconst 0, 1) := by decide +kernel
theorem dX12_isOn_36 : decode cX12_isOn 36 = .ok (.ireturn, 1) := by decide +kernel
theorem dX12_apartAt_0 : decode cX12_apartAt 0 = .ok (.aload_n 0, 1) := by decide +kernel
theorem dX12_apartAt_1 : decode cX12_apartAt 1 = .ok (.iload_n 1, 1) := by decide +kernel
theorem dX12_apartAt_2 : decode cX12_apartAt 2 = .ok (.iload_n 3, 1) := by decide +kernel
theorem dX12_apartAt_3 : decode cX12_apartAt 3 = .ok (.invokevirtual 356, 3) := by decide +kernel
theorem dX12_apartAt_6 : decode cX12_apartAt 6 = .ok (.istore 4, 2) := by decide +kernel
theorem dX12_apartAt_8 : decode cX12_apartAt 8 = .ok (.aload_n 0, 1) := by decide +kernel
theorem dX12_apartAt_9 : decode cX12_apartAt 9 = .ok (.iload_n 2, 1) := by decide +kernel
theorem dX12_apartAt_10 : decode cX12_apartAt 10 = .ok (.iload_n 3, 1) := by decide +kernel
theorem dX12_apartAt_11 : decode cX12_apartAt 11 = .ok (.invokevirtual 356, 3) := by decide +kernel
theorem dX12_apartAt_14 : decode cX12_apartAt 14 = .ok (.istore 5, 2) := by decide +kernel
theorem dX12_apartAt_16 : decode cX12_apartAt 16 = .ok (.iload 4, 2) := by decide +kernel
theorem dX12_apartAt_18 : decode cX12_apartAt 18 = .ok (.iconst (-1), 1) := by decide +kernel
theorem dX12_apartAt_19 : decode cX12_apartAt 19 = .ok (.if_icmp .eq 9, 3) := by decide +kernel
theorem dX12_apartAt_22 : decode cX12_apartAt 22 = .ok (.iload 5, 2) := by decide +kernel
theorem dX12_apartAt_24 : decode cX12_apartAt 24 = .ok (.iconst (-1), 1) := by decide +kernel
theorem dX12_apartAt_25 : decode cX12_apartAt 25 = .ok (.if_icmp .ne 5, 3) := by decide +kernel
theorem dX12_apartAt_28 : decode cX12_apartAt 28 = .ok (.iconst (-1), 1) := by decide +kernel
theorem dX12_apartAt_29 : decode cX12_apartAt 29 = .ok (.ireturn, 1) := by decide +kernel
theorem dX12_apartAt_30 : decode cX12_apartAt 30 = .ok (.iload 4, 2) := by decide +kernel
theorem dX12_apartAt_32 : decode cX12_apartAt 32 = .ok (.bipush 16, 2) := by decide +kernel
theorem dX12_apartAt_34 : decode cX12_apartAt 34 = .ok (.irem, 1) := by decide +kernel
theorem dX12_apartAt_35 : decode cX12_apartAt 35 = .ok (.iload 5, 2) := by decide +kernel
theorem dX12_apartAt_37 : decode cX12_apartAt 37 = .ok (.bipush 16, 2) := by decide +kernel
theorem dX12_apartAt_39 : decode cX12_apartAt 39 = .ok (.irem, 1) := by decide +kernel
theorem dX12_apartAt_40 : decode cX12_apartAt 40 = .ok (.isub, 1) := by decide +kernel
theorem dX12_apartAt_41 : decode cX12_apartAt 41 = .ok (.invokestatic 359, 3) := by decide +kernel
theorem dX12_apartAt_44 : decode cX12_apartAt 44 = .ok (.iload 4, 2) := by decide +kernel
theorem dX12_apartAt_46 : decode cX12_apartAt 46 = .ok (.bipush 16, 2) := by decide +kernel
theorem dX12_apartAt_48 : decode cX12_apartAt 48 = .ok (.idiv, 1) := by decide +kernel
theorem dX12_apartAt_49 : decode cX12_apartAt 49 = .ok (.iload 5, 2) := by decide +kernel
theorem dX12_apartAt_51 : decode cX12_apartAt 51 = .ok (.bipush 16, 2) := by decide +kernel
theorem dX12_apartAt_53 : decode cX12_apartAt 53 = .ok (.idiv, 1) := by decide +kernel
theorem dX12_apartAt_54 : decode cX12_apartAt 54 = .ok (.isub, 1) := by decide +kernel
theorem dX12_apartAt_55 : decode cX12_apartAt 55 = .ok (.invokestatic 359, 3) := by decide +kernel
theorem dX12_apartAt_58 : decode cX12_apartAt 58 = .ok (.iadd, 1) := by decide +kernel
theorem dX12_apartAt_59 : decode cX12_apartAt 59 = .ok (.ireturn, 1) := by decide +kernel
theorem dX12_crossedBy_0 : decode cX12_crossedBy 0 = .ok (.iconst 0, 1) := by decide +kernel
theorem dX12_crossedBy_1 : decode cX12_crossedBy 1 = .ok (.istore_n 3, 1) := by decide +kernel
theorem dX12_crossedBy_2 : decode cX12_crossedBy 2 = .ok (.iconst 0, 1) := by decide +kernel
theorem dX12_crossedBy_3 : decode cX12_crossedBy 3 = .ok (.istore 4, 2) := by decide +kernel
theorem dX12_crossedBy_5 : decode cX12_crossedBy 5 = .ok (.iload 4, 2) := by decide +kernel
theorem dX12_crossedBy_7 : decode cX12_crossedBy 7 = .ok (.sipush 192, 3) := by decide +kernel
theorem dX12_crossedBy_10 : decode cX12_crossedBy 10 = .ok (.if_icmp .ge 33, 3) := by decide +kernel
theorem dX12_crossedBy_13 : decode cX12_crossedBy 13 = .ok (.aload_n 0, 1) := by decide +kernel
theorem dX12_crossedBy_14 : decode cX12_crossedBy 14 = .ok (.iload_n 1, 1) := by decide +kernel
theorem dX12_crossedBy_15 : decode cX12_crossedBy 15 = .ok (.iload 4, 2) := by decide +kernel
theorem dX12_crossedBy_17 : decode cX12_crossedBy 17 = .ok (.invokevirtual 362, 3) := by decide +kernel
theorem dX12_crossedBy_20 : decode cX12_crossedBy 20 = .ok (.ifCond .eq 17, 3) := by decide +kernel
theorem dX12_crossedBy_23 : decode cX12_crossedBy 23 = .ok (.aload_n 0, 1) := by decide +kernel
theorem dX12_crossedBy_24 : decode cX12_crossedBy 24 = .ok (.iload_n 2, 1) := by decide +kernel
theorem dX12_crossedBy_25 : decode cX12_crossedBy 25 = .ok (.iload 4, 2) := by decide +kernel
theorem dX12_crossedBy_27 : decode cX12_crossedBy 27 = .ok (.invokevirtual 362, 3) := by decide +kernel
theorem dX12_crossedBy_30 : decode cX12_crossedBy 30 = .ok (.ifCond .eq 7, 3) := by decide +kernel
theorem dX12_crossedBy_33 : decode cX12_crossedBy 33 = .ok (.iload_n 3, 1) := by decide +kernel
theorem dX12_crossedBy_34 : decode cX12_crossedBy 34 = .ok (.iconst 1, 1) := by decide +kernel
theorem dX12_crossedBy_35 : decode cX12_crossedBy 35 = .ok (.iadd, 1) := by decide +kernel
theorem dX12_crossedBy_36 : decode cX12_crossedBy 36 = .ok (.istore_n 3, 1) := by decide +kernel
theorem dX12_crossedBy_37 : decode cX12_crossedBy 37 = .ok (.iinc 4 1, 3) := by decide +kernel
theorem dX12_crossedBy_40 : decode cX12_crossedBy 40 = .ok (.goto (-35), 3) := by decide +kernel
theorem dX12_crossedBy_43 : decode cX12_crossedBy 43 = .ok (.iload_n 3, 1) := by decide +kernel
theorem dX12_crossedBy_44 : decode cX12_crossedBy 44 = .ok (.ireturn, 1) := by decide +kernel
theorem dX12_two_0 : decode cX12_two 0 = .ok (.aload_n 0, 1) := by decide +kernel
theorem dX12_two_1 : decode cX12_two 1 = .ok (.iload_n 1, 1) := by decide +kernel
theorem dX12_two_2 : decode cX12_two 2 = .ok (.iload_n 2, 1) := by decide +kernel
theorem dX12_two_3 : decode cX12_two 3 = .ok (.invokevirtual 365, 3) := by decide +kernel
theorem dX12_two_6 : decode cX12_two 6 = .ok (.ifCond .eq 12, 3) := by decide +kernel
theorem dX12_two_9 : decode cX12_two 9 = .ok (.iload_n 3, 1) := by decide +kernel
theorem dX12_two_10 : decode cX12_two 10 = .ok (.iconst 0, 1) := by decide +kernel
theorem dX12_two_11 : decode cX12_two 11 = .ok (.iconst 3, 1) := by decide +kernel
theorem dX12_two_12 : decode cX12_two 12 = .ok (.invokestatic 118, 3) := by decide +kernel
theorem dX12_two_15 : decode cX12_two 15 = .ok (.ifCond .ne 5, 3) := by decide +kernel
theorem dX12_two_18 : decode cX12_two 18 = .ok (.iconst (-1), 1) := by decide +kernel
theorem dX12_two_19 : decode cX12_two 19 = .ok (.ireturn, 1) := by decide +kernel
theorem dX12_two_20 : decode cX12_two 20 = .ok (.iload_n 3, 1) := by decide +kernel
theorem dX12_two_21 : decode cX12_two 21 = .ok (.ifCond .ne 10, 3) := by decide +kernel
theorem dX12_two_24 : decode cX12_two 24 = .ok (.aload_n 0, 1) := by decide +kernel
theorem dX12_two_25 : decode cX12_two 25 = .ok (.iload_n 1, 1) := by decide +kernel
theorem dX12_two_26 : decode cX12_two 26 = .ok (.iload_n 2, 1) := by decide +kernel
theorem dX12_two_27 : decode cX12_two 27 = .ok (.invokevirtual 368, 3) := by decide +kernel
theorem dX12_two_30 : decode cX12_two 30 = .ok (.ireturn, 1) := by decide +kernel
theorem dX12_two_31 : decode cX12_two 31 = .ok (.bipush (-2), 2) := by decide +kernel
theorem dX12_two_33 : decode cX12_two 33 = .ok (.istore 4, 2) := by decide +kernel
theorem dX12_two_35 : decode cX12_two 35 = .ok (.bipush (-2), 2) := by decide +kernel
theorem dX12_two_37 : decode cX12_two 37 = .ok (.istore 5, 2) := by decide +kernel
theorem dX12_two_39 : decode cX12_two 39 = .ok (.aload_n 0, 1) := by decide +kernel
theorem dX12_two_40 : decode cX12_two 40 = .ok (.getfield 22, 3) := by decide +kernel
theorem dX12_two_43 : decode cX12_two 43 = .ok (.iload_n 1, 1) := by decide +kernel
theorem dX12_two_44 : decode cX12_two 44 = .ok (.iaload, 1) := by decide +kernel
theorem dX12_two_45 : decode cX12_two 45 = .ok (.istore 6, 2) := by decide +kernel
theorem dX12_two_47 : decode cX12_two 47 = .ok (.iload 6, 2) := by decide +kernel
theorem dX12_two_49 : decode cX12_two 49 = .ok (.aload_n 0, 1) := by decide +kernel
theorem dX12_two_50 : decode cX12_two 50 = .ok (.getfield 22, 3) := by decide +kernel
theorem dX12_two_53 : decode cX12_two 53 = .ok (.iload_n 1, 1) := by decide +kernel
theorem dX12_two_54 : decode cX12_two 54 = .ok (.iaload, 1) := by decide +kernel
theorem dX12_two_55 : decode cX12_two 55 = .ok (.aload_n 0, 1) := by decide +kernel
theorem dX12_two_56 : decode cX12_two 56 = .ok (.getfield 19, 3) := by decide +kernel
theorem dX12_two_59 : decode cX12_two 59 = .ok (.iload_n 1, 1) := by decide +kernel
theorem dX12_two_60 : decode cX12_two 60 = .ok (.iaload, 1) := by decide +kernel
theorem dX12_two_61 : decode cX12_two 61 = .ok (.iadd, 1) := by decide +kernel
theorem dX12_two_62 : decode cX12_two 62 = .ok (.if_icmp .gt 50, 3) := by decide +kernel
theorem dX12_two_65 : decode cX12_two 65 = .ok (.aload_n 0, 1) := by decide +kernel
theorem dX12_two_66 : decode cX12_two 66 = .ok (.iload_n 1, 1) := by decide +kernel
theorem dX12_two_67 : decode cX12_two 67 = .ok (.iload_n 2, 1) := by decide +kernel
theorem dX12_two_68 : decode cX12_two 68 = .ok (.iload 6, 2) := by decide +kernel
theorem dX12_two_70 : decode cX12_two 70 = .ok (.invokevirtual 371, 3) := by decide +kernel
theorem dX12_two_73 : decode cX12_two 73 = .ok (.istore 7, 2) := by decide +kernel
theorem dX12_two_75 : decode cX12_two 75 = .ok (.iload 7, 2) := by decide +kernel
theorem dX12_two_77 : decode cX12_two 77 = .ok (.iconst (-1), 1) := by decide +kernel
theorem dX12_two_78 : decode cX12_two 78 = .ok (.if_icmp .eq 28, 3) := by decide +kernel
theorem dX12_two_81 : decode cX12_two 81 = .ok (.iload 4, 2) := by decide +kernel
theorem dX12_two_83 : decode cX12_two 83 = .ok (.bipush (-2), 2) := by decide +kernel
theorem dX12_two_85 : decode cX12_two 85 = .ok (.if_icmp .eq 13, 3) := by decide +kernel
theorem dX12_two_88 : decode cX12_two 88 = .ok (.iload 7, 2) := by decide +kernel
theorem dX12_two_90 : decode cX12_two 90 = .ok (.iload 4, 2) := by decide +kernel
theorem dX12_two_92 : decode cX12_two 92 = .ok (.if_icmp .lt 6, 3) := by decide +kernel
theorem dX12_two_95 : decode cX12_two 95 = .ok (.goto 11, 3) := by decide +kernel
theorem dX12_two_98 : decode cX12_two 98 = .ok (.iload 7, 2) := by decide +kernel
theorem dX12_two_100 : decode cX12_two 100 = .ok (.istore 4, 2) := by decide +kernel
theorem dX12_two_102 : decode cX12_two 102 = .ok (.iload 6, 2) := by decide +kernel
theorem dX12_two_104 : decode cX12_two 104 = .ok (.istore 5, 2) := by decide +kernel
theorem dX12_two_106 : decode cX12_two 106 = .ok (.iinc 6 1, 3) := by decide +kernel
theorem dX12_two_109 : decode cX12_two 109 = .ok (.goto (-62), 3) := by decide +kernel
theorem dX12_two_112 : decode cX12_two 112 = .ok (.iload_n 3, 1) := by decide +kernel
theorem dX12_two_113 : decode cX12_two 113 = .ok (.iconst 1, 1) := by decide +kernel
theorem dX12_two_114 : decode cX12_two 114 = .ok (.if_icmp .ne 16, 3) := by decide +kernel
theorem dX12_two_117 : decode cX12_two 117 = .ok (.iload 4, 2) := by decide +kernel
theorem dX12_two_119 : decode cX12_two 119 = .ok (.ifCond .ne 8, 3) := by decide +kernel
theorem dX12_two_122 : decode cX12_two 122 = .ok (.iload 5, 2) := by decide +kernel
theorem dX12_two_124 : decode cX12_two 124 = .ok (.goto 5, 3) := by decide +kernel
theorem dX12_two_127 : decode cX12_two 127 = .ok (.bipush (-2), 2) := by decide +kernel
theorem dX12_two_129 : decode cX12_two 129 = .ok (.ireturn, 1) := by decide +kernel
theorem dX12_two_130 : decode cX12_two 130 = .ok (.iload_n 3, 1) := by decide +kernel
theorem dX12_two_131 : decode cX12_two 131 = .ok (.iconst 2, 1) := by decide +kernel
theorem dX12_two_132 : decode cX12_two 132 = .ok (.if_icmp .ne 8, 3) := by decide +kernel
theorem dX12_two_135 : decode cX12_two 135 = .ok (.iload 4, 2) := by decide +kernel
theorem dX12_two_137 : decode cX12_two 137 = .ok (.goto 5, 3) := by decide +kernel
theorem dX12_two_140 : decode cX12_two 140 = .ok (.iload 5, 2) := by decide +kernel
theorem dX12_two_142 : decode cX12_two 142 = .ok (.ireturn, 1) := by decide +kernel
theorem dX12_together_0 : decode cX12_together 0 = .ok (.aload_n 0, 1) := by decide +kernel
theorem dX12_together_1 : decode cX12_together 1 = .ok (.iload_n 1, 1) := by decide +kernel
theorem dX12_together_2 : decode cX12_together 2 = .ok (.iload_n 2, 1) := by decide +kernel
theorem dX12_together_3 : decode cX12_together 3 = .ok (.invokevirtual 365, 3) := by decide +kernel
theorem dX12_together_6 : decode cX12_together 6 = .ok (.ifCond .eq 13, 3) := by decide +kernel
theorem dX12_together_9 : decode cX12_together 9 = .ok (.iload_n 3, 1) := by decide +kernel
theorem dX12_together_10 : decode cX12_together 10 = .ok (.iconst 0, 1) := by decide +kernel
theorem dX12_together_11 : decode cX12_together 11 = .ok (.bipush 26, 2) := by decide +kernel
theorem dX12_together_13 : decode cX12_together 13 = .ok (.invokestatic 118, 3) := by decide +kernel
theorem dX12_together_16 : decode cX12_together 16 = .ok (.ifCond .ne 5, 3) := by decide +kernel
theorem dX12_together_19 : decode cX12_together 19 = .ok (.iconst (-1), 1) := by decide +kernel
theorem dX12_together_20 : decode cX12_together 20 = .ok (.ireturn, 1) := by decide +kernel
theorem dX12_together_21 : decode cX12_together 21 = .ok (.iconst 0, 1) := by decide +kernel
theorem dX12_together_22 : decode cX12_together 22 = .ok (.istore 4, 2) := by decide +kernel
theorem dX12_together_24 : decode cX12_together 24 = .ok (.aload_n 0, 1) := by decide +kernel
theorem dX12_together_25 : decode cX12_together 25 = .ok (.getfield 22, 3) := by decide +kernel
theorem dX12_together_28 : decode cX12_together 28 = .ok (.iload_n 1, 1) := by decide +kernel
theorem dX12_together_29 : decode cX12_together 29 = .ok (.iaload, 1) := by decide +kernel
theorem dX12_together_30 : decode cX12_together 30 = .ok (.istore 5, 2) := by decide +kernel
theorem dX12_together_32 : decode cX12_together 32 = .ok (.iload 5, 2) := by decide +kernel
theorem dX12_together_34 : decode cX12_together 34 = .ok (.aload_n 0, 1) := by decide +kernel
theorem dX12_together_35 : decode cX12_together 35 = .ok (.getfield 22, 3) := by decide +kernel
theorem dX12_together_38 : decode cX12_together 38 = .ok (.iload_n 1, 1) := by decide +kernel
theorem dX12_together_39 : decode cX12_together 39 = .ok (.iaload, 1) := by decide +kernel
theorem dX12_together_40 : decode cX12_together 40 = .ok (.aload_n 0, 1) := by decide +kernel
theorem dX12_together_41 : decode cX12_together 41 = .ok (.getfield 19, 3) := by decide +kernel
theorem dX12_together_44 : decode cX12_together 44 = .ok (.iload_n 1, 1) := by decide +kernel
theorem dX12_together_45 : decode cX12_together 45 = .ok (.iaload, 1) := by decide +kernel
theorem dX12_together_46 : decode cX12_together 46 = .ok (.iadd, 1) := by decide +kernel
theorem dX12_together_47 : decode cX12_together 47 = .ok (.if_icmp .gt 39, 3) := by decide +kernel
theorem dX12_together_50 : decode cX12_together 50 = .ok (.aload_n 0, 1) := by decide +kernel
theorem dX12_together_51 : decode cX12_together 51 = .ok (.iload_n 1, 1) := by decide +kernel
theorem dX12_together_52 : decode cX12_together 52 = .ok (.iload_n 2, 1) := by decide +kernel
theorem dX12_together_53 : decode cX12_together 53 = .ok (.iload 5, 2) := by decide +kernel
theorem dX12_together_55 : decode cX12_together 55 = .ok (.invokevirtual 371, 3) := by decide +kernel
theorem dX12_together_58 : decode cX12_together 58 = .ok (.iconst (-1), 1) := by decide +kernel
theorem dX12_together_59 : decode cX12_together 59 = .ok (.if_icmp .eq 21, 3) := by decide +kernel
theorem dX12_together_62 : decode cX12_together 62 = .ok (.aload_n 0, 1) := by decide +kernel
theorem dX12_together_63 : decode cX12_together 63 = .ok (.iload_n 1, 1) := by decide +kernel
theorem dX12_together_64 : decode cX12_together 64 = .ok (.iload_n 2, 1) := by decide +kernel
theorem dX12_together_65 : decode cX12_together 65 = .ok (.iload 5, 2) := by decide +kernel
theorem dX12_together_67 : decode cX12_together 67 = .ok (.invokevirtual 371, 3) := by decide +kernel
theorem dX12_together_70 : decode cX12_together 70 = .ok (.iload_n 3, 1) := by decide +kernel
theorem dX12_together_71 : decode cX12_together 71 = .ok (.if_icmp .gt 9, 3) := by decide +kernel
theorem dX12_together_74 : decode cX12_together 74 = .ok (.iload 4, 2) := by decide +kernel
theorem dX12_together_76 : decode cX12_together 76 = .ok (.iconst 1, 1) := by decide +kernel
theorem dX12_together_77 : decode cX12_together 77 = .ok (.iadd, 1) := by decide +kernel
theorem dX12_together_78 : decode cX12_together 78 = .ok (.istore 4, 2) := by decide +kernel
theorem dX12_together_80 : decode cX12_together 80 = .ok (.iinc 5 1, 3) := by decide +kernel
theorem dX12_together_83 : decode cX12_together 83 = .ok (.goto (-51), 3) := by decide +kernel
theorem dX12_together_86 : decode cX12_together 86 = .ok (.iload 4, 2) := by decide +kernel
theorem dX12_together_88 : decode cX12_together 88 = .ok (.ireturn, 1) := by decide +kernel
theorem dX12_crowd_0 : decode cX12_crowd 0 = .ok (.iload_n 1, 1) := by decide +kernel
theorem dX12_crowd_1 : decode cX12_crowd 1 = .ok (.iconst 0, 1) := by decide +kernel
theorem dX12_crowd_2 : decode cX12_crowd 2 = .ok (.sipush 20000, 3) := by decide +kernel
theorem dX12_crowd_5 : decode cX12_crowd 5 = .ok (.invokestatic 118, 3) := by decide +kernel
theorem dX12_crowd_8 : decode cX12_crowd 8 = .ok (.ifCond .eq 12, 3) := by decide +kernel
theorem dX12_crowd_11 : decode cX12_crowd 11 = .ok (.iload_n 2, 1) := by decide +kernel
theorem dX12_crowd_12 : decode cX12_crowd 12 = .ok (.iconst 0, 1) := by decide +kernel
theorem dX12_crowd_13 : decode cX12_crowd 13 = .ok (.iconst 1, 1) := by decide +kernel
theorem dX12_crowd_14 : decode cX12_crowd 14 = .ok (.invokestatic 118, 3) := by decide +kernel
theorem dX12_crowd_17 : decode cX12_crowd 17 = .ok (.ifCond .ne 5, 3) := by decide +kernel
theorem dX12_crowd_20 : decode cX12_crowd 20 = .ok (.iconst (-1), 1) := by decide +kernel
theorem dX12_crowd_21 : decode cX12_crowd 21 = .ok (.ireturn, 1) := by decide +kernel
theorem dX12_crowd_22 : decode cX12_crowd 22 = .ok (.bipush (-2), 2) := by decide +kernel
theorem dX12_crowd_24 : decode cX12_crowd 24 = .ok (.istore_n 3, 1) := by decide +kernel
theorem dX12_crowd_25 : decode cX12_crowd 25 = .ok (.iconst 0, 1) := by decide +kernel
theorem dX12_crowd_26 : decode cX12_crowd 26 = .ok (.istore 4, 2) := by decide +kernel
theorem dX12_crowd_28 : decode cX12_crowd 28 = .ok (.iconst 0, 1) := by decide +kernel
theorem dX12_crowd_29 : decode cX12_crowd 29 = .ok (.istore 5, 2) := by decide +kernel
theorem dX12_crowd_31 : decode cX12_crowd 31 = .ok (.iload 5, 2) := by decide +kernel
theorem dX12_crowd_33 : decode cX12_crowd 33 = .ok (.sipush 192, 3) := by decide +kernel
theorem dX12_crowd_36 : decode cX12_crowd 36 = .ok (.if_icmp .ge 63, 3) := by decide +kernel
theorem dX12_crowd_39 : decode cX12_crowd 39 = .ok (.iconst 0, 1) := by decide +kernel
theorem dX12_crowd_40 : decode cX12_crowd 40 = .ok (.istore 6, 2) := by decide +kernel
theorem dX12_crowd_42 : decode cX12_crowd 42 = .ok (.iconst 0, 1) := by decide +kernel
theorem dX12_crowd_43 : decode cX12_crowd 43 = .ok (.istore 7, 2) := by decide +kernel
theorem dX12_crowd_45 : decode cX12_crowd 45 = .ok (.iload 7, 2) := by decide +kernel
theorem dX12_crowd_47 : decode cX12_crowd 47 = .ok (.bipush 8, 2) := by decide +kernel
theorem dX12_crowd_49 : decode cX12_crowd 49 = .ok (.if_icmp .ge 27, 3) := by decide +kernel
theorem dX12_crowd_52 : decode cX12_crowd 52 = .ok (.aload_n 0, 1) := by decide +kernel
theorem dX12_crowd_53 : decode cX12_crowd 53 = .ok (.iload 7, 2) := by decide +kernel
theorem dX12_crowd_55 : decode cX12_crowd 55 = .ok (.iload_n 1, 1) := by decide +kernel
theorem dX12_crowd_56 : decode cX12_crowd 56 = .ok (.invokevirtual 356, 3) := by decide +kernel
theorem dX12_crowd_59 : decode cX12_crowd 59 = .ok (.iload 5, 2) := by decide +kernel
theorem dX12_crowd_61 : decode cX12_crowd 61 = .ok (.if_icmp .ne 9, 3) := by decide +kernel
theorem dX12_crowd_64 : decode cX12_crowd 64 = .ok (.iload 6, 2) := by decide +kernel
theorem dX12_crowd_66 : decode cX12_crowd 66 = .ok (.iconst 1, 1) := by decide +kernel
theorem dX12_crowd_67 : decode cX12_crowd 67 = .ok (.iadd, 1) := by decide +kernel
theorem dX12_crowd_68 : decode cX12_crowd 68 = .ok (.istore 6, 2) := by decide +kernel
theorem dX12_crowd_70 : decode cX12_crowd 70 = .ok (.iinc 7 1, 3) := by decide +kernel
theorem dX12_crowd_73 : decode cX12_crowd 73 = .ok (.goto (-28), 3) := by decide +kernel
theorem dX12_crowd_76 : decode cX12_crowd 76 = .ok (.iload 6, 2) := by decide +kernel
theorem dX12_crowd_78 : decode cX12_crowd 78 = .ok (.iload 4, 2) := by decide +kernel
theorem dX12_crowd_80 : decode cX12_crowd 80 = .ok (.if_icmp .gt 6, 3) := by decide +kernel
theorem dX12_crowd_83 : decode cX12_crowd 83 = .ok (.goto 10, 3) := by decide +kernel
theorem dX12_crowd_86 : decode cX12_crowd 86 = .ok (.iload 6, 2) := by decide +kernel
theorem dX12_crowd_88 : decode cX12_crowd 88 = .ok (.istore 4, 2) := by decide +kernel
theorem dX12_crowd_90 : decode cX12_crowd 90 = .ok (.iload 5, 2) := by decide +kernel
theorem dX12_crowd_92 : decode cX12_crowd 92 = .ok (.istore_n 3, 1) := by decide +kernel
theorem dX12_crowd_93 : decode cX12_crowd 93 = .ok (.iinc 5 1, 3) := by decide +kernel
theorem dX12_crowd_96 : decode cX12_crowd 96 = .ok (.goto (-65), 3) := by decide +kernel
theorem dX12_crowd_99 : decode cX12_crowd 99 = .ok (.iload_n 2, 1) := by decide +kernel
theorem dX12_crowd_100 : decode cX12_crowd 100 = .ok (.ifCond .ne 7, 3) := by decide +kernel
theorem dX12_crowd_103 : decode cX12_crowd 103 = .ok (.iload_n 3, 1) := by decide +kernel
theorem dX12_crowd_104 : decode cX12_crowd 104 = .ok (.goto 5, 3) := by decide +kernel
theorem dX12_crowd_107 : decode cX12_crowd 107 = .ok (.iload 4, 2) := by decide +kernel
theorem dX12_crowd_109 : decode cX12_crowd 109 = .ok (.ireturn, 1) := by decide +kernel
theorem dX12_timesAt_0 : decode cX12_timesAt 0 = .ok (.iconst 0, 1) := by decide +kernel
theorem dX12_timesAt_1 : decode cX12_timesAt 1 = .ok (.istore_n 3, 1) := by decide +kernel
theorem dX12_timesAt_2 : decode cX12_timesAt 2 = .ok (.iconst 0, 1) := by decide +kernel
theorem dX12_timesAt_3 : decode cX12_timesAt 3 = .ok (.istore 4, 2) := by decide +kernel
theorem dX12_timesAt_5 : decode cX12_timesAt 5 = .ok (.iload 4, 2) := by decide +kernel
theorem dX12_timesAt_7 : decode cX12_timesAt 7 = .ok (.aload_n 0, 1) := by decide +kernel
theorem dX12_timesAt_8 : decode cX12_timesAt 8 = .ok (.getfield 19, 3) := by decide +kernel
theorem dX12_timesAt_11 : decode cX12_timesAt 11 = .ok (.iload_n 1, 1) := by decide +kernel
theorem dX12_timesAt_12 : decode cX12_timesAt 12 = .ok (.iaload, 1) := by decide +kernel
theorem dX12_timesAt_13 : decode cX12_timesAt 13 = .ok (.if_icmp .gt 29, 3) := by decide +kernel
theorem dX12_timesAt_16 : decode cX12_timesAt 16 = .ok (.aload_n 0, 1) := by decide +kernel
theorem dX12_timesAt_17 : decode cX12_timesAt 17 = .ok (.getfield 28, 3) := by decide +kernel
theorem dX12_timesAt_20 : decode cX12_timesAt 20 = .ok (.bipush 97, 2) := by decide +kernel
theorem dX12_timesAt_22 : decode cX12_timesAt 22 = .ok (.iload_n 1, 1) := by decide +kernel
theorem dX12_timesAt_23 : decode cX12_timesAt 23 = .ok (.imul, 1) := by decide +kernel
theorem dX12_timesAt_24 : decode cX12_timesAt 24 = .ok (.iload 4, 2) := by decide +kernel
theorem dX12_timesAt_26 : decode cX12_timesAt 26 = .ok (.iadd, 1) := by decide +kernel
theorem dX12_timesAt_27 : decode cX12_timesAt 27 = .ok (.iaload, 1) := by decide +kernel
theorem dX12_timesAt_28 : decode cX12_timesAt 28 = .ok (.iload_n 2, 1) := by decide +kernel
theorem dX12_timesAt_29 : decode cX12_timesAt 29 = .ok (.if_icmp .ne 7, 3) := by decide +kernel
theorem dX12_timesAt_32 : decode cX12_timesAt 32 = .ok (.iload_n 3, 1) := by decide +kernel
theorem dX12_timesAt_33 : decode cX12_timesAt 33 = .ok (.iconst 1, 1) := by decide +kernel
theorem dX12_timesAt_34 : decode cX12_timesAt 34 = .ok (.iadd, 1) := by decide +kernel
theorem dX12_timesAt_35 : decode cX12_timesAt 35 = .ok (.istore_n 3, 1) := by decide +kernel
theorem dX12_timesAt_36 : decode cX12_timesAt 36 = .ok (.iinc 4 1, 3) := by decide +kernel
theorem dX12_timesAt_39 : decode cX12_timesAt 39 = .ok (.goto (-34), 3) := by decide +kernel
theorem dX12_timesAt_42 : decode cX12_timesAt 42 = .ok (.iload_n 3, 1) := by decide +kernel
theorem dX12_timesAt_43 : decode cX12_timesAt 43 = .ok (.ireturn, 1) := by decide +kernel
theorem dX12_staysAt_0 : decode cX12_staysAt 0 = .ok (.iconst 0, 1) := by decide +kernel
theorem dX12_staysAt_1 : decode cX12_staysAt 1 = .ok (.istore_n 3, 1) := by decide +kernel
theorem dX12_staysAt_2 : decode cX12_staysAt 2 = .ok (.iconst 0, 1) := by decide +kernel
theorem dX12_staysAt_3 : decode cX12_staysAt 3 = .ok (.istore 4, 2) := by decide +kernel
theorem dX12_staysAt_5 : decode cX12_staysAt 5 = .ok (.iload 4, 2) := by decide +kernel
theorem dX12_staysAt_7 : decode cX12_staysAt 7 = .ok (.aload_n 0, 1) := by decide +kernel
theorem dX12_staysAt_8 : decode cX12_staysAt 8 = .ok (.getfield 19, 3) := by decide +kernel
theorem dX12_staysAt_11 : decode cX12_staysAt 11 = .ok (.iload_n 1, 1) := by decide +kernel
theorem dX12_staysAt_12 : decode cX12_staysAt 12 = .ok (.iaload, 1) := by decide +kernel
theorem dX12_staysAt_13 : decode cX12_staysAt 13 = .ok (.if_icmp .gt 64, 3) := by decide +kernel
theorem dX12_staysAt_16 : decode cX12_staysAt 16 = .ok (.iload 4, 2) := by decide +kernel
theorem dX12_staysAt_18 : decode cX12_staysAt 18 = .ok (.ifCond .le 25, 3) := by decide +kernel
theorem dX12_staysAt_21 : decode cX12_staysAt 21 = .ok (.aload_n 0, 1) := by decide +kernel
theorem dX12_staysAt_22 : decode cX12_staysAt 22 = .ok (.getfield 28, 3) := by decide +kernel
theorem dX12_staysAt_25 : decode cX12_staysAt 25 = .ok (.bipush 97, 2) := by decide +kernel
theorem dX12_staysAt_27 : decode cX12_staysAt 27 = .ok (.iload_n 1, 1) := by decide +kernel
theorem dX12_staysAt_28 : decode cX12_staysAt 28 = .ok (.imul, 1) := by decide +kernel
theorem dX12_staysAt_29 : decode cX12_staysAt 29 = .ok (.iload 4, 2) := by decide +kernel
theorem dX12_staysAt_31 : decode cX12_staysAt 31 = .ok (.iadd, 1) := by decide +kernel
theorem dX12_staysAt_32 : decode cX12_staysAt 32 = .ok (.iconst 1, 1) := by decide +kernel
theorem dX12_staysAt_33 : decode cX12_staysAt 33 = .ok (.isub, 1) := by decide +kernel
theorem dX12_staysAt_34 : decode cX12_staysAt 34 = .ok (.iaload, 1) := by decide +kernel
theorem dX12_staysAt_35 : decode cX12_staysAt 35 = .ok (.iload_n 2, 1) := by decide +kernel
theorem dX12_staysAt_36 : decode cX12_staysAt 36 = .ok (.if_icmp .ne 7, 3) := by decide +kernel
theorem dX12_staysAt_39 : decode cX12_staysAt 39 = .ok (.iconst 1, 1) := by decide +kernel
theorem dX12_staysAt_40 : decode cX12_staysAt 40 = .ok (.goto 4, 3) := by decide +kernel
theorem dX12_staysAt_43 : decode cX12_staysAt 43 = .ok (.iconst 0, 1) := by decide +kernel
theorem dX12_staysAt_44 : decode cX12_staysAt 44 = .ok (.istore 5, 2) := by decide +kernel
theorem dX12_staysAt_46 : decode cX12_staysAt 46 = .ok (.aload_n 0, 1) := by decide +kernel
theorem dX12_staysAt_47 : decode cX12_staysAt 47 = .ok (.getfield 28, 3) := by decide +kernel
theorem dX12_staysAt_50 : decode cX12_staysAt 50 = .ok (.bipush 97, 2) := by decide +kernel
theorem dX12_staysAt_52 : decode cX12_staysAt 52 = .ok (.iload_n 1, 1) := by decide +kernel
theorem dX12_staysAt_53 : decode cX12_staysAt 53 = .ok (.imul, 1) := by decide +kernel
theorem dX12_staysAt_54 : decode cX12_staysAt 54 = .ok (.iload 4, 2) := by decide +kernel
theorem dX12_staysAt_56 : decode cX12_staysAt 56 = .ok (.iadd, 1) := by decide +kernel
theorem dX12_staysAt_57 : decode cX12_staysAt 57 = .ok (.iaload, 1) := by decide +kernel
theorem dX12_staysAt_58 : decode cX12_staysAt 58 = .ok (.iload_n 2, 1) := by decide +kernel
theorem dX12_staysAt_59 : decode cX12_staysAt 59 = .ok (.if_icmp .ne 12, 3) := by decide +kernel
theorem dX12_staysAt_62 : decode cX12_staysAt 62 = .ok (.iload 5, 2) := by decide +kernel
theorem dX12_staysAt_64 : decode cX12_staysAt 64 = .ok (.ifCond .ne 7, 3) := by decide +kernel
theorem dX12_staysAt_67 : decode cX12_staysAt 67 = .ok (.iload_n 3, 1) := by decide +kernel
theorem dX12_staysAt_68 : decode cX12_staysAt 68 = .ok (.iconst 1, 1) := by decide +kernel
theorem dX12_staysAt_69 : decode cX12_staysAt 69 = .ok (.iadd, 1) := by decide +kernel
theorem dX12_staysAt_70 : decode cX12_staysAt 70 = .ok (.istore_n 3, 1) := by decide +kernel
theorem dX12_staysAt_71 : decode cX12_staysAt 71 = .ok (.iinc 4 1, 3) := by decide +kernel
theorem dX12_staysAt_74 : decode cX12_staysAt 74 = .ok (.goto (-69), 3) := by decide +kernel
theorem dX12_staysAt_77 : decode cX12_staysAt 77 = .ok (.iload_n 3, 1) := by decide +kernel
theorem dX12_staysAt_78 : decode cX12_staysAt 78 = .ok (.ireturn, 1) := by decide +kernel
theorem dX12_stayed_0 : decode cX12_stayed 0 = .ok (.aload_n 0, 1) := by decide +kernel
theorem dX12_stayed_1 : decode cX12_stayed 1 = .ok (.iload_n 1, 1) := by decide +kernel
theorem dX12_stayed_2 : decode cX12_stayed 2 = .ok (.invokevirtual 122, 3) := by decide +kernel
theorem dX12_stayed_5 : decode cX12_stayed 5 = .ok (.ifCond .eq 12, 3) := by decide +kernel
theorem dX12_stayed_8 : decode cX12_stayed 8 = .ok (.iload_n 2, 1) := by decide +kernel
theorem dX12_stayed_9 : decode cX12_stayed 9 = .ok (.iconst 0, 1) := by decide +kernel
theorem dX12_stayed_10 : decode cX12_stayed 10 = .ok (.iconst 2, 1) := by decide +kernel
theorem dX12_stayed_11 : decode cX12_stayed 11 = .ok (.invokestatic 118, 3) := by decide +kernel
theorem dX12_stayed_14 : decode cX12_stayed 14 = .ok (.ifCond .ne 5, 3) := by decide +kernel
theorem dX12_stayed_17 : decode cX12_stayed 17 = .ok (.iconst (-1), 1) := by decide +kernel
theorem dX12_stayed_18 : decode cX12_stayed 18 = .ok (.ireturn, 1) := by decide +kernel
theorem dX12_stayed_19 : decode cX12_stayed 19 = .ok (.iconst (-1), 1) := by decide +kernel
theorem dX12_stayed_20 : decode cX12_stayed 20 = .ok (.istore_n 3, 1) := by decide +kernel
theorem dX12_stayed_21 : decode cX12_stayed 21 = .ok (.iconst 0, 1) := by decide +kernel
theorem dX12_stayed_22 : decode cX12_stayed 22 = .ok (.istore 4, 2) := by decide +kernel
theorem dX12_stayed_24 : decode cX12_stayed 24 = .ok (.iconst 0, 1) := by decide +kernel
theorem dX12_stayed_25 : decode cX12_stayed 25 = .ok (.istore 5, 2) := by decide +kernel
theorem dX12_stayed_27 : decode cX12_stayed 27 = .ok (.iload 5, 2) := by decide +kernel
theorem dX12_stayed_29 : decode cX12_stayed 29 = .ok (.aload_n 0, 1) := by decide +kernel
theorem dX12_stayed_30 : decode cX12_stayed 30 = .ok (.getfield 19, 3) := by decide +kernel
theorem dX12_stayed_33 : decode cX12_stayed 33 = .ok (.iload_n 1, 1) := by decide +kernel
theorem dX12_stayed_34 : decode cX12_stayed 34 = .ok (.iaload, 1) := by decide +kernel
theorem dX12_stayed_35 : decode cX12_stayed 35 = .ok (.if_icmp .gt 50, 3) := by decide +kernel
theorem dX12_stayed_38 : decode cX12_stayed 38 = .ok (.aload_n 0, 1) := by decide +kernel
theorem dX12_stayed_39 : decode cX12_stayed 39 = .ok (.getfield 28, 3) := by decide +kernel
theorem dX12_stayed_42 : decode cX12_stayed 42 = .ok (.bipush 97, 2) := by decide +kernel
theorem dX12_stayed_44 : decode cX12_stayed 44 = .ok (.iload_n 1, 1) := by decide +kernel
theorem dX12_stayed_45 : decode cX12_stayed 45 = .ok (.imul, 1) := by decide +kernel
theorem dX12_stayed_46 : decode cX12_stayed 46 = .ok (.iload 5, 2) := by decide +kernel
theorem dX12_stayed_48 : decode cX12_stayed 48 = .ok (.iadd, 1) := by decide +kernel
theorem dX12_stayed_49 : decode cX12_stayed 49 = .ok (.iaload, 1) := by decide +kernel
theorem dX12_stayed_50 : decode cX12_stayed 50 = .ok (.istore 6, 2) := by decide +kernel
theorem dX12_stayed_52 : decode cX12_stayed 52 = .ok (.aload_n 0, 1) := by decide +kernel
theorem dX12_stayed_53 : decode cX12_stayed 53 = .ok (.iload_n 1, 1) := by decide +kernel
theorem dX12_stayed_54 : decode cX12_stayed 54 = .ok (.iload 6, 2) := by decide +kernel
theorem dX12_stayed_56 : decode cX12_stayed 56 = .ok (.invokevirtual 374, 3) := by decide +kernel
theorem dX12_stayed_59 : decode cX12_stayed 59 = .ok (.iload 4, 2) := by decide +kernel
theorem dX12_stayed_61 : decode cX12_stayed 61 = .ok (.if_icmp .gt 6, 3) := by decide +kernel
theorem dX12_stayed_64 : decode cX12_stayed 64 = .ok (.goto 15, 3) := by decide +kernel
theorem dX12_stayed_67 : decode cX12_stayed 67 = .ok (.aload_n 0, 1) := by decide +kernel
theorem dX12_stayed_68 : decode cX12_stayed 68 = .ok (.iload_n 1, 1) := by decide +kernel
theorem dX12_stayed_69 : decode cX12_stayed 69 = .ok (.iload 6, 2) := by decide +kernel
theorem dX12_stayed_71 : decode cX12_stayed 71 = .ok (.invokevirtual 374, 3) := by decide +kernel
theorem dX12_stayed_74 : decode cX12_stayed 74 = .ok (.istore 4, 2) := by decide +kernel
theorem dX12_stayed_76 : decode cX12_stayed 76 = .ok (.iload 6, 2) := by decide +kernel
theorem dX12_stayed_78 : decode cX12_stayed 78 = .ok (.istore_n 3, 1) := by decide +kernel
theorem dX12_stayed_79 : decode cX12_stayed 79 = .ok (.iinc 5 1, 3) := by decide +kernel
theorem dX12_stayed_82 : decode cX12_stayed 82 = .ok (.goto (-55), 3) := by decide +kernel
theorem dX12_stayed_85 : decode cX12_stayed 85 = .ok (.iconst 0, 1) := by decide +kernel
theorem dX12_stayed_86 : decode cX12_stayed 86 = .ok (.istore 5, 2) := by decide +kernel
theorem dX12_stayed_88 : decode cX12_stayed 88 = .ok (.iconst 0, 1) := by decide +kernel
theorem dX12_stayed_89 : decode cX12_stayed 89 = .ok (.istore 6, 2) := by decide +kernel
theorem dX12_stayed_91 : decode cX12_stayed 91 = .ok (.iload 6, 2) := by decide +kernel
theorem dX12_stayed_93 : decode cX12_stayed 93 = .ok (.sipush 192, 3) := by decide +kernel
theorem dX12_stayed_96 : decode cX12_stayed 96 = .ok (.if_icmp .ge 26, 3) := by decide +kernel
theorem dX12_stayed_99 : decode cX12_stayed 99 = .ok (.aload_n 0, 1) := by decide +kernel
theorem dX12_stayed_100 : decode cX12_stayed 100 = .ok (.iload_n 1, 1) := by decide +kernel
theorem dX12_stayed_101 : decode cX12_stayed 101 = .ok (.iload 6, 2) := by decide +kernel
theorem dX12_stayed_103 : decode cX12_stayed 103 = .ok (.invokevirtual 377, 3) := by decide +kernel
theorem dX12_stayed_106 : decode cX12_stayed 106 = .ok (.iconst 1, 1) := by decide +kernel
theorem dX12_stayed_107 : decode cX12_stayed 107 = .ok (.if_icmp .le 9, 3) := by decide +kernel
theorem dX12_stayed_110 : decode cX12_stayed 110 = .ok (.iload 5, 2) := by decide +kernel
theorem dX12_stayed_112 : decode cX12_stayed 112 = .ok (.iconst 1, 1) := by decide +kernel
theorem dX12_stayed_113 : decode cX12_stayed 113 = .ok (.iadd, 1) := by decide +kernel
theorem dX12_stayed_114 : decode cX12_stayed 114 = .ok (.istore 5, 2) := by decide +kernel
theorem dX12_stayed_116 : decode cX12_stayed 116 = .ok (.iinc 6 1, 3) := by decide +kernel
theorem dX12_stayed_119 : decode cX12_stayed 119 = .ok (.goto (-28), 3) := by decide +kernel
theorem dX12_stayed_122 : decode cX12_stayed 122 = .ok (.iload_n 2, 1) := by decide +kernel
theorem dX12_stayed_123 : decode cX12_stayed 123 = .ok (.ifCond .ne 7, 3) := by decide +kernel
theorem dX12_stayed_126 : decode cX12_stayed 126 = .ok (.iload_n 3, 1) := by decide +kernel
theorem dX12_stayed_127 : decode cX12_stayed 127 = .ok (.goto 15, 3) := by decide +kernel
theorem dX12_stayed_130 : decode cX12_stayed 130 = .ok (.iload_n 2, 1) := by decide +kernel
theorem dX12_stayed_131 : decode cX12_stayed 131 = .ok (.iconst 1, 1) := by decide +kernel
theorem dX12_stayed_132 : decode cX12_stayed 132 = .ok (.if_icmp .ne 8, 3) := by decide +kernel
theorem dX12_stayed_135 : decode cX12_stayed 135 = .ok (.iload 4, 2) := by decide +kernel
theorem dX12_stayed_137 : decode cX12_stayed 137 = .ok (.goto 5, 3) := by decide +kernel
theorem dX12_stayed_140 : decode cX12_stayed 140 = .ok (.iload 5, 2) := by decide +kernel
theorem dX12_stayed_142 : decode cX12_stayed 142 = .ok (.ireturn, 1) := by decide +kernel
theorem dX12_unlooped_0 : decode cX12_unlooped 0 = .ok (.aload_n 0, 1) := by decide +kernel
theorem dX12_unlooped_1 : decode cX12_unlooped 1 = .ok (.iload_n 1, 1) := by decide +kernel
theorem dX12_unlooped_2 : decode cX12_unlooped 2 = .ok (.invokevirtual 122, 3) := by decide +kernel
theorem dX12_unlooped_5 : decode cX12_unlooped 5 = .ok (.ifCond .eq 19, 3) := by decide +kernel
theorem dX12_unlooped_8 : decode cX12_unlooped 8 = .ok (.iload_n 2, 1) := by decide +kernel
theorem dX12_unlooped_9 : decode cX12_unlooped 9 = .ok (.iconst 0, 1) := by decide +kernel
theorem dX12_unlooped_10 : decode cX12_unlooped 10 = .ok (.bipush 96, 2) := by decide +kernel
theorem dX12_unlooped_12 : decode cX12_unlooped 12 = .ok (.invokestatic 118, 3) := by decide +kernel
theorem dX12_unlooped_15 : decode cX12_unlooped 15 = .ok (.ifCond .ne 11, 3) := by decide +kernel
theorem dX12_unlooped_18 : decode cX12_unlooped 18 = .ok (.iload_n 2, 1) := by decide +kernel
theorem dX12_unlooped_19 : decode cX12_unlooped 19 = .ok (.bipush 100, 2) := by decide +kernel
theorem dX12_unlooped_21 : decode cX12_unlooped 21 = .ok (.if_icmp .eq 5, 3) := by decide +kernel
theorem dX12_unlooped_24 : decode cX12_unlooped 24 = .ok (.iconst (-1), 1) := by decide +kernel
theorem dX12_unlooped_25 : decode cX12_unlooped 25 = .ok (.ireturn, 1) := by decide +kernel
theorem dX12_unlooped_26 : decode cX12_unlooped 26 = .ok (.iconst 0, 1) := by decide +kernel
theorem dX12_unlooped_27 : decode cX12_unlooped 27 = .ok (.istore_n 3, 1) := by decide +kernel
theorem dX12_unlooped_28 : decode cX12_unlooped 28 = .ok (.iconst 0, 1) := by decide +kernel
theorem dX12_unlooped_29 : decode cX12_unlooped 29 = .ok (.istore 4, 2) := by decide +kernel
theorem dX12_unlooped_31 : decode cX12_unlooped 31 = .ok (.iload 4, 2) := by decide +kernel
theorem dX12_unlooped_33 : decode cX12_unlooped 33 = .ok (.aload_n 0, 1) := by decide +kernel
theorem dX12_unlooped_34 : decode cX12_unlooped 34 = .ok (.getfield 19, 3) := by decide +kernel
theorem dX12_unlooped_37 : decode cX12_unlooped 37 = .ok (.iload_n 1, 1) := by decide +kernel
theorem dX12_unlooped_38 : decode cX12_unlooped 38 = .ok (.iaload, 1) := by decide +kernel
theorem dX12_unlooped_39 : decode cX12_unlooped 39 = .ok (.if_icmp .gt 73, 3) := by decide +kernel
theorem dX12_unlooped_42 : decode cX12_unlooped 42 = .ok (.iconst 0, 1) := by decide +kernel
theorem dX12_unlooped_43 : decode cX12_unlooped 43 = .ok (.istore 5, 2) := by decide +kernel
theorem dX12_unlooped_45 : decode cX12_unlooped 45 = .ok (.iload 5, 2) := by decide +kernel
theorem dX12_unlooped_47 : decode cX12_unlooped 47 = .ok (.iload_n 3, 1) := by decide +kernel
theorem dX12_unlooped_48 : decode cX12_unlooped 48 = .ok (.if_icmp .ge 34, 3) := by decide +kernel
theorem dX12_unlooped_51 : decode cX12_unlooped 51 = .ok (.aload_n 0, 1) := by decide +kernel
theorem dX12_unlooped_52 : decode cX12_unlooped 52 = .ok (.getfield 98, 3) := by decide +kernel
theorem dX12_unlooped_55 : decode cX12_unlooped 55 = .ok (.iload 5, 2) := by decide +kernel
theorem dX12_unlooped_57 : decode cX12_unlooped 57 = .ok (.iaload, 1) := by decide +kernel
theorem dX12_unlooped_58 : decode cX12_unlooped 58 = .ok (.aload_n 0, 1) := by decide +kernel
theorem dX12_unlooped_59 : decode cX12_unlooped 59 = .ok (.getfield 28, 3) := by decide +kernel
theorem dX12_unlooped_62 : decode cX12_unlooped 62 = .ok (.bipush 97, 2) := by decide +kernel
theorem dX12_unlooped_64 : decode cX12_unlooped 64 = .ok (.iload_n 1, 1) := by decide +kernel
theorem dX12_unlooped_65 : decode cX12_unlooped 65 = .ok (.imul, 1) := by decide +kernel
theorem dX12_unlooped_66 : decode cX12_unlooped 66 = .ok (.iload 4, 2) := by decide +kernel
theorem dX12_unlooped_68 : decode cX12_unlooped 68 = .ok (.iadd, 1) := by decide +kernel
theorem dX12_unlooped_69 : decode cX12_unlooped 69 = .ok (.iaload, 1) := by decide +kernel
theorem dX12_unlooped_70 : decode cX12_unlooped 70 = .ok (.if_icmp .eq 12, 3) := by decide +kernel
theorem dX12_unlooped_73 : decode cX12_unlooped 73 = .ok (.iload 5, 2) := by decide +kernel
theorem dX12_unlooped_75 : decode cX12_unlooped 75 = .ok (.iconst 1, 1) := by decide +kernel
theorem dX12_unlooped_76 : decode cX12_unlooped 76 = .ok (.iadd, 1) := by decide +kernel
theorem dX12_unlooped_77 : decode cX12_unlooped 77 = .ok (.istore 5, 2) := by decide +kernel
theorem dX12_unlooped_79 : decode cX12_unlooped 79 = .ok (.goto (-34), 3) := by decide +kernel
theorem dX12_unlooped_82 : decode cX12_unlooped 82 = .ok (.aload_n 0, 1) := by decide +kernel
theorem dX12_unlooped_83 : decode cX12_unlooped 83 = .ok (.getfield 98, 3) := by decide +kernel
theorem dX12_unlooped_86 : decode cX12_unlooped 86 = .ok (.iload 5, 2) := by decide +kernel
theorem dX12_unlooped_88 : decode cX12_unlooped 88 = .ok (.aload_n 0, 1) := by decide +kernel
theorem dX12_unlooped_89 : decode cX12_unlooped 89 = .ok (.getfield 28, 3) := by decide +kernel
theorem dX12_unlooped_92 : decode cX12_unlooped 92 = .ok (.bipush 97, 2) := by decide +kernel
theorem dX12_unlooped_94 : decode cX12_unlooped 94 = .ok (.iload_n 1, 1) := by decide +kernel
theorem dX12_unlooped_95 : decode cX12_unlooped 95 = .ok (.imul, 1) := by decide +kernel
theorem dX12_unlooped_96 : decode cX12_unlooped 96 = .ok (.iload 4, 2) := by decide +kernel
theorem dX12_unlooped_98 : decode cX12_unlooped 98 = .ok (.iadd, 1) := by decide +kernel
theorem dX12_unlooped_99 : decode cX12_unlooped 99 = .ok (.iaload, 1) := by decide +kernel
theorem dX12_unlooped_100 : decode cX12_unlooped 100 = .ok (.iastore, 1) := by decide +kernel
theorem dX12_unlooped_101 : decode cX12_unlooped 101 = .ok (.iload 5, 2) := by decide +kernel
theorem dX12_unlooped_103 : decode cX12_unlooped 103 = .ok (.iconst 1, 1) := by decide +kernel
theorem dX12_unlooped_104 : decode cX12_unlooped 104 = .ok (.iadd, 1) := by decide +kernel
theorem dX12_unlooped_105 : decode cX12_unlooped 105 = .ok (.istore_n 3, 1) := by decide +kernel
theorem dX12_unlooped_106 : decode cX12_unlooped 106 = .ok (.iinc 4 1, 3) := by decide +kernel
theorem dX12_unlooped_109 : decode cX12_unlooped 109 = .ok (.goto (-78), 3) := by decide +kernel
theorem dX12_unlooped_112 : decode cX12_unlooped 112 = .ok (.iload_n 2, 1) := by decide +kernel
theorem dX12_unlooped_113 : decode cX12_unlooped 113 = .ok (.bipush 100, 2) := by decide +kernel
theorem dX12_unlooped_115 : decode cX12_unlooped 115 = .ok (.if_icmp .ne 7, 3) := by decide +kernel
theorem dX12_unlooped_118 : decode cX12_unlooped 118 = .ok (.iload_n 3, 1) := by decide +kernel
theorem dX12_unlooped_119 : decode cX12_unlooped 119 = .ok (.goto 19, 3) := by decide +kernel
theorem dX12_unlooped_122 : decode cX12_unlooped 122 = .ok (.iload_n 2, 1) := by decide +kernel
theorem dX12_unlooped_123 : decode cX12_unlooped 123 = .ok (.iload_n 3, 1) := by decide +kernel
theorem dX12_unlooped_124 : decode cX12_unlooped 124 = .ok (.if_icmp .ge 12, 3) := by decide +kernel
theorem dX12_unlooped_127 : decode cX12_unlooped 127 = .ok (.aload_n 0, 1) := by decide +kernel
theorem dX12_unlooped_128 : decode cX12_unlooped 128 = .ok (.getfield 98, 3) := by decide +kernel
theorem dX12_unlooped_131 : decode cX12_unlooped 131 = .ok (.iload_n 2, 1) := by decide +kernel
theorem dX12_unlooped_132 : decode cX12_unlooped 132 = .ok (.iaload, 1) := by decide +kernel
theorem dX12_unlooped_133 : decode cX12_unlooped 133 = .ok (.goto 5, 3) := by decide +kernel
theorem dX12_unlooped_136 : decode cX12_unlooped 136 = .ok (.bipush (-4), 2) := by decide +kernel
theorem dX12_unlooped_138 : decode cX12_unlooped 138 = .ok (.ireturn, 1) := by decide +kernel
theorem dX12_charges_0 : decode cX12_charges 0 = .ok (.aload_n 0, 1) := by decide +kernel
theorem dX12_charges_1 : decode cX12_charges 1 = .ok (.iload_n 1, 1) := by decide +kernel
theorem dX12_charges_2 : decode cX12_charges 2 = .ok (.invokevirtual 122, 3) := by decide +kernel
theorem dX12_charges_5 : decode cX12_charges 5 = .ok (.ifCond .eq 12, 3) := by decide +kernel
theorem dX12_charges_8 : decode cX12_charges 8 = .ok (.iload_n 2, 1) := by decide +kernel
theorem dX12_charges_9 : decode cX12_charges 9 = .ok (.iconst 0, 1) := by decide +kernel
theorem dX12_charges_10 : decode cX12_charges 10 = .ok (.iconst 2, 1) := by decide +kernel
theorem dX12_charges_11 : decode cX12_charges 11 = .ok (.invokestatic 118, 3) := by decide +kernel
theorem dX12_charges_14 : decode cX12_charges 14 = .ok (.ifCond .ne 5, 3) := by decide +kernel
theorem dX12_charges_17 : decode cX12_charges 17 = .ok (.iconst (-1), 1) := by decide +kernel
theorem dX12_charges_18 : decode cX12_charges 18 = .ok (.ireturn, 1) := by decide +kernel
theorem dX12_charges_19 : decode cX12_charges 19 = .ok (.iconst 0, 1) := by decide +kernel
theorem dX12_charges_20 : decode cX12_charges 20 = .ok (.istore_n 3, 1) := by decide +kernel
theorem dX12_charges_21 : decode cX12_charges 21 = .ok (.iconst 0, 1) := by decide +kernel
theorem dX12_charges_22 : decode cX12_charges 22 = .ok (.istore 4, 2) := by decide +kernel
theorem dX12_charges_24 : decode cX12_charges 24 = .ok (.iload 4, 2) := by decide +kernel
theorem dX12_charges_26 : decode cX12_charges 26 = .ok (.bipush 10, 2) := by decide +kernel
theorem dX12_charges_28 : decode cX12_charges 28 = .ok (.if_icmp .ge 17, 3) := by decide +kernel
theorem dX12_charges_31 : decode cX12_charges 31 = .ok (.aload_n 0, 1) := by decide +kernel
theorem dX12_charges_32 : decode cX12_charges 32 = .ok (.getfield 101, 3) := by decide +kernel
theorem dX12_charges_35 : decode cX12_charges 35 = .ok (.iload 4, 2) := by decide +kernel
theorem dX12_charges_37 : decode cX12_charges 37 = .ok (.iconst 0, 1) := by decide +kernel
theorem dX12_charges_38 : decode cX12_charges 38 = .ok (.iastore, 1) := by decide +kernel
theorem dX12_charges_39 : decode cX12_charges 39 = .ok (.iinc 4 1, 3) := by decide +kernel
theorem dX12_charges_42 : decode cX12_charges 42 = .ok (.goto (-18), 3) := by decide +kernel
theorem dX12_charges_45 : decode cX12_charges 45 = .ok (.iconst 0, 1) := by decide +kernel
theorem dX12_charges_46 : decode cX12_charges 46 = .ok (.istore 4, 2) := by decide +kernel
theorem dX12_charges_48 : decode cX12_charges 48 = .ok (.iload 4, 2) := by decide +kernel
theorem dX12_charges_50 : decode cX12_charges 50 = .ok (.aload_n 0, 1) := by decide +kernel
theorem dX12_charges_51 : decode cX12_charges 51 = .ok (.getfield 19, 3) := by decide +kernel
theorem dX12_charges_54 : decode cX12_charges 54 = .ok (.iload_n 1, 1) := by decide +kernel
theorem dX12_charges_55 : decode cX12_charges 55 = .ok (.iaload, 1) := by decide +kernel
theorem dX12_charges_56 : decode cX12_charges 56 = .ok (.if_icmp .gt 65, 3) := by decide +kernel
theorem dX12_charges_59 : decode cX12_charges 59 = .ok (.aload_n 0, 1) := by decide +kernel
theorem dX12_charges_60 : decode cX12_charges 60 = .ok (.getfield 28, 3) := by decide +kernel
theorem dX12_charges_63 : decode cX12_charges 63 = .ok (.bipush 97, 2) := by decide +kernel
theorem dX12_charges_65 : decode cX12_charges 65 = .ok (.iload_n 1, 1) := by decide +kernel
theorem dX12_charges_66 : decode cX12_charges 66 = .ok (.imul, 1) := by decide +kernel
theorem dX12_charges_67 : decode cX12_charges 67 = .ok (.iload 4, 2) := by decide +kernel
theorem dX12_charges_69 : decode cX12_charges 69 = .ok (.iadd, 1) := by decide +kernel
theorem dX12_charges_70 : decode cX12_charges 70 = .ok (.iaload, 1) := by decide +kernel
theorem dX12_charges_71 : decode cX12_charges 71 = .ok (.istore 5, 2) := by decide +kernel
theorem dX12_charges_73 : decode cX12_charges 73 = .ok (.iload_n 3, 1) := by decide +kernel
theorem dX12_charges_74 : decode cX12_charges 74 = .ok (.aload_n 0, 1) := by decide +kernel
theorem dX12_charges_75 : decode cX12_charges 75 = .ok (.getfield 34, 3) := by decide +kernel
theorem dX12_charges_78 : decode cX12_charges 78 = .ok (.iload 5, 2) := by decide +kernel
theorem dX12_charges_80 : decode cX12_charges 80 = .ok (.iaload, 1) := by decide +kernel
theorem dX12_charges_81 : decode cX12_charges 81 = .ok (.iadd, 1) := by decide +kernel
theorem dX12_charges_82 : decode cX12_charges 82 = .ok (.istore_n 3, 1) := by decide +kernel
theorem dX12_charges_83 : decode cX12_charges 83 = .ok (.aload_n 0, 1) := by decide +kernel
theorem dX12_charges_84 : decode cX12_charges 84 = .ok (.getfield 101, 3) := by decide +kernel
theorem dX12_charges_87 : decode cX12_charges 87 = .ok (.aload_n 0, 1) := by decide +kernel
theorem dX12_charges_88 : decode cX12_charges 88 = .ok (.getfield 31, 3) := by decide +kernel
theorem dX12_charges_91 : decode cX12_charges 91 = .ok (.iload 5, 2) := by decide +kernel
theorem dX12_charges_93 : decode cX12_charges 93 = .ok (.iaload, 1) := by decide +kernel
theorem dX12_charges_94 : decode cX12_charges 94 = .ok (.aload_n 0, 1) := by decide +kernel
theorem dX12_charges_95 : decode cX12_charges 95 = .ok (.getfield 101, 3) := by decide +kernel
theorem dX12_charges_98 : decode cX12_charges 98 = .ok (.aload_n 0, 1) := by decide +kernel
theorem dX12_charges_99 : decode cX12_charges 99 = .ok (.getfield 31, 3) := by decide +kernel
theorem dX12_charges_102 : decode cX12_charges 102 = .ok (.iload 5, 2) := by decide +kernel
theorem dX12_charges_104 : decode cX12_charges 104 = .ok (.iaload, 1) := by decide +kernel
theorem dX12_charges_105 : decode cX12_charges 105 = .ok (.iaload, 1) := by decide +kernel
theorem dX12_charges_106 : decode cX12_charges 106 = .ok (.aload_n 0, 1) := by decide +kernel
theorem dX12_charges_107 : decode cX12_charges 107 = .ok (.getfield 34, 3) := by decide +kernel
theorem dX12_charges_110 : decode cX12_charges 110 = .ok (.iload 5, 2) := by decide +kernel
theorem dX12_charges_112 : decode cX12_charges 112 = .ok (.iaload, 1) := by decide +kernel
theorem dX12_charges_113 : decode cX12_charges 113 = .ok (.iadd, 1) := by decide +kernel
theorem dX12_charges_114 : decode cX12_charges 114 = .ok (.iastore, 1) := by decide +kernel
theorem dX12_charges_115 : decode cX12_charges 115 = .ok (.iinc 4 1, 3) := by decide +kernel
theorem dX12_charges_118 : decode cX12_charges 118 = .ok (.goto (-70), 3) := by decide +kernel
theorem dX12_charges_121 : decode cX12_charges 121 = .ok (.bipush (-2), 2) := by decide +kernel
theorem dX12_charges_123 : decode cX12_charges 123 = .ok (.istore 4, 2) := by decide +kernel
theorem dX12_charges_125 : decode cX12_charges 125 = .ok (.iconst 0, 1) := by decide +kernel
theorem dX12_charges_126 : decode cX12_charges 126 = .ok (.istore 5, 2) := by decide +kernel
theorem dX12_charges_128 : decode cX12_charges 128 = .ok (.iconst 2, 1) := by decide +kernel
theorem dX12_charges_129 : decode cX12_charges 129 = .ok (.istore 6, 2) := by decide +kernel
theorem dX12_charges_131 : decode cX12_charges 131 = .ok (.iload 6, 2) := by decide +kernel
theorem dX12_charges_133 : decode cX12_charges 133 = .ok (.bipush 10, 2) := by decide +kernel
theorem dX12_charges_135 : decode cX12_charges 135 = .ok (.if_icmp .ge 39, 3) := by decide +kernel
theorem dX12_charges_138 : decode cX12_charges 138 = .ok (.aload_n 0, 1) := by decide +kernel
theorem dX12_charges_139 : decode cX12_charges 139 = .ok (.getfield 101, 3) := by decide +kernel
theorem dX12_charges_142 : decode cX12_charges 142 = .ok (.iload 6, 2) := by decide +kernel
theorem dX12_charges_144 : decode cX12_charges 144 = .ok (.iaload, 1) := by decide +kernel
theorem dX12_charges_145 : decode cX12_charges 145 = .ok (.iload 5, 2) := by decide +kernel
theorem dX12_charges_147 : decode cX12_charges 147 = .ok (.if_icmp .gt 6, 3) := by decide +kernel
theorem dX12_charges_150 : decode cX12_charges 150 = .ok (.goto 18, 3) := by decide +kernel
theorem dX12_charges_153 : decode cX12_charges 153 = .ok (.aload_n 0, 1) := by decide +kernel
theorem dX12_charges_154 : decode cX12_charges 154 = .ok (.getfield 101, 3) := by decide +kernel
theorem dX12_charges_157 : decode cX12_charges 157 = .ok (.iload 6, 2) := by decide +kernel
theorem dX12_charges_159 : decode cX12_charges 159 = .ok (.iaload, 1) := by decide +kernel
theorem dX12_charges_160 : decode cX12_charges 160 = .ok (.istore 5, 2) := by decide +kernel
theorem dX12_charges_162 : decode cX12_charges 162 = .ok (.iload 6, 2) := by decide +kernel
theorem dX12_charges_164 : decode cX12_charges 164 = .ok (.iconst 2, 1) := by decide +kernel
theorem dX12_charges_165 : decode cX12_charges 165 = .ok (.isub, 1) := by decide +kernel
theorem dX12_charges_166 : decode cX12_charges 166 = .ok (.istore 4, 2) := by decide +kernel
theorem dX12_charges_168 : decode cX12_charges 168 = .ok (.iinc 6 1, 3) := by decide +kernel
theorem dX12_charges_171 : decode cX12_charges 171 = .ok (.goto (-40), 3) := by decide +kernel
theorem dX12_charges_174 : decode cX12_charges 174 = .ok (.iload_n 2, 1) := by decide +kernel
theorem dX12_charges_175 : decode cX12_charges 175 = .ok (.ifCond .ne 7, 3) := by decide +kernel
theorem dX12_charges_178 : decode cX12_charges 178 = .ok (.iload_n 3, 1) := by decide +kernel
theorem dX12_charges_179 : decode cX12_charges 179 = .ok (.goto 15, 3) := by decide +kernel
theorem dX12_charges_182 : decode cX12_charges 182 = .ok (.iload_n 2, 1) := by decide +kernel
theorem dX12_charges_183 : decode cX12_charges 183 = .ok (.iconst 1, 1) := by decide +kernel
theorem dX12_charges_184 : decode cX12_charges 184 = .ok (.if_icmp .ne 8, 3) := by decide +kernel
theorem dX12_charges_187 : decode cX12_charges 187 = .ok (.iload 4, 2) := by decide +kernel
theorem dX12_charges_189 : decode cX12_charges 189 = .ok (.goto 5, 3) := by decide +kernel
theorem dX12_charges_192 : decode cX12_charges 192 = .ok (.iload 5, 2) := by decide +kernel
theorem dX12_charges_194 : decode cX12_charges 194 = .ok (.ireturn, 1) := by decide +kernel
theorem dX12_walksFrom_0 : decode cX12_walksFrom 0 = .ok (.iconst 0, 1) := by decide +kernel
theorem dX12_walksFrom_1 : decode cX12_walksFrom 1 = .ok (.istore_n 2, 1) := by decide +kernel
theorem dX12_walksFrom_2 : decode cX12_walksFrom 2 = .ok (.iload_n 2, 1) := by decide +kernel
theorem dX12_walksFrom_3 : decode cX12_walksFrom 3 = .ok (.sipush 192, 3) := by decide +kernel
theorem dX12_walksFrom_6 : decode cX12_walksFrom 6 = .ok (.if_icmp .ge 16, 3) := by decide +kernel
theorem dX12_walksFrom_9 : decode cX12_walksFrom 9 = .ok (.aload_n 0, 1) := by decide +kernel
theorem dX12_walksFrom_10 : decode cX12_walksFrom 10 = .ok (.getfield 104, 3) := by decide +kernel
theorem dX12_walksFrom_13 : decode cX12_walksFrom 13 = .ok (.iload_n 2, 1) := by decide +kernel
theorem dX12_walksFrom_14 : decode cX12_walksFrom 14 = .ok (.iconst (-1), 1) := by decide +kernel
theorem dX12_walksFrom_15 : decode cX12_walksFrom 15 = .ok (.iastore, 1) := by decide +kernel
theorem dX12_walksFrom_16 : decode cX12_walksFrom 16 = .ok (.iinc 2 1, 3) := by decide +kernel
theorem dX12_walksFrom_19 : decode cX12_walksFrom 19 = .ok (.goto (-17), 3) := by decide +kernel
theorem dX12_walksFrom_22 : decode cX12_walksFrom 22 = .ok (.aload_n 0, 1) := by decide +kernel
theorem dX12_walksFrom_23 : decode cX12_walksFrom 23 = .ok (.getfield 104, 3) := by decide +kernel
theorem dX12_walksFrom_26 : decode cX12_walksFrom 26 = .ok (.iload_n 1, 1) := by decide +kernel
theorem dX12_walksFrom_27 : decode cX12_walksFrom 27 = .ok (.iconst 0, 1) := by decide +kernel
theorem dX12_walksFrom_28 : decode cX12_walksFrom 28 = .ok (.iastore, 1) := by decide +kernel
theorem dX12_walksFrom_29 : decode cX12_walksFrom 29 = .ok (.aload_n 0, 1) := by decide +kernel
theorem dX12_walksFrom_30 : decode cX12_walksFrom 30 = .ok (.getfield 107, 3) := by decide +kernel
theorem dX12_walksFrom_33 : decode cX12_walksFrom 33 = .ok (.iconst 0, 1) := by decide +kernel
theorem dX12_walksFrom_34 : decode cX12_walksFrom 34 = .ok (.iload_n 1, 1) := by decide +kernel
theorem dX12_walksFrom_35 : decode cX12_walksFrom 35 = .ok (.iastore, 1) := by decide +kernel
theorem dX12_walksFrom_36 : decode cX12_walksFrom 36 = .ok (.iconst 1, 1) := by decide +kernel
theorem dX12_walksFrom_37 : decode cX12_walksFrom 37 = .ok (.istore_n 2, 1) := by decide +kernel
theorem dX12_walksFrom_38 : decode cX12_walksFrom 38 = .ok (.iconst 0, 1) := by decide +kernel
theorem dX12_walksFrom_39 : decode cX12_walksFrom 39 = .ok (.istore_n 3, 1) := by decide +kernel
theorem dX12_walksFrom_40 : decode cX12_walksFrom 40 = .ok (.iload_n 3, 1) := by decide +kernel
theorem dX12_walksFrom_41 : decode cX12_walksFrom 41 = .ok (.iload_n 2, 1) := by decide +kernel
theorem dX12_walksFrom_42 : decode cX12_walksFrom 42 = .ok (.if_icmp .ge 93, 3) := by decide +kernel
theorem dX12_walksFrom_45 : decode cX12_walksFrom 45 = .ok (.iconst 0, 1) := by decide +kernel
theorem dX12_walksFrom_46 : decode cX12_walksFrom 46 = .ok (.istore 4, 2) := by decide +kernel
theorem dX12_walksFrom_48 : decode cX12_walksFrom 48 = .ok (.iload 4, 2) := by decide +kernel
theorem dX12_walksFrom_50 : decode cX12_walksFrom 50 = .ok (.iconst 4, 1) := by decide +kernel
theorem dX12_walksFrom_51 : decode cX12_walksFrom 51 = .ok (.if_icmp .ge 78, 3) := by decide +kernel
theorem dX12_walksFrom_54 : decode cX12_walksFrom 54 = .ok (.aload_n 0, 1) := by decide +kernel
theorem dX12_walksFrom_55 : decode cX12_walksFrom 55 = .ok (.getfield 107, 3) := by decide +kernel
theorem dX12_walksFrom_58 : decode cX12_walksFrom 58 = .ok (.iload_n 3, 1) := by decide +kernel
theorem dX12_walksFrom_59 : decode cX12_walksFrom 59 = .ok (.iaload, 1) := by decide +kernel
theorem dX12_walksFrom_60 : decode cX12_walksFrom 60 = .ok (.iload 4, 2) := by decide +kernel
theorem dX12_walksFrom_62 : decode cX12_walksFrom 62 = .ok (.invokestatic 265, 3) := by decide +kernel
theorem dX12_walksFrom_65 : decode cX12_walksFrom 65 = .ok (.istore 5, 2) := by decide +kernel
theorem dX12_walksFrom_67 : decode cX12_walksFrom 67 = .ok (.aload_n 0, 1) := by decide +kernel
theorem dX12_walksFrom_68 : decode cX12_walksFrom 68 = .ok (.getfield 110, 3) := by decide +kernel
theorem dX12_walksFrom_71 : decode cX12_walksFrom 71 = .ok (.iload 5, 2) := by decide +kernel
theorem dX12_walksFrom_73 : decode cX12_walksFrom 73 = .ok (.baload, 1) := by decide +kernel
theorem dX12_walksFrom_74 : decode cX12_walksFrom 74 = .ok (.ifCond .ne 49, 3) := by decide +kernel
theorem dX12_walksFrom_77 : decode cX12_walksFrom 77 = .ok (.aload_n 0, 1) := by decide +kernel
theorem dX12_walksFrom_78 : decode cX12_walksFrom 78 = .ok (.getfield 104, 3) := by decide +kernel
theorem dX12_walksFrom_81 : decode cX12_walksFrom 81 = .ok (.iload 5, 2) := by decide +kernel
theorem dX12_walksFrom_83 : decode cX12_walksFrom 83 = .ok (.iaload, 1) := by decide +kernel
theorem dX12_walksFrom_84 : decode cX12_walksFrom 84 = .ok (.iconst (-1), 1) := by decide +kernel
theorem dX12_walksFrom_85 : decode cX12_walksFrom 85 = .ok (.if_icmp .eq 6, 3) := by decide +kernel
theorem dX12_walksFrom_88 : decode cX12_walksFrom 88 = .ok (.goto 35, 3) := by decide +kernel
theorem dX12_walksFrom_91 : decode cX12_walksFrom 91 = .ok (.aload_n 0, 1) := by decide +kernel
theorem dX12_walksFrom_92 : decode cX12_walksFrom 92 = .ok (.getfield 104, 3) := by decide +kernel
theorem dX12_walksFrom_95 : decode cX12_walksFrom 95 = .ok (.iload 5, 2) := by decide +kernel
theorem dX12_walksFrom_97 : decode cX12_walksFrom 97 = .ok (.aload_n 0, 1) := by decide +kernel
theorem dX12_walksFrom_98 : decode cX12_walksFrom 98 = .ok (.getfield 104, 3) := by decide +kernel
theorem dX12_walksFrom_101 : decode cX12_walksFrom 101 = .ok (.aload_n 0, 1) := by decide +kernel
theorem dX12_walksFrom_102 : decode cX12_walksFrom 102 = .ok (.getfield 107, 3) := by decide +kernel
theorem dX12_walksFrom_105 : decode cX12_walksFrom 105 = .ok (.iload_n 3, 1) := by decide +kernel
theorem dX12_walksFrom_106 : decode cX12_walksFrom 106 = .ok (.iaload, 1) := by decide +kernel
theorem dX12_walksFrom_107 : decode cX12_walksFrom 107 = .ok (.iaload, 1) := by decide +kernel
theorem dX12_walksFrom_108 : decode cX12_walksFrom 108 = .ok (.iconst 1, 1) := by decide +kernel
theorem dX12_walksFrom_109 : decode cX12_walksFrom 109 = .ok (.iadd, 1) := by decide +kernel
theorem dX12_walksFrom_110 : decode cX12_walksFrom 110 = .ok (.iastore, 1) := by decide +kernel
theorem dX12_walksFrom_111 : decode cX12_walksFrom 111 = .ok (.aload_n 0, 1) := by decide +kernel
theorem dX12_walksFrom_112 : decode cX12_walksFrom 112 = .ok (.getfield 107, 3) := by decide +kernel
theorem dX12_walksFrom_115 : decode cX12_walksFrom 115 = .ok (.iload_n 2, 1) := by decide +kernel
theorem dX12_walksFrom_116 : decode cX12_walksFrom 116 = .ok (.iload 5, 2) := by decide +kernel
theorem dX12_walksFrom_118 : decode cX12_walksFrom 118 = .ok (.iastore, 1) := by decide +kernel
theorem dX12_walksFrom_119 : decode cX12_walksFrom 119 = .ok (.iload_n 2, 1) := by decide +kernel
theorem dX12_walksFrom_120 : decode cX12_walksFrom 120 = .ok (.iconst 1, 1) := by decide +kernel
theorem dX12_walksFrom_121 : decode cX12_walksFrom 121 = .ok (.iadd, 1) := by decide +kernel
theorem dX12_walksFrom_122 : decode cX12_walksFrom 122 = .ok (.istore_n 2, 1) := by decide +kernel
theorem dX12_walksFrom_123 : decode cX12_walksFrom 123 = .ok (.iinc 4 1, 3) := by decide +kernel
theorem dX12_walksFrom_126 : decode cX12_walksFrom 126 = .ok (.goto (-78), 3) := by decide +kernel
theorem dX12_walksFrom_129 : decode cX12_walksFrom 129 = .ok (.iinc 3 1, 3) := by decide +kernel
theorem dX12_walksFrom_132 : decode cX12_walksFrom 132 = .ok (.goto (-92), 3) := by decide +kernel
theorem dX12_walksFrom_135 : decode cX12_walksFrom 135 = .ok (.return_, 1) := by decide +kernel
theorem dX12_round_0 : decode cX12_round 0 = .ok (.iload_n 1, 1) := by decide +kernel
theorem dX12_round_1 : decode cX12_round 1 = .ok (.iconst 0, 1) := by decide +kernel
theorem dX12_round_2 : decode cX12_round 2 = .ok (.sipush 191, 3) := by decide +kernel
theorem dX12_round_5 : decode cX12_round 5 = .ok (.invokestatic 118, 3) := by decide +kernel
theorem dX12_round_8 : decode cX12_round 8 = .ok (.ifCond .eq 14, 3) := by decide +kernel
theorem dX12_round_11 : decode cX12_round 11 = .ok (.iload_n 2, 1) := by decide +kernel
theorem dX12_round_12 : decode cX12_round 12 = .ok (.iconst 0, 1) := by decide +kernel
theorem dX12_round_13 : decode cX12_round 13 = .ok (.sipush 191, 3) := by decide +kernel
theorem dX12_round_16 : decode cX12_round 16 = .ok (.invokestatic 118, 3) := by decide +kernel
theorem dX12_round_19 : decode cX12_round 19 = .ok (.ifCond .ne 5, 3) := by decide +kernel
theorem dX12_round_22 : decode cX12_round 22 = .ok (.iconst (-1), 1) := by decide +kernel
theorem dX12_round_23 : decode cX12_round 23 = .ok (.ireturn, 1) := by decide +kernel
theorem dX12_round_24 : decode cX12_round 24 = .ok (.iconst 0, 1) := by decide +kernel
theorem dX12_round_25 : decode cX12_round 25 = .ok (.istore_n 3, 1) := by decide +kernel
theorem dX12_round_26 : decode cX12_round 26 = .ok (.iload_n 3, 1) := by decide +kernel
theorem dX12_round_27 : decode cX12_round 27 = .ok (.sipush 192, 3) := by decide +kernel
theorem dX12_round_30 : decode cX12_round 30 = .ok (.if_icmp .ge 30, 3) := by decide +kernel
theorem dX12_round_33 : decode cX12_round 33 = .ok (.aload_n 0, 1) := by decide +kernel
theorem dX12_round_34 : decode cX12_round 34 = .ok (.getfield 110, 3) := by decide +kernel
theorem dX12_round_37 : decode cX12_round 37 = .ok (.iload_n 3, 1) := by decide +kernel
theorem dX12_round_38 : decode cX12_round 38 = .ok (.aload_n 0, 1) := by decide +kernel
theorem dX12_round_39 : decode cX12_round 39 = .ok (.getfield 31, 3) := by decide +kernel
theorem dX12_round_42 : decode cX12_round 42 = .ok (.iload_n 3, 1) := by decide +kernel
theorem dX12_round_43 : decode cX12_round 43 = .ok (.iaload, 1) := by decide +kernel
theorem dX12_round_44 : decode cX12_round 44 = .ok (.iconst 1, 1) := by decide +kernel
theorem dX12_round_45 : decode cX12_round 45 = .ok (.if_icmp .ne 7, 3) := by decide +kernel
theorem dX12_round_48 : decode cX12_round 48 = .ok (.iconst 1, 1) := by decide +kernel
theorem dX12_round_49 : decode cX12_round 49 = .ok (.goto 4, 3) := by decide +kernel
theorem dX12_round_52 : decode cX12_round 52 = .ok (.iconst 0, 1) := by decide +kernel
theorem dX12_round_53 : decode cX12_round 53 = .ok (.bastore, 1) := by decide +kernel
theorem dX12_round_54 : decode cX12_round 54 = .ok (.iinc 3 1, 3) := by decide +kernel
theorem dX12_round_57 : decode cX12_round 57 = .ok (.goto (-31), 3) := by decide +kernel
theorem dX12_round_60 : decode cX12_round 60 = .ok (.aload_n 0, 1) := by decide +kernel
theorem dX12_round_61 : decode cX12_round 61 = .ok (.getfield 110, 3) := by decide +kernel
theorem dX12_round_64 : decode cX12_round 64 = .ok (.iload_n 1, 1) := by decide +kernel
theorem dX12_round_65 : decode cX12_round 65 = .ok (.baload, 1) := by decide +kernel
theorem dX12_round_66 : decode cX12_round 66 = .ok (.ifCond .ne 12, 3) := by decide +kernel
theorem dX12_round_69 : decode cX12_round 69 = .ok (.aload_n 0, 1) := by decide +kernel
theorem dX12_round_70 : decode cX12_round 70 = .ok (.getfield 110, 3) := by decide +kernel
theorem dX12_round_73 : decode cX12_round 73 = .ok (.iload_n 2, 1) := by decide +kernel
theorem dX12_round_74 : decode cX12_round 74 = .ok (.baload, 1) := by decide +kernel
theorem dX12_round_75 : decode cX12_round 75 = .ok (.ifCond .eq 6, 3) := by decide +kernel
theorem dX12_round_78 : decode cX12_round 78 = .ok (.bipush (-2), 2) := by decide +kernel
theorem dX12_round_80 : decode cX12_round 80 = .ok (.ireturn, 1) := by decide +kernel
theorem dX12_round_81 : decode cX12_round 81 = .ok (.aload_n 0, 1) := by decide +kernel
theorem dX12_round_82 : decode cX12_round 82 = .ok (.iload_n 1, 1) := by decide +kernel
theorem dX12_round_83 : decode cX12_round 83 = .ok (.invokevirtual 380, 3) := by decide +kernel
theorem dX12_round_86 : decode cX12_round 86 = .ok (.aload_n 0, 1) := by decide +kernel
theorem dX12_round_87 : decode cX12_round 87 = .ok (.getfield 104, 3) := by decide +kernel
theorem dX12_round_90 : decode cX12_round 90 = .ok (.iload_n 2, 1) := by decide +kernel
theorem dX12_round_91 : decode cX12_round 91 = .ok (.iaload, 1) := by decide +kernel
theorem dX12_round_92 : decode cX12_round 92 = .ok (.iconst (-1), 1) := by decide +kernel
theorem dX12_round_93 : decode cX12_round 93 = .ok (.if_icmp .ne 8, 3) := by decide +kernel
theorem dX12_round_96 : decode cX12_round 96 = .ok (.bipush (-2), 2) := by decide +kernel
theorem dX12_round_98 : decode cX12_round 98 = .ok (.goto 9, 3) := by decide +kernel
theorem dX12_round_101 : decode cX12_round 101 = .ok (.aload_n 0, 1) := by decide +kernel
theorem dX12_round_102 : decode cX12_round 102 = .ok (.getfield 104, 3) := by decide +kernel
theorem dX12_round_105 : decode cX12_round 105 = .ok (.iload_n 2, 1) := by decide +kernel
theorem dX12_round_106 : decode cX12_round 106 = .ok (.iaload, 1) := by decide +kernel
theorem dX12_round_107 : decode cX12_round 107 = .ok (.ireturn, 1) := by decide +kernel
theorem dX12_cast_0 : decode cX12_cast 0 = .ok (.aload_n 0, 1) := by decide +kernel
theorem dX12_cast_1 : decode cX12_cast 1 = .ok (.iload_n 1, 1) := by decide +kernel
theorem dX12_cast_2 : decode cX12_cast 2 = .ok (.invokevirtual 286, 3) := by decide +kernel
theorem dX12_cast_5 : decode cX12_cast 5 = .ok (.ifCond .ne 5, 3) := by decide +kernel
theorem dX12_cast_8 : decode cX12_cast 8 = .ok (.iconst (-1), 1) := by decide +kernel
theorem dX12_cast_9 : decode cX12_cast 9 = .ok (.ireturn, 1) := by decide +kernel
theorem dX12_cast_10 : decode cX12_cast 10 = .ok (.bipush (-2), 2) := by decide +kernel
theorem dX12_cast_12 : decode cX12_cast 12 = .ok (.istore_n 2, 1) := by decide +kernel
theorem dX12_cast_13 : decode cX12_cast 13 = .ok (.iconst 0, 1) := by decide +kernel
theorem dX12_cast_14 : decode cX12_cast 14 = .ok (.istore_n 3, 1) := by decide +kernel
theorem dX12_cast_15 : decode cX12_cast 15 = .ok (.iload_n 3, 1) := by decide +kernel
theorem dX12_cast_16 : decode cX12_cast 16 = .ok (.bipush 8, 2) := by decide +kernel
theorem dX12_cast_18 : decode cX12_cast 18 = .ok (.if_icmp .ge 147, 3) := by decide +kernel
theorem dX12_cast_21 : decode cX12_cast 21 = .ok (.iconst 0, 1) := by decide +kernel
theorem dX12_cast_22 : decode cX12_cast 22 = .ok (.istore 4, 2) := by decide +kernel
theorem dX12_cast_24 : decode cX12_cast 24 = .ok (.iload 4, 2) := by decide +kernel
theorem dX12_cast_26 : decode cX12_cast 26 = .ok (.aload_n 0, 1) := by decide +kernel
theorem dX12_cast_27 : decode cX12_cast 27 = .ok (.getfield 19, 3) := by decide +kernel
theorem dX12_cast_30 : decode cX12_cast 30 = .ok (.iload_n 3, 1) := by decide +kernel
theorem dX12_cast_31 : decode cX12_cast 31 = .ok (.iaload, 1) := by decide +kernel
theorem dX12_cast_32 : decode cX12_cast 32 = .ok (.if_icmp .gt 127, 3) := by decide +kernel
theorem dX12_cast_35 : decode cX12_cast 35 = .ok (.aload_n 0, 1) := by decide +kernel
theorem dX12_cast_36 : decode cX12_cast 36 = .ok (.iload_n 3, 1) := by decide +kernel
theorem dX12_cast_37 : decode cX12_cast 37 = .ok (.invokevirtual 122, 3) := by decide +kernel
theorem dX12_cast_40 : decode cX12_cast 40 = .ok (.ifCond .eq 119, 3) := by decide +kernel
theorem dX12_cast_43 : decode cX12_cast 43 = .ok (.aload_n 0, 1) := by decide +kernel
theorem dX12_cast_44 : decode cX12_cast 44 = .ok (.iload_n 3, 1) := by decide +kernel
theorem dX12_cast_45 : decode cX12_cast 45 = .ok (.iload 4, 2) := by decide +kernel
theorem dX12_cast_47 : decode cX12_cast 47 = .ok (.invokevirtual 295, 3) := by decide +kernel
theorem dX12_cast_50 : decode cX12_cast 50 = .ok (.ifCond .eq 103, 3) := by decide +kernel
theorem dX12_cast_53 : decode cX12_cast 53 = .ok (.aload_n 0, 1) := by decide +kernel
theorem dX12_cast_54 : decode cX12_cast 54 = .ok (.getfield 22, 3) := by decide +kernel
theorem dX12_cast_57 : decode cX12_cast 57 = .ok (.iload_n 3, 1) := by decide +kernel
theorem dX12_cast_58 : decode cX12_cast 58 = .ok (.iaload, 1) := by decide +kernel
theorem dX12_cast_59 : decode cX12_cast 59 = .ok (.iload 4, 2) := by decide +kernel
theorem dX12_cast_61 : decode cX12_cast 61 = .ok (.iadd, 1) := by decide +kernel
theorem dX12_cast_62 : decode cX12_cast 62 = .ok (.aload_n 0, 1) := by decide +kernel
theorem dX12_cast_63 : decode cX12_cast 63 = .ok (.getfield 7, 3) := by decide +kernel
theorem dX12_cast_66 : decode cX12_cast 66 = .ok (.bipush 12, 2) := by decide +kernel
theorem dX12_cast_68 : decode cX12_cast 68 = .ok (.iload_n 1, 1) := by decide +kernel
theorem dX12_cast_69 : decode cX12_cast 69 = .ok (.iadd, 1) := by decide +kernel
theorem dX12_cast_70 : decode cX12_cast 70 = .ok (.iaload, 1) := by decide +kernel
theorem dX12_cast_71 : decode cX12_cast 71 = .ok (.if_icmp .lt 6, 3) := by decide +kernel
theorem dX12_cast_74 : decode cX12_cast 74 = .ok (.goto 79, 3) := by decide +kernel
theorem dX12_cast_77 : decode cX12_cast 77 = .ok (.aload_n 0, 1) := by decide +kernel
theorem dX12_cast_78 : decode cX12_cast 78 = .ok (.getfield 28, 3) := by decide +kernel
theorem dX12_cast_81 : decode cX12_cast 81 = .ok (.bipush 97, 2) := by decide +kernel
theorem dX12_cast_83 : decode cX12_cast 83 = .ok (.iload_n 3, 1) := by decide +kernel
theorem dX12_cast_84 : decode cX12_cast 84 = .ok (.imul, 1) := by decide +kernel
theorem dX12_cast_85 : decode cX12_cast 85 = .ok (.iload 4, 2) := by decide +kernel
theorem dX12_cast_87 : decode cX12_cast 87 = .ok (.iadd, 1) := by decide +kernel
theorem dX12_cast_88 : decode cX12_cast 88 = .ok (.iaload, 1) := by decide +kernel
theorem dX12_cast_89 : decode cX12_cast 89 = .ok (.istore 5, 2) := by decide +kernel
theorem dX12_cast_91 : decode cX12_cast 91 = .ok (.iload 5, 2) := by decide +kernel
theorem dX12_cast_93 : decode cX12_cast 93 = .ok (.bipush 16, 2) := by decide +kernel
theorem dX12_cast_95 : decode cX12_cast 95 = .ok (.irem, 1) := by decide +kernel
theorem dX12_cast_96 : decode cX12_cast 96 = .ok (.aload_n 0, 1) := by decide +kernel
theorem dX12_cast_97 : decode cX12_cast 97 = .ok (.getfield 7, 3) := by decide +kernel
theorem dX12_cast_100 : decode cX12_cast 100 = .ok (.bipush 6, 2) := by decide +kernel
theorem dX12_cast_102 : decode cX12_cast 102 = .ok (.iload_n 1, 1) := by decide +kernel
theorem dX12_cast_103 : decode cX12_cast 103 = .ok (.iadd, 1) := by decide +kernel
theorem dX12_cast_104 : decode cX12_cast 104 = .ok (.iaload, 1) := by decide +kernel
theorem dX12_cast_105 : decode cX12_cast 105 = .ok (.bipush 16, 2) := by decide +kernel
theorem dX12_cast_107 : decode cX12_cast 107 = .ok (.irem, 1) := by decide +kernel
theorem dX12_cast_108 : decode cX12_cast 108 = .ok (.isub, 1) := by decide +kernel
theorem dX12_cast_109 : decode cX12_cast 109 = .ok (.invokestatic 359, 3) := by decide +kernel
theorem dX12_cast_112 : decode cX12_cast 112 = .ok (.iload 5, 2) := by decide +kernel
theorem dX12_cast_114 : decode cX12_cast 114 = .ok (.bipush 16, 2) := by decide +kernel
theorem dX12_cast_116 : decode cX12_cast 116 = .ok (.idiv, 1) := by decide +kernel
theorem dX12_cast_117 : decode cX12_cast 117 = .ok (.aload_n 0, 1) := by decide +kernel
theorem dX12_cast_118 : decode cX12_cast 118 = .ok (.getfield 7, 3) := by decide +kernel
theorem dX12_cast_121 : decode cX12_cast 121 = .ok (.bipush 6, 2) := by decide +kernel
theorem dX12_cast_123 : decode cX12_cast 123 = .ok (.iload_n 1, 1) := by decide +kernel
theorem dX12_cast_124 : decode cX12_cast 124 = .ok (.iadd, 1) := by decide +kernel
theorem dX12_cast_125 : decode cX12_cast 125 = .ok (.iaload, 1) := by decide +kernel
theorem dX12_cast_126 : decode cX12_cast 126 = .ok (.bipush 16, 2) := by decide +kernel
theorem dX12_cast_128 : decode cX12_cast 128 = .ok (.idiv, 1) := by decide +kernel
theorem dX12_cast_129 : decode cX12_cast 129 = .ok (.isub, 1) := by decide +kernel
theorem dX12_cast_130 : decode cX12_cast 130 = .ok (.invokestatic 359, 3) := by decide +kernel
theorem dX12_cast_133 : decode cX12_cast 133 = .ok (.invokestatic 283, 3) := by decide +kernel
theorem dX12_cast_136 : decode cX12_cast 136 = .ok (.istore 6, 2) := by decide +kernel
theorem dX12_cast_138 : decode cX12_cast 138 = .ok (.iload_n 2, 1) := by decide +kernel
theorem dX12_cast_139 : decode cX12_cast 139 = .ok (.bipush (-2), 2) := by decide +kernel
theorem dX12_cast_141 : decode cX12_cast 141 = .ok (.if_icmp .eq 9, 3) := by decide +kernel
theorem dX12_cast_144 : decode cX12_cast 144 = .ok (.iload 6, 2) := by decide +kernel
theorem dX12_cast_146 : decode cX12_cast 146 = .ok (.iload_n 2, 1) := by decide +kernel
theorem dX12_cast_147 : decode cX12_cast 147 = .ok (.if_icmp .ge 6, 3) := by decide +kernel
theorem dX12_cast_150 : decode cX12_cast 150 = .ok (.iload 6, 2) := by decide +kernel
theorem dX12_cast_152 : decode cX12_cast 152 = .ok (.istore_n 2, 1) := by decide +kernel
theorem dX12_cast_153 : decode cX12_cast 153 = .ok (.iinc 4 1, 3) := by decide +kernel
theorem dX12_cast_156 : decode cX12_cast 156 = .ok (.goto (-132), 3) := by decide +kernel
theorem dX12_cast_159 : decode cX12_cast 159 = .ok (.iinc 3 1, 3) := by decide +kernel
theorem dX12_cast_162 : decode cX12_cast 162 = .ok (.goto (-147), 3) := by decide +kernel
theorem dX12_cast_165 : decode cX12_cast 165 = .ok (.iload_n 2, 1) := by decide +kernel
theorem dX12_cast_166 : decode cX12_cast 166 = .ok (.ireturn, 1) := by decide +kernel
theorem dX12_huntable_0 : decode cX12_huntable 0 = .ok (.iload_n 1, 1) := by decide +kernel
theorem dX12_huntable_1 : decode cX12_huntable 1 = .ok (.iconst 1, 1) := by decide +kernel
theorem dX12_huntable_2 : decode cX12_huntable 2 = .ok (.bipush 99, 2) := by decide +kernel
theorem dX12_huntable_4 : decode cX12_huntable 4 = .ok (.invokestatic 118, 3) := by decide +kernel
theorem dX12_huntable_7 : decode cX12_huntable 7 = .ok (.ifCond .ne 5, 3) := by decide +kernel
theorem dX12_huntable_10 : decode cX12_huntable 10 = .ok (.iconst (-1), 1) := by decide +kernel
theorem dX12_huntable_11 : decode cX12_huntable 11 = .ok (.ireturn, 1) := by decide +kernel
theorem dX12_huntable_12 : decode cX12_huntable 12 = .ok (.iconst 0, 1) := by decide +kernel
theorem dX12_huntable_13 : decode cX12_huntable 13 = .ok (.istore_n 2, 1) := by decide +kernel
theorem dX12_huntable_14 : decode cX12_huntable 14 = .ok (.iload_n 2, 1) := by decide +kernel
theorem dX12_huntable_15 : decode cX12_huntable 15 = .ok (.sipush 192, 3) := by decide +kernel
theorem dX12_huntable_18 : decode cX12_huntable 18 = .ok (.if_icmp .ge 16, 3) := by decide +kernel
theorem dX12_huntable_21 : decode cX12_huntable 21 = .ok (.aload_n 0, 1) := by decide +kernel
theorem dX12_huntable_22 : decode cX12_huntable 22 = .ok (.getfield 110, 3) := by decide +kernel
theorem dX12_huntable_25 : decode cX12_huntable 25 = .ok (.iload_n 2, 1) := by decide +kernel
theorem dX12_huntable_26 : decode cX12_huntable 26 = .ok (.iconst 0, 1) := by decide +kernel
theorem dX12_huntable_27 : decode cX12_huntable 27 = .ok (.bastore, 1) := by decide +kernel
theorem dX12_huntable_28 : decode cX12_huntable 28 = .ok (.iinc 2 1, 3) := by decide +kernel
theorem dX12_huntable_31 : decode cX12_huntable 31 = .ok (.goto (-17), 3) := by decide +kernel
theorem dX12_huntable_34 : decode cX12_huntable 34 = .ok (.iconst 0, 1) := by decide +kernel
theorem dX12_huntable_35 : decode cX12_huntable 35 = .ok (.istore_n 2, 1) := by decide +kernel
theorem dX12_huntable_36 : decode cX12_huntable 36 = .ok (.iconst 0, 1) := by decide +kernel
theorem dX12_huntable_37 : decode cX12_huntable 37 = .ok (.istore_n 3, 1) := by decide +kernel
theorem dX12_huntable_38 : decode cX12_huntable 38 = .ok (.iload_n 3, 1) := by decide +kernel
theorem dX12_huntable_39 : decode cX12_huntable 39 = .ok (.bipush 8, 2) := by decide +kernel
theorem dX12_huntable_41 : decode cX12_huntable 41 = .ok (.if_icmp .ge 87, 3) := by decide +kernel
theorem dX12_huntable_44 : decode cX12_huntable 44 = .ok (.iconst 0, 1) := by decide +kernel
theorem dX12_huntable_45 : decode cX12_huntable 45 = .ok (.istore 4, 2) := by decide +kernel
theorem dX12_huntable_47 : decode cX12_huntable 47 = .ok (.iload 4, 2) := by decide +kernel
theorem dX12_huntable_49 : decode cX12_huntable 49 = .ok (.aload_n 0, 1) := by decide +kernel
theorem dX12_huntable_50 : decode cX12_huntable 50 = .ok (.getfield 19, 3) := by decide +kernel
theorem dX12_huntable_53 : decode cX12_huntable 53 = .ok (.iload_n 3, 1) := by decide +kernel
theorem dX12_huntable_54 : decode cX12_huntable 54 = .ok (.iaload, 1) := by decide +kernel
theorem dX12_huntable_55 : decode cX12_huntable 55 = .ok (.if_icmp .gt 67, 3) := by decide +kernel
theorem dX12_huntable_58 : decode cX12_huntable 58 = .ok (.aload_n 0, 1) := by decide +kernel
theorem dX12_huntable_59 : decode cX12_huntable 59 = .ok (.iload_n 3, 1) := by decide +kernel
theorem dX12_huntable_60 : decode cX12_huntable 60 = .ok (.invokevirtual 122, 3) := by decide +kernel
theorem dX12_huntable_63 : decode cX12_huntable 63 = .ok (.ifCond .eq 59, 3) := by decide +kernel
theorem dX12_huntable_66 : decode cX12_huntable 66 = .ok (.aload_n 0, 1) := by decide +kernel
theorem dX12_huntable_67 : decode cX12_huntable 67 = .ok (.getfield 28, 3) := by decide +kernel
theorem dX12_huntable_70 : decode cX12_huntable 70 = .ok (.bipush 97, 2) := by decide +kernel
theorem dX12_huntable_72 : decode cX12_huntable 72 = .ok (.iload_n 3, 1) := by decide +kernel
theorem dX12_huntable_73 : decode cX12_huntable 73 = .ok (.imul, 1) := by decide +kernel
theorem dX12_huntable_74 : decode cX12_huntable 74 = .ok (.iload 4, 2) := by decide +kernel
theorem dX12_huntable_76 : decode cX12_huntable 76 = .ok (.iadd, 1) := by decide +kernel
theorem dX12_huntable_77 : decode cX12_huntable 77 = .ok (.iaload, 1) := by decide +kernel
theorem dX12_huntable_78 : decode cX12_huntable 78 = .ok (.istore 5, 2) := by decide +kernel
theorem dX12_huntable_80 : decode cX12_huntable 80 = .ok (.aload_n 0, 1) := by decide +kernel
theorem dX12_huntable_81 : decode cX12_huntable 81 = .ok (.iload_n 3, 1) := by decide +kernel
theorem dX12_huntable_82 : decode cX12_huntable 82 = .ok (.iload 4, 2) := by decide +kernel
theorem dX12_huntable_84 : decode cX12_huntable 84 = .ok (.invokevirtual 295, 3) := by decide +kernel
theorem dX12_huntable_87 : decode cX12_huntable 87 = .ok (.iload_n 1, 1) := by decide +kernel
theorem dX12_huntable_88 : decode cX12_huntable 88 = .ok (.if_icmp .lt 28, 3) := by decide +kernel
theorem dX12_huntable_91 : decode cX12_huntable 91 = .ok (.aload_n 0, 1) := by decide +kernel
theorem dX12_huntable_92 : decode cX12_huntable 92 = .ok (.getfield 110, 3) := by decide +kernel
theorem dX12_huntable_95 : decode cX12_huntable 95 = .ok (.iload 5, 2) := by decide +kernel
theorem dX12_huntable_97 : decode cX12_huntable 97 = .ok (.baload, 1) := by decide +kernel
theorem dX12_huntable_98 : decode cX12_huntable 98 = .ok (.ifCond .eq 6, 3) := by decide +kernel
theorem dX12_huntable_101 : decode cX12_huntable 101 = .ok (.goto 15, 3) := by decide +kernel
theorem dX12_huntable_104 : decode cX12_huntable 104 = .ok (.aload_n 0, 1) := by decide +kernel
theorem dX12_huntable_105 : decode cX12_huntable 105 = .ok (.getfield 110, 3) := by decide +kernel
theorem dX12_huntable_108 : decode cX12_huntable 108 = .ok (.iload 5, 2) := by decide +kernel
theorem dX12_huntable_110 : decode cX12_huntable 110 = .ok (.iconst 1, 1) := by decide +kernel
theorem dX12_huntable_111 : decode cX12_huntable 111 = .ok (.bastore, 1) := by decide +kernel
theorem dX12_huntable_112 : decode cX12_huntable 112 = .ok (.iload_n 2, 1) := by decide +kernel
theorem dX12_huntable_113 : decode cX12_huntable 113 = .ok (.iconst 1, 1) := by decide +kernel
theorem dX12_huntable_114 : decode cX12_huntable 114 = .ok (.iadd, 1) := by decide +kernel
theorem dX12_huntable_115 : decode cX12_huntable 115 = .ok (.istore_n 2, 1) := by decide +kernel
theorem dX12_huntable_116 : decode cX12_huntable 116 = .ok (.iinc 4 1, 3) := by decide +kernel
theorem dX12_huntable_119 : decode cX12_huntable 119 = .ok (.goto (-72), 3) := by decide +kernel
theorem dX12_huntable_122 : decode cX12_huntable 122 = .ok (.iinc 3 1, 3) := by decide +kernel
theorem dX12_huntable_125 : decode cX12_huntable 125 = .ok (.goto (-87), 3) := by decide +kernel
theorem dX12_huntable_128 : decode cX12_huntable 128 = .ok (.iload_n 2, 1) := by decide +kernel
theorem dX12_huntable_129 : decode cX12_huntable 129 = .ok (.ireturn, 1) := by decide +kernel
theorem dX12_hasBeen_0 : decode cX12_hasBeen 0 = .ok (.iconst 0, 1) := by decide +kernel
theorem dX12_hasBeen_1 : decode cX12_hasBeen 1 = .ok (.istore 5, 2) := by decide +kernel
theorem dX12_hasBeen_3 : decode cX12_hasBeen 3 = .ok (.iload 5, 2) := by decide +kernel
theorem dX12_hasBeen_5 : decode cX12_hasBeen 5 = .ok (.aload_n 0, 1) := by decide +kernel
theorem dX12_hasBeen_6 : decode cX12_hasBeen 6 = .ok (.getfield 19, 3) := by decide +kernel
theorem dX12_hasBeen_9 : decode cX12_hasBeen 9 = .ok (.iload_n 1, 1) := by decide +kernel
theorem dX12_hasBeen_10 : decode cX12_hasBeen 10 = .ok (.iaload, 1) := by decide +kernel
theorem dX12_hasBeen_11 : decode cX12_hasBeen 11 = .ok (.if_icmp .gt 46, 3) := by decide +kernel
theorem dX12_hasBeen_14 : decode cX12_hasBeen 14 = .ok (.aload_n 0, 1) := by decide +kernel
theorem dX12_hasBeen_15 : decode cX12_hasBeen 15 = .ok (.getfield 28, 3) := by decide +kernel
theorem dX12_hasBeen_18 : decode cX12_hasBeen 18 = .ok (.bipush 97, 2) := by decide +kernel
theorem dX12_hasBeen_20 : decode cX12_hasBeen 20 = .ok (.iload_n 1, 1) := by decide +kernel
theorem dX12_hasBeen_21 : decode cX12_hasBeen 21 = .ok (.imul, 1) := by decide +kernel
theorem dX12_hasBeen_22 : decode cX12_hasBeen 22 = .ok (.iload 5, 2) := by decide +kernel
theorem dX12_hasBeen_24 : decode cX12_hasBeen 24 = .ok (.iadd, 1) := by decide +kernel
theorem dX12_hasBeen_25 : decode cX12_hasBeen 25 = .ok (.iaload, 1) := by decide +kernel
theorem dX12_hasBeen_26 : decode cX12_hasBeen 26 = .ok (.iload_n 2, 1) := by decide +kernel
theorem dX12_hasBeen_27 : decode cX12_hasBeen 27 = .ok (.if_icmp .ne 24, 3) := by decide +kernel
theorem dX12_hasBeen_30 : decode cX12_hasBeen 30 = .ok (.aload_n 0, 1) := by decide +kernel
theorem dX12_hasBeen_31 : decode cX12_hasBeen 31 = .ok (.getfield 22, 3) := by decide +kernel
theorem dX12_hasBeen_34 : decode cX12_hasBeen 34 = .ok (.iload_n 1, 1) := by decide +kernel
theorem dX12_hasBeen_35 : decode cX12_hasBeen 35 = .ok (.iaload, 1) := by decide +kernel
theorem dX12_hasBeen_36 : decode cX12_hasBeen 36 = .ok (.iload 5, 2) := by decide +kernel
theorem dX12_hasBeen_38 : decode cX12_hasBeen 38 = .ok (.iadd, 1) := by decide +kernel
theorem dX12_hasBeen_39 : decode cX12_hasBeen 39 = .ok (.iload_n 3, 1) := by decide +kernel
theorem dX12_hasBeen_40 : decode cX12_hasBeen 40 = .ok (.isub, 1) := by decide +kernel
theorem dX12_hasBeen_41 : decode cX12_hasBeen 41 = .ok (.invokestatic 359, 3) := by decide +kernel
theorem dX12_hasBeen_44 : decode cX12_hasBeen 44 = .ok (.iload 4, 2) := by decide +kernel
theorem dX12_hasBeen_46 : decode cX12_hasBeen 46 = .ok (.if_icmp .gt 5, 3) := by decide +kernel
theorem dX12_hasBeen_49 : decode cX12_hasBeen 49 = .ok (.iconst 1, 1) := by decide +kernel
theorem dX12_hasBeen_50 : decode cX12_hasBeen 50 = .ok (.ireturn, 1) := by decide +kernel
theorem dX12_hasBeen_51 : decode cX12_hasBeen 51 = .ok (.iinc 5 1, 3) := by decide +kernel
theorem dX12_hasBeen_54 : decode cX12_hasBeen 54 = .ok (.goto (-51), 3) := by decide +kernel
theorem dX12_hasBeen_57 : decode cX12_hasBeen 57 = .ok (.iconst 0, 1) := by decide +kernel
theorem dX12_hasBeen_58 : decode cX12_hasBeen 58 = .ok (.ireturn, 1) := by decide +kernel
theorem dX12_couldBe_0 : decode cX12_couldBe 0 = .ok (.iload_n 1, 1) := by decide +kernel
theorem dX12_couldBe_1 : decode cX12_couldBe 1 = .ok (.iconst 1, 1) := by decide +kernel
theorem dX12_couldBe_2 : decode cX12_couldBe 2 = .ok (.bipush 10, 2) := by decide +kernel
theorem dX12_couldBe_4 : decode cX12_couldBe 4 = .ok (.invokestatic 118, 3) := by decide +kernel
theorem dX12_couldBe_7 : decode cX12_couldBe 7 = .ok (.ifCond .eq 23, 3) := by decide +kernel
theorem dX12_couldBe_10 : decode cX12_couldBe 10 = .ok (.iload_n 2, 1) := by decide +kernel
theorem dX12_couldBe_11 : decode cX12_couldBe 11 = .ok (.iconst 0, 1) := by decide +kernel
theorem dX12_couldBe_12 : decode cX12_couldBe 12 = .ok (.bipush 99, 2) := by decide +kernel
theorem dX12_couldBe_14 : decode cX12_couldBe 14 = .ok (.invokestatic 118, 3) := by decide +kernel
theorem dX12_couldBe_17 : decode cX12_couldBe 17 = .ok (.ifCond .eq 13, 3) := by decide +kernel
theorem dX12_couldBe_20 : decode cX12_couldBe 20 = .ok (.iconst 3, 1) := by decide +kernel
theorem dX12_couldBe_21 : decode cX12_couldBe 21 = .ok (.iload_n 1, 1) := by decide +kernel
theorem dX12_couldBe_22 : decode cX12_couldBe 22 = .ok (.imul, 1) := by decide +kernel
theorem dX12_couldBe_23 : decode cX12_couldBe 23 = .ok (.aload_n 0, 1) := by decide +kernel
theorem dX12_couldBe_24 : decode cX12_couldBe 24 = .ok (.getfield 130, 3) := by decide +kernel
theorem dX12_couldBe_27 : decode cX12_couldBe 27 = .ok (.if_icmp .le 5, 3) := by decide +kernel
theorem dX12_couldBe_30 : decode cX12_couldBe 30 = .ok (.iconst (-1), 1) := by decide +kernel
theorem dX12_couldBe_31 : decode cX12_couldBe 31 = .ok (.ireturn, 1) := by decide +kernel
theorem dX12_couldBe_32 : decode cX12_couldBe 32 = .ok (.aload_n 0, 1) := by decide +kernel
theorem dX12_couldBe_33 : decode cX12_couldBe 33 = .ok (.iconst 0, 1) := by decide +kernel
theorem dX12_couldBe_34 : decode cX12_couldBe 34 = .ok (.putfield 130, 3) := by decide +kernel
theorem dX12_couldBe_37 : decode cX12_couldBe 37 = .ok (.iconst 0, 1) := by decide +kernel
theorem dX12_couldBe_38 : decode cX12_couldBe 38 = .ok (.istore_n 3, 1) := by decide +kernel
theorem dX12_couldBe_39 : decode cX12_couldBe 39 = .ok (.iload_n 3, 1) := by decide +kernel
theorem dX12_couldBe_40 : decode cX12_couldBe 40 = .ok (.iload_n 1, 1) := by decide +kernel
theorem dX12_couldBe_41 : decode cX12_couldBe 41 = .ok (.if_icmp .ge 25, 3) := by decide +kernel
theorem dX12_couldBe_44 : decode cX12_couldBe 44 = .ok (.aload_n 0, 1) := by decide +kernel
theorem dX12_couldBe_45 : decode cX12_couldBe 45 = .ok (.iconst 3, 1) := by decide +kernel
theorem dX12_couldBe_46 : decode cX12_couldBe 46 = .ok (.iload_n 3, 1) := by decide +kernel
theorem dX12_couldBe_47 : decode cX12_couldBe 47 = .ok (.imul, 1) := by decide +kernel
theorem dX12_couldBe_48 : decode cX12_couldBe 48 = .ok (.invokevirtual 383, 3) := by decide +kernel
theorem dX12_couldBe_51 : decode cX12_couldBe 51 = .ok (.sipush 192, 3) := by decide +kernel
theorem dX12_couldBe_54 : decode cX12_couldBe 54 = .ok (.if_icmp .lt 6, 3) := by decide +kernel
theorem dX12_couldBe_57 : decode cX12_couldBe 57 = .ok (.bipush (-2), 2) := by decide +kernel
theorem dX12_couldBe_59 : decode cX12_couldBe 59 = .ok (.ireturn, 1) := by decide +kernel
theorem dX12_couldBe_60 : decode cX12_couldBe 60 = .ok (.iinc 3 1, 3) := by decide +kernel
theorem dX12_couldBe_63 : decode cX12_couldBe 63 = .ok (.goto (-24), 3) := by decide +kernel
theorem dX12_couldBe_66 : decode cX12_couldBe 66 = .ok (.iconst 0, 1) := by decide +kernel
theorem dX12_couldBe_67 : decode cX12_couldBe 67 = .ok (.istore_n 3, 1) := by decide +kernel
theorem dX12_couldBe_68 : decode cX12_couldBe 68 = .ok (.iconst 0, 1) := by decide +kernel
theorem dX12_couldBe_69 : decode cX12_couldBe 69 = .ok (.istore 4, 2) := by decide +kernel
theorem dX12_couldBe_71 : decode cX12_couldBe 71 = .ok (.iload 4, 2) := by decide +kernel
theorem dX12_couldBe_73 : decode cX12_couldBe 73 = .ok (.bipush 8, 2) := by decide +kernel
theorem dX12_couldBe_75 : decode cX12_couldBe 75 = .ok (.if_icmp .ge 91, 3) := by decide +kernel
theorem dX12_couldBe_78 : decode cX12_couldBe 78 = .ok (.aload_n 0, 1) := by decide +kernel
theorem dX12_couldBe_79 : decode cX12_couldBe 79 = .ok (.iload 4, 2) := by decide +kernel
theorem dX12_couldBe_81 : decode cX12_couldBe 81 = .ok (.invokevirtual 122, 3) := by decide +kernel
theorem dX12_couldBe_84 : decode cX12_couldBe 84 = .ok (.istore 5, 2) := by decide +kernel
theorem dX12_couldBe_86 : decode cX12_couldBe 86 = .ok (.iconst 0, 1) := by decide +kernel
theorem dX12_couldBe_87 : decode cX12_couldBe 87 = .ok (.istore 6, 2) := by decide +kernel
theorem dX12_couldBe_89 : decode cX12_couldBe 89 = .ok (.iload 6, 2) := by decide +kernel
theorem dX12_couldBe_91 : decode cX12_couldBe 91 = .ok (.iload_n 1, 1) := by decide +kernel
theorem dX12_couldBe_92 : decode cX12_couldBe 92 = .ok (.if_icmp .ge 56, 3) := by decide +kernel
theorem dX12_couldBe_95 : decode cX12_couldBe 95 = .ok (.iload 5, 2) := by decide +kernel
theorem dX12_couldBe_97 : decode cX12_couldBe 97 = .ok (.ifCond .eq 51, 3) := by decide +kernel
theorem dX12_couldBe_100 : decode cX12_couldBe 100 = .ok (.aload_n 0, 1) := by decide +kernel
theorem dX12_couldBe_101 : decode cX12_couldBe 101 = .ok (.iload 4, 2) := by decide +kernel
theorem dX12_couldBe_103 : decode cX12_couldBe 103 = .ok (.aload_n 0, 1) := by decide +kernel
theorem dX12_couldBe_104 : decode cX12_couldBe 104 = .ok (.iconst 3, 1) := by decide +kernel
theorem dX12_couldBe_105 : decode cX12_couldBe 105 = .ok (.iload 6, 2) := by decide +kernel
theorem dX12_couldBe_107 : decode cX12_couldBe 107 = .ok (.imul, 1) := by decide +kernel
theorem dX12_couldBe_108 : decode cX12_couldBe 108 = .ok (.invokevirtual 383, 3) := by decide +kernel
theorem dX12_couldBe_111 : decode cX12_couldBe 111 = .ok (.aload_n 0, 1) := by decide +kernel
theorem dX12_couldBe_112 : decode cX12_couldBe 112 = .ok (.iconst 3, 1) := by decide +kernel
theorem dX12_couldBe_113 : decode cX12_couldBe 113 = .ok (.iload 6, 2) := by decide +kernel
theorem dX12_couldBe_115 : decode cX12_couldBe 115 = .ok (.imul, 1) := by decide +kernel
theorem dX12_couldBe_116 : decode cX12_couldBe 116 = .ok (.iconst 1, 1) := by decide +kernel
theorem dX12_couldBe_117 : decode cX12_couldBe 117 = .ok (.iadd, 1) := by decide +kernel
theorem dX12_couldBe_118 : decode cX12_couldBe 118 = .ok (.invokevirtual 383, 3) := by decide +kernel
theorem dX12_couldBe_121 : decode cX12_couldBe 121 = .ok (.sipush 256, 3) := by decide +kernel
theorem dX12_couldBe_124 : decode cX12_couldBe 124 = .ok (.aload_n 0, 1) := by decide +kernel
theorem dX12_couldBe_125 : decode cX12_couldBe 125 = .ok (.iconst 3, 1) := by decide +kernel
theorem dX12_couldBe_126 : decode cX12_couldBe 126 = .ok (.iload 6, 2) := by decide +kernel
theorem dX12_couldBe_128 : decode cX12_couldBe 128 = .ok (.imul, 1) := by decide +kernel
theorem dX12_couldBe_129 : decode cX12_couldBe 129 = .ok (.iconst 2, 1) := by decide +kernel
theorem dX12_couldBe_130 : decode cX12_couldBe 130 = .ok (.iadd, 1) := by decide +kernel
theorem dX12_couldBe_131 : decode cX12_couldBe 131 = .ok (.invokevirtual 383, 3) := by decide +kernel
theorem dX12_couldBe_134 : decode cX12_couldBe 134 = .ok (.imul, 1) := by decide +kernel
theorem dX12_couldBe_135 : decode cX12_couldBe 135 = .ok (.iadd, 1) := by decide +kernel
theorem dX12_couldBe_136 : decode cX12_couldBe 136 = .ok (.iload_n 2, 1) := by decide +kernel
theorem dX12_couldBe_137 : decode cX12_couldBe 137 = .ok (.invokevirtual 386, 3) := by decide +kernel
theorem dX12_couldBe_140 : decode cX12_couldBe 140 = .ok (.istore 5, 2) := by decide +kernel
theorem dX12_couldBe_142 : decode cX12_couldBe 142 = .ok (.iinc 6 1, 3) := by decide +kernel
theorem dX12_couldBe_145 : decode cX12_couldBe 145 = .ok (.goto (-56), 3) := by decide +kernel
theorem dX12_couldBe_148 : decode cX12_couldBe 148 = .ok (.iload 5, 2) := by decide +kernel
theorem dX12_couldBe_150 : decode cX12_couldBe 150 = .ok (.ifCond .eq 10, 3) := by decide +kernel
theorem dX12_couldBe_153 : decode cX12_couldBe 153 = .ok (.iload_n 3, 1) := by decide +kernel
theorem dX12_couldBe_154 : decode cX12_couldBe 154 = .ok (.iconst 1, 1) := by decide +kernel
theorem dX12_couldBe_155 : decode cX12_couldBe 155 = .ok (.iload 4, 2) := by decide +kernel
theorem dX12_couldBe_157 : decode cX12_couldBe 157 = .ok (.ishl, 1) := by decide +kernel
theorem dX12_couldBe_158 : decode cX12_couldBe 158 = .ok (.ior, 1) := by decide +kernel
theorem dX12_couldBe_159 : decode cX12_couldBe 159 = .ok (.istore_n 3, 1) := by decide +kernel
theorem dX12_couldBe_160 : decode cX12_couldBe 160 = .ok (.iinc 4 1, 3) := by decide +kernel
theorem dX12_couldBe_163 : decode cX12_couldBe 163 = .ok (.goto (-92), 3) := by decide +kernel
theorem dX12_couldBe_166 : decode cX12_couldBe 166 = .ok (.iload_n 3, 1) := by decide +kernel
theorem dX12_couldBe_167 : decode cX12_couldBe 167 = .ok (.ireturn, 1) := by decide +kernel
theorem dX12_isAtEdge_0 : decode cX12_isAtEdge 0 = .ok (.iload_n 0, 1) := by decide +kernel
theorem dX12_isAtEdge_1 : decode cX12_isAtEdge 1 = .ok (.bipush 16, 2) := by decide +kernel
theorem dX12_isAtEdge_3 : decode cX12_isAtEdge 3 = .ok (.irem, 1) := by decide +kernel
theorem dX12_isAtEdge_4 : decode cX12_isAtEdge 4 = .ok (.ifCond .eq 28, 3) := by decide +kernel
theorem dX12_isAtEdge_7 : decode cX12_isAtEdge 7 = .ok (.iload_n 0, 1) := by decide +kernel
theorem dX12_isAtEdge_8 : decode cX12_isAtEdge 8 = .ok (.bipush 16, 2) := by decide +kernel
theorem dX12_isAtEdge_10 : decode cX12_isAtEdge 10 = .ok (.irem, 1) := by decide +kernel
theorem dX12_isAtEdge_11 : decode cX12_isAtEdge 11 = .ok (.bipush 15, 2) := by decide +kernel
theorem dX12_isAtEdge_13 : decode cX12_isAtEdge 13 = .ok (.if_icmp .eq 19, 3) := by decide +kernel
theorem dX12_isAtEdge_16 : decode cX12_isAtEdge 16 = .ok (.iload_n 0, 1) := by decide +kernel
theorem dX12_isAtEdge_17 : decode cX12_isAtEdge 17 = .ok (.bipush 16, 2) := by decide +kernel
theorem dX12_isAtEdge_19 : decode cX12_isAtEdge 19 = .ok (.idiv, 1) := by decide +kernel
theorem dX12_isAtEdge_20 : decode cX12_isAtEdge 20 = .ok (.ifCond .eq 12, 3) := by decide +kernel
theorem dX12_isAtEdge_23 : decode cX12_isAtEdge 23 = .ok (.iload_n 0, 1) := by decide +kernel
theorem dX12_isAtEdge_24 : decode cX12_isAtEdge 24 = .ok (.bipush 16, 2) := by decide +kernel
theorem dX12_isAtEdge_26 : decode cX12_isAtEdge 26 = .ok (.idiv, 1) := by decide +kernel
theorem dX12_isAtEdge_27 : decode cX12_isAtEdge 27 = .ok (.bipush 11, 2) := by decide +kernel
theorem dX12_isAtEdge_29 : decode cX12_isAtEdge 29 = .ok (.if_icmp .ne 7, 3) := by decide +kernel
theorem dX12_isAtEdge_32 : decode cX12_isAtEdge 32 = .ok (.iconst 1, 1) := by decide +kernel
theorem dX12_isAtEdge_33 : decode cX12_isAtEdge 33 = .ok (.goto 4, 3) := by decide +kernel
theorem dX12_isAtEdge_36 : decode cX12_isAtEdge 36 = .ok (.iconst 0, 1) := by decide +kernel
theorem dX12_isAtEdge_37 : decode cX12_isAtEdge 37 = .ok (.ireturn, 1) := by decide +kernel
theorem dX12_heldIn_0 : decode cX12_heldIn 0 = .ok (.aload_n 0, 1) := by decide +kernel
theorem dX12_heldIn_1 : decode cX12_heldIn 1 = .ok (.iload_n 1, 1) := by decide +kernel
theorem dX12_heldIn_2 : decode cX12_heldIn 2 = .ok (.invokevirtual 122, 3) := by decide +kernel
theorem dX12_heldIn_5 : decode cX12_heldIn 5 = .ok (.ifCond .ne 5, 3) := by decide +kernel
theorem dX12_heldIn_8 : decode cX12_heldIn 8 = .ok (.iconst (-1), 1) := by decide +kernel
theorem dX12_heldIn_9 : decode cX12_heldIn 9 = .ok (.ireturn, 1) := by decide +kernel
theorem dX12_heldIn_10 : decode cX12_heldIn 10 = .ok (.iconst 0, 1) := by decide +kernel
theorem dX12_heldIn_11 : decode cX12_heldIn 11 = .ok (.istore_n 2, 1) := by decide +kernel
theorem dX12_heldIn_12 : decode cX12_heldIn 12 = .ok (.iconst 0, 1) := by decide +kernel
theorem dX12_heldIn_13 : decode cX12_heldIn 13 = .ok (.istore_n 3, 1) := by decide +kernel
theorem dX12_heldIn_14 : decode cX12_heldIn 14 = .ok (.iload_n 3, 1) := by decide +kernel
theorem dX12_heldIn_15 : decode cX12_heldIn 15 = .ok (.sipush 192, 3) := by decide +kernel
theorem dX12_heldIn_18 : decode cX12_heldIn 18 = .ok (.if_icmp .ge 34, 3) := by decide +kernel
theorem dX12_heldIn_21 : decode cX12_heldIn 21 = .ok (.aload_n 0, 1) := by decide +kernel
theorem dX12_heldIn_22 : decode cX12_heldIn 22 = .ok (.getfield 110, 3) := by decide +kernel
theorem dX12_heldIn_25 : decode cX12_heldIn 25 = .ok (.iload_n 3, 1) := by decide +kernel
theorem dX12_heldIn_26 : decode cX12_heldIn 26 = .ok (.aload_n 0, 1) := by decide +kernel
theorem dX12_heldIn_27 : decode cX12_heldIn 27 = .ok (.iload_n 1, 1) := by decide +kernel
theorem dX12_heldIn_28 : decode cX12_heldIn 28 = .ok (.iload_n 3, 1) := by decide +kernel
theorem dX12_heldIn_29 : decode cX12_heldIn 29 = .ok (.invokevirtual 362, 3) := by decide +kernel
theorem dX12_heldIn_32 : decode cX12_heldIn 32 = .ok (.bastore, 1) := by decide +kernel
theorem dX12_heldIn_33 : decode cX12_heldIn 33 = .ok (.aload_n 0, 1) := by decide +kernel
theorem dX12_heldIn_34 : decode cX12_heldIn 34 = .ok (.getfield 110, 3) := by decide +kernel
theorem dX12_heldIn_37 : decode cX12_heldIn 37 = .ok (.iload_n 3, 1) := by decide +kernel
theorem dX12_heldIn_38 : decode cX12_heldIn 38 = .ok (.baload, 1) := by decide +kernel
theorem dX12_heldIn_39 : decode cX12_heldIn 39 = .ok (.ifCond .ne 7, 3) := by decide +kernel
theorem dX12_heldIn_42 : decode cX12_heldIn 42 = .ok (.iload_n 2, 1) := by decide +kernel
theorem dX12_heldIn_43 : decode cX12_heldIn 43 = .ok (.iconst 1, 1) := by decide +kernel
theorem dX12_heldIn_44 : decode cX12_heldIn 44 = .ok (.iadd, 1) := by decide +kernel
theorem dX12_heldIn_45 : decode cX12_heldIn 45 = .ok (.istore_n 2, 1) := by decide +kernel
theorem dX12_heldIn_46 : decode cX12_heldIn 46 = .ok (.iinc 3 1, 3) := by decide +kernel
theorem dX12_heldIn_49 : decode cX12_heldIn 49 = .ok (.goto (-35), 3) := by decide +kernel
theorem dX12_heldIn_52 : decode cX12_heldIn 52 = .ok (.iconst 0, 1) := by decide +kernel
theorem dX12_heldIn_53 : decode cX12_heldIn 53 = .ok (.istore_n 3, 1) := by decide +kernel
theorem dX12_heldIn_54 : decode cX12_heldIn 54 = .ok (.iload_n 3, 1) := by decide +kernel
theorem dX12_heldIn_55 : decode cX12_heldIn 55 = .ok (.sipush 192, 3) := by decide +kernel
theorem dX12_heldIn_58 : decode cX12_heldIn 58 = .ok (.if_icmp .ge 76, 3) := by decide +kernel
theorem dX12_heldIn_61 : decode cX12_heldIn 61 = .ok (.iload_n 3, 1) := by decide +kernel
theorem dX12_heldIn_62 : decode cX12_heldIn 62 = .ok (.invokestatic 390, 3) := by decide +kernel
theorem dX12_heldIn_65 : decode cX12_heldIn 65 = .ok (.ifCond .eq 63, 3) := by decide +kernel
theorem dX12_heldIn_68 : decode cX12_heldIn 68 = .ok (.aload_n 0, 1) := by decide +kernel
theorem dX12_heldIn_69 : decode cX12_heldIn 69 = .ok (.getfield 110, 3) := by decide +kernel
theorem dX12_heldIn_72 : decode cX12_heldIn 72 = .ok (.iload_n 3, 1) := by decide +kernel
theorem dX12_heldIn_73 : decode cX12_heldIn 73 = .ok (.baload, 1) := by decide +kernel
theorem dX12_heldIn_74 : decode cX12_heldIn 74 = .ok (.ifCond .eq 6, 3) := by decide +kernel
theorem dX12_heldIn_77 : decode cX12_heldIn 77 = .ok (.goto 51, 3) := by decide +kernel
theorem dX12_heldIn_80 : decode cX12_heldIn 80 = .ok (.aload_n 0, 1) := by decide +kernel
theorem dX12_heldIn_81 : decode cX12_heldIn 81 = .ok (.iload_n 3, 1) := by decide +kernel
theorem dX12_heldIn_82 : decode cX12_heldIn 82 = .ok (.invokevirtual 380, 3) := by decide +kernel
theorem dX12_heldIn_85 : decode cX12_heldIn 85 = .ok (.iconst 0, 1) := by decide +kernel
theorem dX12_heldIn_86 : decode cX12_heldIn 86 = .ok (.istore 4, 2) := by decide +kernel
theorem dX12_heldIn_88 : decode cX12_heldIn 88 = .ok (.iload 4, 2) := by decide +kernel
theorem dX12_heldIn_90 : decode cX12_heldIn 90 = .ok (.sipush 192, 3) := by decide +kernel
theorem dX12_heldIn_93 : decode cX12_heldIn 93 = .ok (.if_icmp .ge 35, 3) := by decide +kernel
theorem dX12_heldIn_96 : decode cX12_heldIn 96 = .ok (.aload_n 0, 1) := by decide +kernel
theorem dX12_heldIn_97 : decode cX12_heldIn 97 = .ok (.getfield 104, 3) := by decide +kernel
theorem dX12_heldIn_100 : decode cX12_heldIn 100 = .ok (.iload 4, 2) := by decide +kernel
theorem dX12_heldIn_102 : decode cX12_heldIn 102 = .ok (.iaload, 1) := by decide +kernel
theorem dX12_heldIn_103 : decode cX12_heldIn 103 = .ok (.iconst (-1), 1) := by decide +kernel
theorem dX12_heldIn_104 : decode cX12_heldIn 104 = .ok (.if_icmp .ne 6, 3) := by decide +kernel
theorem dX12_heldIn_107 : decode cX12_heldIn 107 = .ok (.goto 15, 3) := by decide +kernel
theorem dX12_heldIn_110 : decode cX12_heldIn 110 = .ok (.aload_n 0, 1) := by decide +kernel
theorem dX12_heldIn_111 : decode cX12_heldIn 111 = .ok (.getfield 110, 3) := by decide +kernel
theorem dX12_heldIn_114 : decode cX12_heldIn 114 = .ok (.iload 4, 2) := by decide +kernel
theorem dX12_heldIn_116 : decode cX12_heldIn 116 = .ok (.iconst 1, 1) := by decide +kernel
theorem dX12_heldIn_117 : decode cX12_heldIn 117 = .ok (.bastore, 1) := by decide +kernel
theorem dX12_heldIn_118 : decode cX12_heldIn 118 = .ok (.iload_n 2, 1) := by decide +kernel
theorem dX12_heldIn_119 : decode cX12_heldIn 119 = .ok (.iconst 1, 1) := by decide +kernel
theorem dX12_heldIn_120 : decode cX12_heldIn 120 = .ok (.isub, 1) := by decide +kernel
theorem dX12_heldIn_121 : decode cX12_heldIn 121 = .ok (.istore_n 2, 1) := by decide +kernel
theorem dX12_heldIn_122 : decode cX12_heldIn 122 = .ok (.iinc 4 1, 3) := by decide +kernel
theorem dX12_heldIn_125 : decode cX12_heldIn 125 = .ok (.goto (-37), 3) := by decide +kernel
theorem dX12_heldIn_128 : decode cX12_heldIn 128 = .ok (.iinc 3 1, 3) := by decide +kernel
theorem dX12_heldIn_131 : decode cX12_heldIn 131 = .ok (.goto (-77), 3) := by decide +kernel
theorem dX12_heldIn_134 : decode cX12_heldIn 134 = .ok (.iload_n 2, 1) := by decide +kernel
theorem dX12_heldIn_135 : decode cX12_heldIn 135 = .ok (.ireturn, 1) := by decide +kernel
theorem dX12_turnsOf_0 : decode cX12_turnsOf 0 = .ok (.iconst 0, 1) := by decide +kernel
theorem dX12_turnsOf_1 : decode cX12_turnsOf 1 = .ok (.istore_n 2, 1) := by decide +kernel
theorem dX12_turnsOf_2 : decode cX12_turnsOf 2 = .ok (.iconst (-1), 1) := by decide +kernel
theorem dX12_turnsOf_3 : decode cX12_turnsOf 3 = .ok (.istore_n 3, 1) := by decide +kernel
theorem dX12_turnsOf_4 : decode cX12_turnsOf 4 = .ok (.iconst 0, 1) := by decide +kernel
theorem dX12_turnsOf_5 : decode cX12_turnsOf 5 = .ok (.istore 4, 2) := by decide +kernel
theorem dX12_turnsOf_7 : decode cX12_turnsOf 7 = .ok (.iload 4, 2) := by decide +kernel
theorem dX12_turnsOf_9 : decode cX12_turnsOf 9 = .ok (.aload_n 0, 1) := by decide +kernel
theorem dX12_turnsOf_10 : decode cX12_turnsOf 10 = .ok (.getfield 19, 3) := by decide +kernel
theorem dX12_turnsOf_13 : decode cX12_turnsOf 13 = .ok (.iload_n 1, 1) := by decide +kernel
theorem dX12_turnsOf_14 : decode cX12_turnsOf 14 = .ok (.iaload, 1) := by decide +kernel
theorem dX12_turnsOf_15 : decode cX12_turnsOf 15 = .ok (.if_icmp .ge 50, 3) := by decide +kernel
theorem dX12_turnsOf_18 : decode cX12_turnsOf 18 = .ok (.aload_n 0, 1) := by decide +kernel
theorem dX12_turnsOf_19 : decode cX12_turnsOf 19 = .ok (.getfield 25, 3) := by decide +kernel
theorem dX12_turnsOf_22 : decode cX12_turnsOf 22 = .ok (.bipush 96, 2) := by decide +kernel
theorem dX12_turnsOf_24 : decode cX12_turnsOf 24 = .ok (.iload_n 1, 1) := by decide +kernel
theorem dX12_turnsOf_25 : decode cX12_turnsOf 25 = .ok (.imul, 1) := by decide +kernel
theorem dX12_turnsOf_26 : decode cX12_turnsOf 26 = .ok (.iload 4, 2) := by decide +kernel
theorem dX12_turnsOf_28 : decode cX12_turnsOf 28 = .ok (.iadd, 1) := by decide +kernel
theorem dX12_turnsOf_29 : decode cX12_turnsOf 29 = .ok (.iaload, 1) := by decide +kernel
theorem dX12_turnsOf_30 : decode cX12_turnsOf 30 = .ok (.istore 5, 2) := by decide +kernel
theorem dX12_turnsOf_32 : decode cX12_turnsOf 32 = .ok (.iload 5, 2) := by decide +kernel
theorem dX12_turnsOf_34 : decode cX12_turnsOf 34 = .ok (.iconst 4, 1) := by decide +kernel
theorem dX12_turnsOf_35 : decode cX12_turnsOf 35 = .ok (.if_icmp .ne 6, 3) := by decide +kernel
theorem dX12_turnsOf_38 : decode cX12_turnsOf 38 = .ok (.goto 21, 3) := by decide +kernel
theorem dX12_turnsOf_41 : decode cX12_turnsOf 41 = .ok (.iload_n 3, 1) := by decide +kernel
theorem dX12_turnsOf_42 : decode cX12_turnsOf 42 = .ok (.iconst (-1), 1) := by decide +kernel
theorem dX12_turnsOf_43 : decode cX12_turnsOf 43 = .ok (.if_icmp .eq 13, 3) := by decide +kernel
theorem dX12_turnsOf_46 : decode cX12_turnsOf 46 = .ok (.iload 5, 2) := by decide +kernel
theorem dX12_turnsOf_48 : decode cX12_turnsOf 48 = .ok (.iload_n 3, 1) := by decide +kernel
theorem dX12_turnsOf_49 : decode cX12_turnsOf 49 = .ok (.if_icmp .eq 7, 3) := by decide +kernel
theorem dX12_turnsOf_52 : decode cX12_turnsOf 52 = .ok (.iload_n 2, 1) := by decide +kernel
theorem dX12_turnsOf_53 : decode cX12_turnsOf 53 = .ok (.iconst 1, 1) := by decide +kernel
theorem dX12_turnsOf_54 : decode cX12_turnsOf 54 = .ok (.iadd, 1) := by decide +kernel
theorem dX12_turnsOf_55 : decode cX12_turnsOf 55 = .ok (.istore_n 2, 1) := by decide +kernel
theorem dX12_turnsOf_56 : decode cX12_turnsOf 56 = .ok (.iload 5, 2) := by decide +kernel
theorem dX12_turnsOf_58 : decode cX12_turnsOf 58 = .ok (.istore_n 3, 1) := by decide +kernel
theorem dX12_turnsOf_59 : decode cX12_turnsOf 59 = .ok (.iinc 4 1, 3) := by decide +kernel
theorem dX12_turnsOf_62 : decode cX12_turnsOf 62 = .ok (.goto (-55), 3) := by decide +kernel
theorem dX12_turnsOf_65 : decode cX12_turnsOf 65 = .ok (.iload_n 2, 1) := by decide +kernel
theorem dX12_turnsOf_66 : decode cX12_turnsOf 66 = .ok (.ireturn, 1) := by decide +kernel
theorem dX12_straightOf_0 : decode cX12_straightOf 0 = .ok (.iconst 0, 1) := by decide +kernel
theorem dX12_straightOf_1 : decode cX12_straightOf 1 = .ok (.istore_n 2, 1) := by decide +kernel
theorem dX12_straightOf_2 : decode cX12_straightOf 2 = .ok (.iconst 0, 1) := by decide +kernel
theorem dX12_straightOf_3 : decode cX12_straightOf 3 = .ok (.istore_n 3, 1) := by decide +kernel
theorem dX12_straightOf_4 : decode cX12_straightOf 4 = .ok (.iconst (-1), 1) := by decide +kernel
theorem dX12_straightOf_5 : decode cX12_straightOf 5 = .ok (.istore 4, 2) := by decide +kernel
theorem dX12_straightOf_7 : decode cX12_straightOf 7 = .ok (.iconst 0, 1) := by decide +kernel
theorem dX12_straightOf_8 : decode cX12_straightOf 8 = .ok (.istore 5, 2) := by decide +kernel
theorem dX12_straightOf_10 : decode cX12_straightOf 10 = .ok (.iload 5, 2) := by decide +kernel
theorem dX12_straightOf_12 : decode cX12_straightOf 12 = .ok (.aload_n 0, 1) := by decide +kernel
theorem dX12_straightOf_13 : decode cX12_straightOf 13 = .ok (.getfield 19, 3) := by decide +kernel
theorem dX12_straightOf_16 : decode cX12_straightOf 16 = .ok (.iload_n 1, 1) := by decide +kernel
theorem dX12_straightOf_17 : decode cX12_straightOf 17 = .ok (.iaload, 1) := by decide +kernel
theorem dX12_straightOf_18 : decode cX12_straightOf 18 = .ok (.if_icmp .ge 57, 3) := by decide +kernel
theorem dX12_straightOf_21 : decode cX12_straightOf 21 = .ok (.aload_n 0, 1) := by decide +kernel
theorem dX12_straightOf_22 : decode cX12_straightOf 22 = .ok (.getfield 25, 3) := by decide +kernel
theorem dX12_straightOf_25 : decode cX12_straightOf 25 = .ok (.bipush 96, 2) := by decide +kernel
theorem dX12_straightOf_27 : decode cX12_straightOf 27 = .ok (.iload_n 1, 1) := by decide +kernel
theorem dX12_straightOf_28 : decode cX12_straightOf 28 = .ok (.imul, 1) := by decide +kernel
theorem dX12_straightOf_29 : decode cX12_straightOf 29 = .ok (.iload 5, 2) := by decide +kernel
theorem dX12_straightOf_31 : decode cX12_straightOf 31 = .ok (.iadd, 1) := by decide +kernel
theorem dX12_straightOf_32 : decode cX12_straightOf 32 = .ok (.iaload, 1) := by decide +kernel
theorem dX12_straightOf_33 : decode cX12_straightOf 33 = .ok (.istore 6, 2) := by decide +kernel
theorem dX12_straightOf_35 : decode cX12_straightOf 35 = .ok (.iload 6, 2) := by decide +kernel
theorem dX12_straightOf_37 : decode cX12_straightOf 37 = .ok (.iconst 4, 1) := by decide +kernel
theorem dX12_straightOf_38 : decode cX12_straightOf 38 = .ok (.if_icmp .ne 6, 3) := by decide +kernel
theorem dX12_straightOf_41 : decode cX12_straightOf 41 = .ok (.goto 28, 3) := by decide +kernel
theorem dX12_straightOf_44 : decode cX12_straightOf 44 = .ok (.iload 6, 2) := by decide +kernel
theorem dX12_straightOf_46 : decode cX12_straightOf 46 = .ok (.iload 4, 2) := by decide +kernel
theorem dX12_straightOf_48 : decode cX12_straightOf 48 = .ok (.if_icmp .ne 9, 3) := by decide +kernel
theorem dX12_straightOf_51 : decode cX12_straightOf 51 = .ok (.iload_n 3, 1) := by decide +kernel
theorem dX12_straightOf_52 : decode cX12_straightOf 52 = .ok (.iconst 1, 1) := by decide +kernel
theorem dX12_straightOf_53 : decode cX12_straightOf 53 = .ok (.iadd, 1) := by decide +kernel
theorem dX12_straightOf_54 : decode cX12_straightOf 54 = .ok (.goto 4, 3) := by decide +kernel
theorem dX12_straightOf_57 : decode cX12_straightOf 57 = .ok (.iconst 1, 1) := by decide +kernel
theorem dX12_straightOf_58 : decode cX12_straightOf 58 = .ok (.istore_n 3, 1) := by decide +kernel
theorem dX12_straightOf_59 : decode cX12_straightOf 59 = .ok (.iload 6, 2) := by decide +kernel
theorem dX12_straightOf_61 : decode cX12_straightOf 61 = .ok (.istore 4, 2) := by decide +kernel
theorem dX12_straightOf_63 : decode cX12_straightOf 63 = .ok (.iload_n 2, 1) := by decide +kernel
theorem dX12_straightOf_64 : decode cX12_straightOf 64 = .ok (.iload_n 3, 1) := by decide +kernel
theorem dX12_straightOf_65 : decode cX12_straightOf 65 = .ok (.invokestatic 283, 3) := by decide +kernel
theorem dX12_straightOf_68 : decode cX12_straightOf 68 = .ok (.istore_n 2, 1) := by decide +kernel
theorem dX12_straightOf_69 : decode cX12_straightOf 69 = .ok (.iinc 5 1, 3) := by decide +kernel
theorem dX12_straightOf_72 : decode cX12_straightOf 72 = .ok (.goto (-62), 3) := by decide +kernel
theorem dX12_straightOf_75 : decode cX12_straightOf 75 = .ok (.iload_n 2, 1) := by decide +kernel
theorem dX12_straightOf_76 : decode cX12_straightOf 76 = .ok (.ireturn, 1) := by decide +kernel
theorem dX12_repeatsBy_0 : decode cX12_repeatsBy 0 = .ok (.iconst 1, 1) := by decide +kernel
theorem dX12_repeatsBy_1 : decode cX12_repeatsBy 1 = .ok (.istore_n 2, 1) := by decide +kernel
theorem dX12_repeatsBy_2 : decode cX12_repeatsBy 2 = .ok (.iload_n 2, 1) := by decide +kernel
theorem dX12_repeatsBy_3 : decode cX12_repeatsBy 3 = .ok (.aload_n 0, 1) := by decide +kernel
theorem dX12_repeatsBy_4 : decode cX12_repeatsBy 4 = .ok (.getfield 19, 3) := by decide +kernel
theorem dX12_repeatsBy_7 : decode cX12_repeatsBy 7 = .ok (.iload_n 1, 1) := by decide +kernel
theorem dX12_repeatsBy_8 : decode cX12_repeatsBy 8 = .ok (.iaload, 1) := by decide +kernel
theorem dX12_repeatsBy_9 : decode cX12_repeatsBy 9 = .ok (.if_icmp .ge 68, 3) := by decide +kernel
theorem dX12_repeatsBy_12 : decode cX12_repeatsBy 12 = .ok (.iconst 1, 1) := by decide +kernel
theorem dX12_repeatsBy_13 : decode cX12_repeatsBy 13 = .ok (.istore_n 3, 1) := by decide +kernel
theorem dX12_repeatsBy_14 : decode cX12_repeatsBy 14 = .ok (.iload_n 2, 1) := by decide +kernel
theorem dX12_repeatsBy_15 : decode cX12_repeatsBy 15 = .ok (.istore 4, 2) := by decide +kernel
theorem dX12_repeatsBy_17 : decode cX12_repeatsBy 17 = .ok (.iload 4, 2) := by decide +kernel
theorem dX12_repeatsBy_19 : decode cX12_repeatsBy 19 = .ok (.aload_n 0, 1) := by decide +kernel
theorem dX12_repeatsBy_20 : decode cX12_repeatsBy 20 = .ok (.getfield 19, 3) := by decide +kernel
theorem dX12_repeatsBy_23 : decode cX12_repeatsBy 23 = .ok (.iload_n 1, 1) := by decide +kernel
theorem dX12_repeatsBy_24 : decode cX12_repeatsBy 24 = .ok (.iaload, 1) := by decide +kernel
theorem dX12_repeatsBy_25 : decode cX12_repeatsBy 25 = .ok (.if_icmp .ge 40, 3) := by decide +kernel
theorem dX12_repeatsBy_28 : decode cX12_repeatsBy 28 = .ok (.aload_n 0, 1) := by decide +kernel
theorem dX12_repeatsBy_29 : decode cX12_repeatsBy 29 = .ok (.getfield 25, 3) := by decide +kernel
theorem dX12_repeatsBy_32 : decode cX12_repeatsBy 32 = .ok (.bipush 96, 2) := by decide +kernel
theorem dX12_repeatsBy_34 : decode cX12_repeatsBy 34 = .ok (.iload_n 1, 1) := by decide +kernel
theorem dX12_repeatsBy_35 : decode cX12_repeatsBy 35 = .ok (.imul, 1) := by decide +kernel
theorem dX12_repeatsBy_36 : decode cX12_repeatsBy 36 = .ok (.iload 4, 2) := by decide +kernel
theorem dX12_repeatsBy_38 : decode cX12_repeatsBy 38 = .ok (.iadd, 1) := by decide +kernel
theorem dX12_repeatsBy_39 : decode cX12_repeatsBy 39 = .ok (.iaload, 1) := by decide +kernel
theorem dX12_repeatsBy_40 : decode cX12_repeatsBy 40 = .ok (.aload_n 0, 1) := by decide +kernel
theorem dX12_repeatsBy_41 : decode cX12_repeatsBy 41 = .ok (.getfield 25, 3) := by decide +kernel
theorem dX12_repeatsBy_44 : decode cX12_repeatsBy 44 = .ok (.bipush 96, 2) := by decide +kernel
theorem dX12_repeatsBy_46 : decode cX12_repeatsBy 46 = .ok (.iload_n 1, 1) := by decide +kernel
theorem dX12_repeatsBy_47 : decode cX12_repeatsBy 47 = .ok (.imul, 1) := by decide +kernel
theorem dX12_repeatsBy_48 : decode cX12_repeatsBy 48 = .ok (.iload 4, 2) := by decide +kernel
theorem dX12_repeatsBy_50 : decode cX12_repeatsBy 50 = .ok (.iadd, 1) := by decide +kernel
theorem dX12_repeatsBy_51 : decode cX12_repeatsBy 51 = .ok (.iload_n 2, 1) := by decide +kernel
theorem dX12_repeatsBy_52 : decode cX12_repeatsBy 52 = .ok (.isub, 1) := by decide +kernel
theorem dX12_repeatsBy_53 : decode cX12_repeatsBy 53 = .ok (.iaload, 1) := by decide +kernel
theorem dX12_repeatsBy_54 : decode cX12_repeatsBy 54 = .ok (.if_icmp .eq 5, 3) := by decide +kernel
theorem dX12_repeatsBy_57 : decode cX12_repeatsBy 57 = .ok (.iconst 0, 1) := by decide +kernel
theorem dX12_repeatsBy_58 : decode cX12_repeatsBy 58 = .ok (.istore_n 3, 1) := by decide +kernel
theorem dX12_repeatsBy_59 : decode cX12_repeatsBy 59 = .ok (.iinc 4 1, 3) := by decide +kernel
theorem dX12_repeatsBy_62 : decode cX12_repeatsBy 62 = .ok (.goto (-45), 3) := by decide +kernel
theorem dX12_repeatsBy_65 : decode cX12_repeatsBy 65 = .ok (.iload_n 3, 1) := by decide +kernel
theorem dX12_repeatsBy_66 : decode cX12_repeatsBy 66 = .ok (.ifCond .eq 5, 3) := by decide +kernel
theorem dX12_repeatsBy_69 : decode cX12_repeatsBy 69 = .ok (.iload_n 2, 1) := by decide +kernel
theorem dX12_repeatsBy_70 : decode cX12_repeatsBy 70 = .ok (.ireturn, 1) := by decide +kernel
theorem dX12_repeatsBy_71 : decode cX12_repeatsBy 71 = .ok (.iinc 2 1, 3) := by decide +kernel
theorem dX12_repeatsBy_74 : decode cX12_repeatsBy 74 = .ok (.goto (-72), 3) := by decide +kernel
theorem dX12_repeatsBy_77 : decode cX12_repeatsBy 77 = .ok (.aload_n 0, 1) := by decide +kernel
theorem dX12_repeatsBy_78 : decode cX12_repeatsBy 78 = .ok (.getfield 19, 3) := by decide +kernel
theorem dX12_repeatsBy_81 : decode cX12_repeatsBy 81 = .ok (.iload_n 1, 1) := by decide +kernel
theorem dX12_repeatsBy_82 : decode cX12_repeatsBy 82 = .ok (.iaload, 1) := by decide +kernel
theorem dX12_repeatsBy_83 : decode cX12_repeatsBy 83 = .ok (.ireturn, 1) := by decide +kernel
theorem dX12_placesOf_0 : decode cX12_placesOf 0 = .ok (.iconst 0, 1) := by decide +kernel
theorem dX12_placesOf_1 : decode cX12_placesOf 1 = .ok (.istore_n 2, 1) := by decide +kernel
theorem dX12_placesOf_2 : decode cX12_placesOf 2 = .ok (.iconst 0, 1) := by decide +kernel
theorem dX12_placesOf_3 : decode cX12_placesOf 3 = .ok (.istore_n 3, 1) := by decide +kernel
theorem dX12_placesOf_4 : decode cX12_placesOf 4 = .ok (.iload_n 3, 1) := by decide +kernel
theorem dX12_placesOf_5 : decode cX12_placesOf 5 = .ok (.sipush 192, 3) := by decide +kernel
theorem dX12_placesOf_8 : decode cX12_placesOf 8 = .ok (.if_icmp .ge 22, 3) := by decide +kernel
theorem dX12_placesOf_11 : decode cX12_placesOf 11 = .ok (.aload_n 0, 1) := by decide +kernel
theorem dX12_placesOf_12 : decode cX12_placesOf 12 = .ok (.iload_n 1, 1) := by decide +kernel
theorem dX12_placesOf_13 : decode cX12_placesOf 13 = .ok (.iload_n 3, 1) := by decide +kernel
theorem dX12_placesOf_14 : decode cX12_placesOf 14 = .ok (.invokevirtual 362, 3) := by decide +kernel
theorem dX12_placesOf_17 : decode cX12_placesOf 17 = .ok (.ifCond .eq 7, 3) := by decide +kernel
theorem dX12_placesOf_20 : decode cX12_placesOf 20 = .ok (.iload_n 2, 1) := by decide +kernel
theorem dX12_placesOf_21 : decode cX12_placesOf 21 = .ok (.iconst 1, 1) := by decide +kernel
theorem dX12_placesOf_22 : decode cX12_placesOf 22 = .ok (.iadd, 1) := by decide +kernel
theorem dX12_placesOf_23 : decode cX12_placesOf 23 = .ok (.istore_n 2, 1) := by decide +kernel
theorem dX12_placesOf_24 : decode cX12_placesOf 24 = .ok (.iinc 3 1, 3) := by decide +kernel
theorem dX12_placesOf_27 : decode cX12_placesOf 27 = .ok (.goto (-23), 3) := by decide +kernel
theorem dX12_placesOf_30 : decode cX12_placesOf 30 = .ok (.iload_n 2, 1) := by decide +kernel
theorem dX12_placesOf_31 : decode cX12_placesOf 31 = .ok (.ireturn, 1) := by decide +kernel
theorem dX12_lineIs_0 : decode cX12_lineIs 0 = .ok (.aload_n 0, 1) := by decide +kernel
theorem dX12_lineIs_1 : decode cX12_lineIs 1 = .ok (.iload_n 1, 1) := by decide +kernel
theorem dX12_lineIs_2 : decode cX12_lineIs 2 = .ok (.invokevirtual 122, 3) := by decide +kernel
theorem dX12_lineIs_5 : decode cX12_lineIs 5 = .ok (.ifCond .ne 5, 3) := by decide +kernel
theorem dX12_lineIs_8 : decode cX12_lineIs 8 = .ok (.iconst (-1), 1) := by decide +kernel
theorem dX12_lineIs_9 : decode cX12_lineIs 9 = .ok (.ireturn, 1) := by decide +kernel
theorem dX12_lineIs_10 : decode cX12_lineIs 10 = .ok (.iload_n 2, 1) := by decide +kernel
theorem dX12_lineIs_11 : decode cX12_lineIs 11 = .ok (.tableswitch 114 0 7 #[45, 52, 58, 64, 70, 77, 83, 97], 45) := by decide +kernel
theorem dX12_lineIs_56 : decode cX12_lineIs 56 = .ok (.aload_n 0, 1) := by decide +kernel
theorem dX12_lineIs_57 : decode cX12_lineIs 57 = .ok (.getfield 19, 3) := by decide +kernel
theorem dX12_lineIs_60 : decode cX12_lineIs 60 = .ok (.iload_n 1, 1) := by decide +kernel
theorem dX12_lineIs_61 : decode cX12_lineIs 61 = .ok (.iaload, 1) := by decide +kernel
theorem dX12_lineIs_62 : decode cX12_lineIs 62 = .ok (.ireturn, 1) := by decide +kernel
theorem dX12_lineIs_63 : decode cX12_lineIs 63 = .ok (.aload_n 0, 1) := by decide +kernel
theorem dX12_lineIs_64 : decode cX12_lineIs 64 = .ok (.iload_n 1, 1) := by decide +kernel
theorem dX12_lineIs_65 : decode cX12_lineIs 65 = .ok (.invokevirtual 393, 3) := by decide +kernel
theorem dX12_lineIs_68 : decode cX12_lineIs 68 = .ok (.ireturn, 1) := by decide +kernel
theorem dX12_lineIs_69 : decode cX12_lineIs 69 = .ok (.aload_n 0, 1) := by decide +kernel
theorem dX12_lineIs_70 : decode cX12_lineIs 70 = .ok (.iload_n 1, 1) := by decide +kernel
theorem dX12_lineIs_71 : decode cX12_lineIs 71 = .ok (.invokevirtual 396, 3) := by decide +kernel
theorem dX12_lineIs_74 : decode cX12_lineIs 74 = .ok (.ireturn, 1) := by decide +kernel
theorem dX12_lineIs_75 : decode cX12_lineIs 75 = .ok (.aload_n 0, 1) := by decide +kernel
theorem dX12_lineIs_76 : decode cX12_lineIs 76 = .ok (.iload_n 1, 1) := by decide +kernel
theorem dX12_lineIs_77 : decode cX12_lineIs 77 = .ok (.invokevirtual 399, 3) := by decide +kernel
theorem dX12_lineIs_80 : decode cX12_lineIs 80 = .ok (.ireturn, 1) := by decide +kernel
theorem dX12_lineIs_81 : decode cX12_lineIs 81 = .ok (.aload_n 0, 1) := by decide +kernel
theorem dX12_lineIs_82 : decode cX12_lineIs 82 = .ok (.getfield 22, 3) := by decide +kernel
theorem dX12_lineIs_85 : decode cX12_lineIs 85 = .ok (.iload_n 1, 1) := by decide +kernel
theorem dX12_lineIs_86 : decode cX12_lineIs 86 = .ok (.iaload, 1) := by decide +kernel
theorem dX12_lineIs_87 : decode cX12_lineIs 87 = .ok (.ireturn, 1) := by decide +kernel
theorem dX12_lineIs_88 : decode cX12_lineIs 88 = .ok (.aload_n 0, 1) := by decide +kernel
theorem dX12_lineIs_89 : decode cX12_lineIs 89 = .ok (.iload_n 1, 1) := by decide +kernel
theorem dX12_lineIs_90 : decode cX12_lineIs 90 = .ok (.invokevirtual 402, 3) := by decide +kernel
theorem dX12_lineIs_93 : decode cX12_lineIs 93 = .ok (.ireturn, 1) := by decide +kernel
theorem dX12_lineIs_94 : decode cX12_lineIs 94 = .ok (.aload_n 0, 1) := by decide +kernel
