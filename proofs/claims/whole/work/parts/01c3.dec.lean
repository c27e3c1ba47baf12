theorem dX12_holdsAny_25 : decode cX12_holdsAny 25 = .ok (.iload_n 2, 1) := by decide +kernel
theorem dX12_holdsAny_26 : decode cX12_holdsAny 26 = .ok (.iaload, 1) := by decide +kernel
theorem dX12_holdsAny_27 : decode cX12_holdsAny 27 = .ok (.aload_n 0, 1) := by decide +kernel
theorem dX12_holdsAny_28 : decode cX12_holdsAny 28 = .ok (.getfield 71, 3) := by decide +kernel
theorem dX12_holdsAny_31 : decode cX12_holdsAny 31 = .ok (.iload_n 2, 1) := by decide +kernel
theorem dX12_holdsAny_32 : decode cX12_holdsAny 32 = .ok (.iaload, 1) := by decide +kernel
theorem dX12_holdsAny_33 : decode cX12_holdsAny 33 = .ok (.invokevirtual 237, 3) := by decide +kernel
theorem dX12_holdsAny_36 : decode cX12_holdsAny 36 = .ok (.iconst 1, 1) := by decide +kernel
theorem dX12_holdsAny_37 : decode cX12_holdsAny 37 = .ok (.if_icmp .ne 5, 3) := by decide +kernel
theorem dX12_holdsAny_40 : decode cX12_holdsAny 40 = .ok (.iconst 1, 1) := by decide +kernel
theorem dX12_holdsAny_41 : decode cX12_holdsAny 41 = .ok (.ireturn, 1) := by decide +kernel
theorem dX12_holdsAny_42 : decode cX12_holdsAny 42 = .ok (.iinc 2 1, 3) := by decide +kernel
theorem dX12_holdsAny_45 : decode cX12_holdsAny 45 = .ok (.goto (-43), 3) := by decide +kernel
theorem dX12_holdsAny_48 : decode cX12_holdsAny 48 = .ok (.iconst 0, 1) := by decide +kernel
theorem dX12_holdsAny_49 : decode cX12_holdsAny 49 = .ok (.ireturn, 1) := by decide +kernel
theorem dX12_wayOf_0 : decode cX12_wayOf 0 = .ok (.iload_n 0, 1) := by decide +kernel
theorem dX12_wayOf_1 : decode cX12_wayOf 1 = .ok (.bipush 117, 2) := by decide +kernel
theorem dX12_wayOf_3 : decode cX12_wayOf 3 = .ok (.if_icmp .ne 7, 3) := by decide +kernel
theorem dX12_wayOf_6 : decode cX12_wayOf 6 = .ok (.iconst 0, 1) := by decide +kernel
theorem dX12_wayOf_7 : decode cX12_wayOf 7 = .ok (.goto 44, 3) := by decide +kernel
theorem dX12_wayOf_10 : decode cX12_wayOf 10 = .ok (.iload_n 0, 1) := by decide +kernel
theorem dX12_wayOf_11 : decode cX12_wayOf 11 = .ok (.bipush 114, 2) := by decide +kernel
theorem dX12_wayOf_13 : decode cX12_wayOf 13 = .ok (.if_icmp .ne 7, 3) := by decide +kernel
theorem dX12_wayOf_16 : decode cX12_wayOf 16 = .ok (.iconst 1, 1) := by decide +kernel
theorem dX12_wayOf_17 : decode cX12_wayOf 17 = .ok (.goto 34, 3) := by decide +kernel
theorem dX12_wayOf_20 : decode cX12_wayOf 20 = .ok (.iload_n 0, 1) := by decide +kernel
theorem dX12_wayOf_21 : decode cX12_wayOf 21 = .ok (.bipush 100, 2) := by decide +kernel
theorem dX12_wayOf_23 : decode cX12_wayOf 23 = .ok (.if_icmp .ne 7, 3) := by decide +kernel
theorem dX12_wayOf_26 : decode cX12_wayOf 26 = .ok (.iconst 2, 1) := by decide +kernel
theorem dX12_wayOf_27 : decode cX12_wayOf 27 = .ok (.goto 24, 3) := by decide +kernel
theorem dX12_wayOf_30 : decode cX12_wayOf 30 = .ok (.iload_n 0, 1) := by decide +kernel
theorem dX12_wayOf_31 : decode cX12_wayOf 31 = .ok (.bipush 108, 2) := by decide +kernel
theorem dX12_wayOf_33 : decode cX12_wayOf 33 = .ok (.if_icmp .ne 7, 3) := by decide +kernel
theorem dX12_wayOf_36 : decode cX12_wayOf 36 = .ok (.iconst 3, 1) := by decide +kernel
theorem dX12_wayOf_37 : decode cX12_wayOf 37 = .ok (.goto 14, 3) := by decide +kernel
theorem dX12_wayOf_40 : decode cX12_wayOf 40 = .ok (.iload_n 0, 1) := by decide +kernel
theorem dX12_wayOf_41 : decode cX12_wayOf 41 = .ok (.bipush 46, 2) := by decide +kernel
theorem dX12_wayOf_43 : decode cX12_wayOf 43 = .ok (.if_icmp .ne 7, 3) := by decide +kernel
theorem dX12_wayOf_46 : decode cX12_wayOf 46 = .ok (.iconst 4, 1) := by decide +kernel
theorem dX12_wayOf_47 : decode cX12_wayOf 47 = .ok (.goto 4, 3) := by decide +kernel
theorem dX12_wayOf_50 : decode cX12_wayOf 50 = .ok (.iconst (-1), 1) := by decide +kernel
theorem dX12_wayOf_51 : decode cX12_wayOf 51 = .ok (.ireturn, 1) := by decide +kernel
theorem dX12_readsTimes_0 : decode cX12_readsTimes 0 = .ok (.aload_n 0, 1) := by decide +kernel
theorem dX12_readsTimes_1 : decode cX12_readsTimes 1 = .ok (.aload_n 0, 1) := by decide +kernel
theorem dX12_readsTimes_2 : decode cX12_readsTimes 2 = .ok (.getfield 137, 3) := by decide +kernel
theorem dX12_readsTimes_5 : decode cX12_readsTimes 5 = .ok (.putfield 241, 3) := by decide +kernel
theorem dX12_readsTimes_8 : decode cX12_readsTimes 8 = .ok (.aload_n 0, 1) := by decide +kernel
theorem dX12_readsTimes_9 : decode cX12_readsTimes 9 = .ok (.iconst 1, 1) := by decide +kernel
theorem dX12_readsTimes_10 : decode cX12_readsTimes 10 = .ok (.putfield 244, 3) := by decide +kernel
theorem dX12_readsTimes_13 : decode cX12_readsTimes 13 = .ok (.aload_n 0, 1) := by decide +kernel
theorem dX12_readsTimes_14 : decode cX12_readsTimes 14 = .ok (.invokevirtual 143, 3) := by decide +kernel
theorem dX12_readsTimes_17 : decode cX12_readsTimes 17 = .ok (.bipush 50, 2) := by decide +kernel
theorem dX12_readsTimes_19 : decode cX12_readsTimes 19 = .ok (.bipush 57, 2) := by decide +kernel
theorem dX12_readsTimes_21 : decode cX12_readsTimes 21 = .ok (.invokestatic 118, 3) := by decide +kernel
theorem dX12_readsTimes_24 : decode cX12_readsTimes 24 = .ok (.ifCond .ne 4, 3) := by decide +kernel
theorem dX12_readsTimes_27 : decode cX12_readsTimes 27 = .ok (.return_, 1) := by decide +kernel
theorem dX12_readsTimes_28 : decode cX12_readsTimes 28 = .ok (.aload_n 0, 1) := by decide +kernel
theorem dX12_readsTimes_29 : decode cX12_readsTimes 29 = .ok (.aload_n 0, 1) := by decide +kernel
theorem dX12_readsTimes_30 : decode cX12_readsTimes 30 = .ok (.invokevirtual 143, 3) := by decide +kernel
theorem dX12_readsTimes_33 : decode cX12_readsTimes 33 = .ok (.bipush 48, 2) := by decide +kernel
theorem dX12_readsTimes_35 : decode cX12_readsTimes 35 = .ok (.isub, 1) := by decide +kernel
theorem dX12_readsTimes_36 : decode cX12_readsTimes 36 = .ok (.putfield 244, 3) := by decide +kernel
theorem dX12_readsTimes_39 : decode cX12_readsTimes 39 = .ok (.aload_n 0, 1) := by decide +kernel
theorem dX12_readsTimes_40 : decode cX12_readsTimes 40 = .ok (.aload_n 0, 1) := by decide +kernel
theorem dX12_readsTimes_41 : decode cX12_readsTimes 41 = .ok (.getfield 137, 3) := by decide +kernel
theorem dX12_readsTimes_44 : decode cX12_readsTimes 44 = .ok (.iconst 1, 1) := by decide +kernel
theorem dX12_readsTimes_45 : decode cX12_readsTimes 45 = .ok (.iadd, 1) := by decide +kernel
theorem dX12_readsTimes_46 : decode cX12_readsTimes 46 = .ok (.putfield 137, 3) := by decide +kernel
theorem dX12_readsTimes_49 : decode cX12_readsTimes 49 = .ok (.return_, 1) := by decide +kernel
theorem dX12_repeats_0 : decode cX12_repeats 0 = .ok (.aload_n 0, 1) := by decide +kernel
theorem dX12_repeats_1 : decode cX12_repeats 1 = .ok (.getfield 247, 3) := by decide +kernel
theorem dX12_repeats_4 : decode cX12_repeats 4 = .ok (.iload_n 1, 1) := by decide +kernel
theorem dX12_repeats_5 : decode cX12_repeats 5 = .ok (.isub, 1) := by decide +kernel
theorem dX12_repeats_6 : decode cX12_repeats 6 = .ok (.istore 4, 2) := by decide +kernel
theorem dX12_repeats_8 : decode cX12_repeats 8 = .ok (.iload_n 1, 1) := by decide +kernel
theorem dX12_repeats_9 : decode cX12_repeats 9 = .ok (.iload 4, 2) := by decide +kernel
theorem dX12_repeats_11 : decode cX12_repeats 11 = .ok (.iload_n 2, 1) := by decide +kernel
theorem dX12_repeats_12 : decode cX12_repeats 12 = .ok (.imul, 1) := by decide +kernel
theorem dX12_repeats_13 : decode cX12_repeats 13 = .ok (.iadd, 1) := by decide +kernel
theorem dX12_repeats_14 : decode cX12_repeats 14 = .ok (.bipush 96, 2) := by decide +kernel
theorem dX12_repeats_16 : decode cX12_repeats 16 = .ok (.if_icmp .le 11, 3) := by decide +kernel
theorem dX12_repeats_19 : decode cX12_repeats 19 = .ok (.aload_n 0, 1) := by decide +kernel
theorem dX12_repeats_20 : decode cX12_repeats 20 = .ok (.bipush 6, 2) := by decide +kernel
theorem dX12_repeats_22 : decode cX12_repeats 22 = .ok (.iload_n 3, 1) := by decide +kernel
theorem dX12_repeats_23 : decode cX12_repeats 23 = .ok (.invokevirtual 150, 3) := by decide +kernel
theorem dX12_repeats_26 : decode cX12_repeats 26 = .ok (.ireturn, 1) := by decide +kernel
theorem dX12_repeats_27 : decode cX12_repeats 27 = .ok (.iload 4, 2) := by decide +kernel
theorem dX12_repeats_29 : decode cX12_repeats 29 = .ok (.istore 5, 2) := by decide +kernel
theorem dX12_repeats_31 : decode cX12_repeats 31 = .ok (.iload 5, 2) := by decide +kernel
theorem dX12_repeats_33 : decode cX12_repeats 33 = .ok (.iload 4, 2) := by decide +kernel
theorem dX12_repeats_35 : decode cX12_repeats 35 = .ok (.iload_n 2, 1) := by decide +kernel
theorem dX12_repeats_36 : decode cX12_repeats 36 = .ok (.imul, 1) := by decide +kernel
theorem dX12_repeats_37 : decode cX12_repeats 37 = .ok (.if_icmp .ge 30, 3) := by decide +kernel
theorem dX12_repeats_40 : decode cX12_repeats 40 = .ok (.aload_n 0, 1) := by decide +kernel
theorem dX12_repeats_41 : decode cX12_repeats 41 = .ok (.getfield 80, 3) := by decide +kernel
theorem dX12_repeats_44 : decode cX12_repeats 44 = .ok (.iload_n 1, 1) := by decide +kernel
theorem dX12_repeats_45 : decode cX12_repeats 45 = .ok (.iload 5, 2) := by decide +kernel
theorem dX12_repeats_47 : decode cX12_repeats 47 = .ok (.iadd, 1) := by decide +kernel
theorem dX12_repeats_48 : decode cX12_repeats 48 = .ok (.aload_n 0, 1) := by decide +kernel
theorem dX12_repeats_49 : decode cX12_repeats 49 = .ok (.getfield 80, 3) := by decide +kernel
theorem dX12_repeats_52 : decode cX12_repeats 52 = .ok (.iload_n 1, 1) := by decide +kernel
theorem dX12_repeats_53 : decode cX12_repeats 53 = .ok (.iload 5, 2) := by decide +kernel
theorem dX12_repeats_55 : decode cX12_repeats 55 = .ok (.iadd, 1) := by decide +kernel
theorem dX12_repeats_56 : decode cX12_repeats 56 = .ok (.iload 4, 2) := by decide +kernel
theorem dX12_repeats_58 : decode cX12_repeats 58 = .ok (.isub, 1) := by decide +kernel
theorem dX12_repeats_59 : decode cX12_repeats 59 = .ok (.iaload, 1) := by decide +kernel
theorem dX12_repeats_60 : decode cX12_repeats 60 = .ok (.iastore, 1) := by decide +kernel
theorem dX12_repeats_61 : decode cX12_repeats 61 = .ok (.iinc 5 1, 3) := by decide +kernel
theorem dX12_repeats_64 : decode cX12_repeats 64 = .ok (.goto (-33), 3) := by decide +kernel
theorem dX12_repeats_67 : decode cX12_repeats 67 = .ok (.aload_n 0, 1) := by decide +kernel
theorem dX12_repeats_68 : decode cX12_repeats 68 = .ok (.iload_n 1, 1) := by decide +kernel
theorem dX12_repeats_69 : decode cX12_repeats 69 = .ok (.iload 4, 2) := by decide +kernel
theorem dX12_repeats_71 : decode cX12_repeats 71 = .ok (.iload_n 2, 1) := by decide +kernel
theorem dX12_repeats_72 : decode cX12_repeats 72 = .ok (.imul, 1) := by decide +kernel
theorem dX12_repeats_73 : decode cX12_repeats 73 = .ok (.iadd, 1) := by decide +kernel
theorem dX12_repeats_74 : decode cX12_repeats 74 = .ok (.putfield 247, 3) := by decide +kernel
theorem dX12_repeats_77 : decode cX12_repeats 77 = .ok (.iconst 1, 1) := by decide +kernel
theorem dX12_repeats_78 : decode cX12_repeats 78 = .ok (.ireturn, 1) := by decide +kernel
theorem dX12_readsStep_0 : decode cX12_readsStep 0 = .ok (.aload_n 0, 1) := by decide +kernel
theorem dX12_readsStep_1 : decode cX12_readsStep 1 = .ok (.invokevirtual 250, 3) := by decide +kernel
theorem dX12_readsStep_4 : decode cX12_readsStep 4 = .ok (.aload_n 0, 1) := by decide +kernel
theorem dX12_readsStep_5 : decode cX12_readsStep 5 = .ok (.invokevirtual 143, 3) := by decide +kernel
theorem dX12_readsStep_8 : decode cX12_readsStep 8 = .ok (.bipush 40, 2) := by decide +kernel
theorem dX12_readsStep_10 : decode cX12_readsStep 10 = .ok (.if_icmp .ne 87, 3) := by decide +kernel
theorem dX12_readsStep_13 : decode cX12_readsStep 13 = .ok (.aload_n 0, 1) := by decide +kernel
theorem dX12_readsStep_14 : decode cX12_readsStep 14 = .ok (.getfield 253, 3) := by decide +kernel
theorem dX12_readsStep_17 : decode cX12_readsStep 17 = .ok (.iconst 2, 1) := by decide +kernel
theorem dX12_readsStep_18 : decode cX12_readsStep 18 = .ok (.if_icmp .ne 13, 3) := by decide +kernel
theorem dX12_readsStep_21 : decode cX12_readsStep 21 = .ok (.aload_n 0, 1) := by decide +kernel
theorem dX12_readsStep_22 : decode cX12_readsStep 22 = .ok (.iconst 5, 1) := by decide +kernel
theorem dX12_readsStep_23 : decode cX12_readsStep 23 = .ok (.aload_n 0, 1) := by decide +kernel
theorem dX12_readsStep_24 : decode cX12_readsStep 24 = .ok (.getfield 137, 3) := by decide +kernel
theorem dX12_readsStep_27 : decode cX12_readsStep 27 = .ok (.invokevirtual 150, 3) := by decide +kernel
theorem dX12_readsStep_30 : decode cX12_readsStep 30 = .ok (.ireturn, 1) := by decide +kernel
theorem dX12_readsStep_31 : decode cX12_readsStep 31 = .ok (.aload_n 0, 1) := by decide +kernel
theorem dX12_readsStep_32 : decode cX12_readsStep 32 = .ok (.getfield 83, 3) := by decide +kernel
theorem dX12_readsStep_35 : decode cX12_readsStep 35 = .ok (.aload_n 0, 1) := by decide +kernel
theorem dX12_readsStep_36 : decode cX12_readsStep 36 = .ok (.getfield 253, 3) := by decide +kernel
theorem dX12_readsStep_39 : decode cX12_readsStep 39 = .ok (.aload_n 0, 1) := by decide +kernel
theorem dX12_readsStep_40 : decode cX12_readsStep 40 = .ok (.getfield 241, 3) := by decide +kernel
theorem dX12_readsStep_43 : decode cX12_readsStep 43 = .ok (.iastore, 1) := by decide +kernel
theorem dX12_readsStep_44 : decode cX12_readsStep 44 = .ok (.aload_n 0, 1) := by decide +kernel
theorem dX12_readsStep_45 : decode cX12_readsStep 45 = .ok (.getfield 86, 3) := by decide +kernel
theorem dX12_readsStep_48 : decode cX12_readsStep 48 = .ok (.aload_n 0, 1) := by decide +kernel
theorem dX12_readsStep_49 : decode cX12_readsStep 49 = .ok (.getfield 253, 3) := by decide +kernel
theorem dX12_readsStep_52 : decode cX12_readsStep 52 = .ok (.aload_n 0, 1) := by decide +kernel
theorem dX12_readsStep_53 : decode cX12_readsStep 53 = .ok (.getfield 247, 3) := by decide +kernel
theorem dX12_readsStep_56 : decode cX12_readsStep 56 = .ok (.iastore, 1) := by decide +kernel
theorem dX12_readsStep_57 : decode cX12_readsStep 57 = .ok (.aload_n 0, 1) := by decide +kernel
theorem dX12_readsStep_58 : decode cX12_readsStep 58 = .ok (.getfield 89, 3) := by decide +kernel
theorem dX12_readsStep_61 : decode cX12_readsStep 61 = .ok (.aload_n 0, 1) := by decide +kernel
theorem dX12_readsStep_62 : decode cX12_readsStep 62 = .ok (.getfield 253, 3) := by decide +kernel
theorem dX12_readsStep_65 : decode cX12_readsStep 65 = .ok (.aload_n 0, 1) := by decide +kernel
theorem dX12_readsStep_66 : decode cX12_readsStep 66 = .ok (.getfield 244, 3) := by decide +kernel
theorem dX12_readsStep_69 : decode cX12_readsStep 69 = .ok (.iastore, 1) := by decide +kernel
theorem dX12_readsStep_70 : decode cX12_readsStep 70 = .ok (.aload_n 0, 1) := by decide +kernel
theorem dX12_readsStep_71 : decode cX12_readsStep 71 = .ok (.aload_n 0, 1) := by decide +kernel
theorem dX12_readsStep_72 : decode cX12_readsStep 72 = .ok (.getfield 253, 3) := by decide +kernel
theorem dX12_readsStep_75 : decode cX12_readsStep 75 = .ok (.iconst 1, 1) := by decide +kernel
theorem dX12_readsStep_76 : decode cX12_readsStep 76 = .ok (.iadd, 1) := by decide +kernel
theorem dX12_readsStep_77 : decode cX12_readsStep 77 = .ok (.putfield 253, 3) := by decide +kernel
theorem dX12_readsStep_80 : decode cX12_readsStep 80 = .ok (.aload_n 0, 1) := by decide +kernel
theorem dX12_readsStep_81 : decode cX12_readsStep 81 = .ok (.aload_n 0, 1) := by decide +kernel
theorem dX12_readsStep_82 : decode cX12_readsStep 82 = .ok (.getfield 137, 3) := by decide +kernel
theorem dX12_readsStep_85 : decode cX12_readsStep 85 = .ok (.iconst 1, 1) := by decide +kernel
theorem dX12_readsStep_86 : decode cX12_readsStep 86 = .ok (.iadd, 1) := by decide +kernel
theorem dX12_readsStep_87 : decode cX12_readsStep 87 = .ok (.putfield 137, 3) := by decide +kernel
theorem dX12_readsStep_90 : decode cX12_readsStep 90 = .ok (.aload_n 0, 1) := by decide +kernel
theorem dX12_readsStep_91 : decode cX12_readsStep 91 = .ok (.invokevirtual 250, 3) := by decide +kernel
theorem dX12_readsStep_94 : decode cX12_readsStep 94 = .ok (.goto (-90), 3) := by decide +kernel
theorem dX12_readsStep_97 : decode cX12_readsStep 97 = .ok (.aload_n 0, 1) := by decide +kernel
theorem dX12_readsStep_98 : decode cX12_readsStep 98 = .ok (.getfield 241, 3) := by decide +kernel
theorem dX12_readsStep_101 : decode cX12_readsStep 101 = .ok (.istore_n 1, 1) := by decide +kernel
theorem dX12_readsStep_102 : decode cX12_readsStep 102 = .ok (.aload_n 0, 1) := by decide +kernel
theorem dX12_readsStep_103 : decode cX12_readsStep 103 = .ok (.getfield 244, 3) := by decide +kernel
theorem dX12_readsStep_106 : decode cX12_readsStep 106 = .ok (.istore_n 2, 1) := by decide +kernel
theorem dX12_readsStep_107 : decode cX12_readsStep 107 = .ok (.aload_n 0, 1) := by decide +kernel
theorem dX12_readsStep_108 : decode cX12_readsStep 108 = .ok (.invokevirtual 143, 3) := by decide +kernel
theorem dX12_readsStep_111 : decode cX12_readsStep 111 = .ok (.invokestatic 256, 3) := by decide +kernel
theorem dX12_readsStep_114 : decode cX12_readsStep 114 = .ok (.istore_n 3, 1) := by decide +kernel
theorem dX12_readsStep_115 : decode cX12_readsStep 115 = .ok (.iload_n 3, 1) := by decide +kernel
theorem dX12_readsStep_116 : decode cX12_readsStep 116 = .ok (.iconst (-1), 1) := by decide +kernel
theorem dX12_readsStep_117 : decode cX12_readsStep 117 = .ok (.if_icmp .ne 13, 3) := by decide +kernel
theorem dX12_readsStep_120 : decode cX12_readsStep 120 = .ok (.aload_n 0, 1) := by decide +kernel
theorem dX12_readsStep_121 : decode cX12_readsStep 121 = .ok (.iconst 1, 1) := by decide +kernel
theorem dX12_readsStep_122 : decode cX12_readsStep 122 = .ok (.aload_n 0, 1) := by decide +kernel
theorem dX12_readsStep_123 : decode cX12_readsStep 123 = .ok (.getfield 137, 3) := by decide +kernel
theorem dX12_readsStep_126 : decode cX12_readsStep 126 = .ok (.invokevirtual 150, 3) := by decide +kernel
theorem dX12_readsStep_129 : decode cX12_readsStep 129 = .ok (.ireturn, 1) := by decide +kernel
theorem dX12_readsStep_130 : decode cX12_readsStep 130 = .ok (.aload_n 0, 1) := by decide +kernel
theorem dX12_readsStep_131 : decode cX12_readsStep 131 = .ok (.getfield 247, 3) := by decide +kernel
theorem dX12_readsStep_134 : decode cX12_readsStep 134 = .ok (.iload_n 2, 1) := by decide +kernel
theorem dX12_readsStep_135 : decode cX12_readsStep 135 = .ok (.iadd, 1) := by decide +kernel
theorem dX12_readsStep_136 : decode cX12_readsStep 136 = .ok (.bipush 96, 2) := by decide +kernel
theorem dX12_readsStep_138 : decode cX12_readsStep 138 = .ok (.if_icmp .le 11, 3) := by decide +kernel
theorem dX12_readsStep_141 : decode cX12_readsStep 141 = .ok (.aload_n 0, 1) := by decide +kernel
theorem dX12_readsStep_142 : decode cX12_readsStep 142 = .ok (.bipush 6, 2) := by decide +kernel
theorem dX12_readsStep_144 : decode cX12_readsStep 144 = .ok (.iload_n 1, 1) := by decide +kernel
theorem dX12_readsStep_145 : decode cX12_readsStep 145 = .ok (.invokevirtual 150, 3) := by decide +kernel
theorem dX12_readsStep_148 : decode cX12_readsStep 148 = .ok (.ireturn, 1) := by decide +kernel
theorem dX12_readsStep_149 : decode cX12_readsStep 149 = .ok (.aload_n 0, 1) := by decide +kernel
theorem dX12_readsStep_150 : decode cX12_readsStep 150 = .ok (.aload_n 0, 1) := by decide +kernel
theorem dX12_readsStep_151 : decode cX12_readsStep 151 = .ok (.getfield 137, 3) := by decide +kernel
theorem dX12_readsStep_154 : decode cX12_readsStep 154 = .ok (.iconst 1, 1) := by decide +kernel
theorem dX12_readsStep_155 : decode cX12_readsStep 155 = .ok (.iadd, 1) := by decide +kernel
theorem dX12_readsStep_156 : decode cX12_readsStep 156 = .ok (.putfield 137, 3) := by decide +kernel
theorem dX12_readsStep_159 : decode cX12_readsStep 159 = .ok (.aload_n 0, 1) := by decide +kernel
theorem dX12_readsStep_160 : decode cX12_readsStep 160 = .ok (.getfield 80, 3) := by decide +kernel
theorem dX12_readsStep_163 : decode cX12_readsStep 163 = .ok (.aload_n 0, 1) := by decide +kernel
theorem dX12_readsStep_164 : decode cX12_readsStep 164 = .ok (.getfield 247, 3) := by decide +kernel
theorem dX12_readsStep_167 : decode cX12_readsStep 167 = .ok (.iload_n 3, 1) := by decide +kernel
theorem dX12_readsStep_168 : decode cX12_readsStep 168 = .ok (.iastore, 1) := by decide +kernel
theorem dX12_readsStep_169 : decode cX12_readsStep 169 = .ok (.aload_n 0, 1) := by decide +kernel
theorem dX12_readsStep_170 : decode cX12_readsStep 170 = .ok (.aload_n 0, 1) := by decide +kernel
theorem dX12_readsStep_171 : decode cX12_readsStep 171 = .ok (.getfield 247, 3) := by decide +kernel
theorem dX12_readsStep_174 : decode cX12_readsStep 174 = .ok (.iconst 1, 1) := by decide +kernel
theorem dX12_readsStep_175 : decode cX12_readsStep 175 = .ok (.iadd, 1) := by decide +kernel
theorem dX12_readsStep_176 : decode cX12_readsStep 176 = .ok (.putfield 247, 3) := by decide +kernel
theorem dX12_readsStep_179 : decode cX12_readsStep 179 = .ok (.aload_n 0, 1) := by decide +kernel
theorem dX12_readsStep_180 : decode cX12_readsStep 180 = .ok (.aload_n 0, 1) := by decide +kernel
theorem dX12_readsStep_181 : decode cX12_readsStep 181 = .ok (.getfield 247, 3) := by decide +kernel
theorem dX12_readsStep_184 : decode cX12_readsStep 184 = .ok (.iconst 1, 1) := by decide +kernel
theorem dX12_readsStep_185 : decode cX12_readsStep 185 = .ok (.isub, 1) := by decide +kernel
theorem dX12_readsStep_186 : decode cX12_readsStep 186 = .ok (.iload_n 2, 1) := by decide +kernel
theorem dX12_readsStep_187 : decode cX12_readsStep 187 = .ok (.iload_n 1, 1) := by decide +kernel
theorem dX12_readsStep_188 : decode cX12_readsStep 188 = .ok (.invokevirtual 259, 3) := by decide +kernel
theorem dX12_readsStep_191 : decode cX12_readsStep 191 = .ok (.ifCond .ne 5, 3) := by decide +kernel
theorem dX12_readsStep_194 : decode cX12_readsStep 194 = .ok (.iconst 0, 1) := by decide +kernel
theorem dX12_readsStep_195 : decode cX12_readsStep 195 = .ok (.ireturn, 1) := by decide +kernel
theorem dX12_readsStep_196 : decode cX12_readsStep 196 = .ok (.aload_n 0, 1) := by decide +kernel
theorem dX12_readsStep_197 : decode cX12_readsStep 197 = .ok (.invokevirtual 143, 3) := by decide +kernel
theorem dX12_readsStep_200 : decode cX12_readsStep 200 = .ok (.bipush 41, 2) := by decide +kernel
theorem dX12_readsStep_202 : decode cX12_readsStep 202 = .ok (.if_icmp .ne 66, 3) := by decide +kernel
theorem dX12_readsStep_205 : decode cX12_readsStep 205 = .ok (.aload_n 0, 1) := by decide +kernel
theorem dX12_readsStep_206 : decode cX12_readsStep 206 = .ok (.getfield 253, 3) := by decide +kernel
theorem dX12_readsStep_209 : decode cX12_readsStep 209 = .ok (.ifCond .le 59, 3) := by decide +kernel
theorem dX12_readsStep_212 : decode cX12_readsStep 212 = .ok (.aload_n 0, 1) := by decide +kernel
theorem dX12_readsStep_213 : decode cX12_readsStep 213 = .ok (.aload_n 0, 1) := by decide +kernel
theorem dX12_readsStep_214 : decode cX12_readsStep 214 = .ok (.getfield 137, 3) := by decide +kernel
theorem dX12_readsStep_217 : decode cX12_readsStep 217 = .ok (.iconst 1, 1) := by decide +kernel
theorem dX12_readsStep_218 : decode cX12_readsStep 218 = .ok (.iadd, 1) := by decide +kernel
theorem dX12_readsStep_219 : decode cX12_readsStep 219 = .ok (.putfield 137, 3) := by decide +kernel
theorem dX12_readsStep_222 : decode cX12_readsStep 222 = .ok (.aload_n 0, 1) := by decide +kernel
theorem dX12_readsStep_223 : decode cX12_readsStep 223 = .ok (.aload_n 0, 1) := by decide +kernel
theorem dX12_readsStep_224 : decode cX12_readsStep 224 = .ok (.getfield 253, 3) := by decide +kernel
theorem dX12_readsStep_227 : decode cX12_readsStep 227 = .ok (.iconst 1, 1) := by decide +kernel
theorem dX12_readsStep_228 : decode cX12_readsStep 228 = .ok (.isub, 1) := by decide +kernel
theorem dX12_readsStep_229 : decode cX12_readsStep 229 = .ok (.putfield 253, 3) := by decide +kernel
theorem dX12_readsStep_232 : decode cX12_readsStep 232 = .ok (.aload_n 0, 1) := by decide +kernel
theorem dX12_readsStep_233 : decode cX12_readsStep 233 = .ok (.aload_n 0, 1) := by decide +kernel
theorem dX12_readsStep_234 : decode cX12_readsStep 234 = .ok (.getfield 86, 3) := by decide +kernel
theorem dX12_readsStep_237 : decode cX12_readsStep 237 = .ok (.aload_n 0, 1) := by decide +kernel
theorem dX12_readsStep_238 : decode cX12_readsStep 238 = .ok (.getfield 253, 3) := by decide +kernel
theorem dX12_readsStep_241 : decode cX12_readsStep 241 = .ok (.iaload, 1) := by decide +kernel
theorem dX12_readsStep_242 : decode cX12_readsStep 242 = .ok (.aload_n 0, 1) := by decide +kernel
theorem dX12_readsStep_243 : decode cX12_readsStep 243 = .ok (.getfield 89, 3) := by decide +kernel
theorem dX12_readsStep_246 : decode cX12_readsStep 246 = .ok (.aload_n 0, 1) := by decide +kernel
theorem dX12_readsStep_247 : decode cX12_readsStep 247 = .ok (.getfield 253, 3) := by decide +kernel
theorem dX12_readsStep_250 : decode cX12_readsStep 250 = .ok (.iaload, 1) := by decide +kernel
theorem dX12_readsStep_251 : decode cX12_readsStep 251 = .ok (.aload_n 0, 1) := by decide +kernel
theorem dX12_readsStep_252 : decode cX12_readsStep 252 = .ok (.getfield 83, 3) := by decide +kernel
theorem dX12_readsStep_255 : decode cX12_readsStep 255 = .ok (.aload_n 0, 1) := by decide +kernel
theorem dX12_readsStep_256 : decode cX12_readsStep 256 = .ok (.getfield 253, 3) := by decide +kernel
theorem dX12_readsStep_259 : decode cX12_readsStep 259 = .ok (.iaload, 1) := by decide +kernel
theorem dX12_readsStep_260 : decode cX12_readsStep 260 = .ok (.invokevirtual 259, 3) := by decide +kernel
theorem dX12_readsStep_263 : decode cX12_readsStep 263 = .ok (.ifCond .ne (-67), 3) := by decide +kernel
theorem dX12_readsStep_266 : decode cX12_readsStep 266 = .ok (.iconst 0, 1) := by decide +kernel
theorem dX12_readsStep_267 : decode cX12_readsStep 267 = .ok (.ireturn, 1) := by decide +kernel
theorem dX12_readsStep_268 : decode cX12_readsStep 268 = .ok (.iconst 1, 1) := by decide +kernel
theorem dX12_readsStep_269 : decode cX12_readsStep 269 = .ok (.ireturn, 1) := by decide +kernel
theorem dX12_beside_0 : decode cX12_beside 0 = .ok (.iload_n 0, 1) := by decide +kernel
theorem dX12_beside_1 : decode cX12_beside 1 = .ok (.bipush 16, 2) := by decide +kernel
theorem dX12_beside_3 : decode cX12_beside 3 = .ok (.irem, 1) := by decide +kernel
theorem dX12_beside_4 : decode cX12_beside 4 = .ok (.iload_n 1, 1) := by decide +kernel
theorem dX12_beside_5 : decode cX12_beside 5 = .ok (.iconst 1, 1) := by decide +kernel
theorem dX12_beside_6 : decode cX12_beside 6 = .ok (.if_icmp .ne 7, 3) := by decide +kernel
theorem dX12_beside_9 : decode cX12_beside 9 = .ok (.iconst 1, 1) := by decide +kernel
theorem dX12_beside_10 : decode cX12_beside 10 = .ok (.goto 13, 3) := by decide +kernel
theorem dX12_beside_13 : decode cX12_beside 13 = .ok (.iload_n 1, 1) := by decide +kernel
theorem dX12_beside_14 : decode cX12_beside 14 = .ok (.iconst 3, 1) := by decide +kernel
theorem dX12_beside_15 : decode cX12_beside 15 = .ok (.if_icmp .ne 7, 3) := by decide +kernel
theorem dX12_beside_18 : decode cX12_beside 18 = .ok (.iconst (-1), 1) := by decide +kernel
theorem dX12_beside_19 : decode cX12_beside 19 = .ok (.goto 4, 3) := by decide +kernel
theorem dX12_beside_22 : decode cX12_beside 22 = .ok (.iconst 0, 1) := by decide +kernel
theorem dX12_beside_23 : decode cX12_beside 23 = .ok (.iadd, 1) := by decide +kernel
theorem dX12_beside_24 : decode cX12_beside 24 = .ok (.istore_n 2, 1) := by decide +kernel
theorem dX12_beside_25 : decode cX12_beside 25 = .ok (.iload_n 0, 1) := by decide +kernel
theorem dX12_beside_26 : decode cX12_beside 26 = .ok (.bipush 16, 2) := by decide +kernel
theorem dX12_beside_28 : decode cX12_beside 28 = .ok (.idiv, 1) := by decide +kernel
theorem dX12_beside_29 : decode cX12_beside 29 = .ok (.iload_n 1, 1) := by decide +kernel
theorem dX12_beside_30 : decode cX12_beside 30 = .ok (.iconst 2, 1) := by decide +kernel
theorem dX12_beside_31 : decode cX12_beside 31 = .ok (.if_icmp .ne 7, 3) := by decide +kernel
theorem dX12_beside_34 : decode cX12_beside 34 = .ok (.iconst 1, 1) := by decide +kernel
theorem dX12_beside_35 : decode cX12_beside 35 = .ok (.goto 12, 3) := by decide +kernel
theorem dX12_beside_38 : decode cX12_beside 38 = .ok (.iload_n 1, 1) := by decide +kernel
theorem dX12_beside_39 : decode cX12_beside 39 = .ok (.ifCond .ne 7, 3) := by decide +kernel
theorem dX12_beside_42 : decode cX12_beside 42 = .ok (.iconst (-1), 1) := by decide +kernel
theorem dX12_beside_43 : decode cX12_beside 43 = .ok (.goto 4, 3) := by decide +kernel
theorem dX12_beside_46 : decode cX12_beside 46 = .ok (.iconst 0, 1) := by decide +kernel
theorem dX12_beside_47 : decode cX12_beside 47 = .ok (.iadd, 1) := by decide +kernel
theorem dX12_beside_48 : decode cX12_beside 48 = .ok (.istore_n 3, 1) := by decide +kernel
theorem dX12_beside_49 : decode cX12_beside 49 = .ok (.iload_n 2, 1) := by decide +kernel
theorem dX12_beside_50 : decode cX12_beside 50 = .ok (.iload_n 3, 1) := by decide +kernel
theorem dX12_beside_51 : decode cX12_beside 51 = .ok (.invokestatic 126, 3) := by decide +kernel
theorem dX12_beside_54 : decode cX12_beside 54 = .ok (.ifCond .eq 12, 3) := by decide +kernel
theorem dX12_beside_57 : decode cX12_beside 57 = .ok (.bipush 16, 2) := by decide +kernel
theorem dX12_beside_59 : decode cX12_beside 59 = .ok (.iload_n 3, 1) := by decide +kernel
theorem dX12_beside_60 : decode cX12_beside 60 = .ok (.imul, 1) := by decide +kernel
theorem dX12_beside_61 : decode cX12_beside 61 = .ok (.iload_n 2, 1) := by decide +kernel
theorem dX12_beside_62 : decode cX12_beside 62 = .ok (.iadd, 1) := by decide +kernel
theorem dX12_beside_63 : decode cX12_beside 63 = .ok (.goto 4, 3) := by decide +kernel
theorem dX12_beside_66 : decode cX12_beside 66 = .ok (.iload_n 0, 1) := by decide +kernel
theorem dX12_beside_67 : decode cX12_beside 67 = .ok (.ireturn, 1) := by decide +kernel
theorem dX12_line_0 : decode cX12_line 0 = .ok (.iload_n 1, 1) := by decide +kernel
theorem dX12_line_1 : decode cX12_line 1 = .ok (.iconst 0, 1) := by decide +kernel
theorem dX12_line_2 : decode cX12_line 2 = .ok (.bipush 7, 2) := by decide +kernel
theorem dX12_line_4 : decode cX12_line 4 = .ok (.invokestatic 118, 3) := by decide +kernel
theorem dX12_line_7 : decode cX12_line 7 = .ok (.ifCond .eq 43, 3) := by decide +kernel
theorem dX12_line_10 : decode cX12_line 10 = .ok (.iload_n 2, 1) := by decide +kernel
theorem dX12_line_11 : decode cX12_line 11 = .ok (.iload_n 3, 1) := by decide +kernel
theorem dX12_line_12 : decode cX12_line 12 = .ok (.invokestatic 126, 3) := by decide +kernel
theorem dX12_line_15 : decode cX12_line 15 = .ok (.ifCond .eq 35, 3) := by decide +kernel
theorem dX12_line_18 : decode cX12_line 18 = .ok (.iload 4, 2) := by decide +kernel
theorem dX12_line_20 : decode cX12_line 20 = .ok (.iconst 0, 1) := by decide +kernel
theorem dX12_line_21 : decode cX12_line 21 = .ok (.sipush 9999, 3) := by decide +kernel
theorem dX12_line_24 : decode cX12_line 24 = .ok (.invokestatic 118, 3) := by decide +kernel
theorem dX12_line_27 : decode cX12_line 27 = .ok (.ifCond .eq 23, 3) := by decide +kernel
theorem dX12_line_30 : decode cX12_line 30 = .ok (.iload 5, 2) := by decide +kernel
theorem dX12_line_32 : decode cX12_line 32 = .ok (.iconst 1, 1) := by decide +kernel
theorem dX12_line_33 : decode cX12_line 33 = .ok (.bipush 60, 2) := by decide +kernel
theorem dX12_line_35 : decode cX12_line 35 = .ok (.invokestatic 118, 3) := by decide +kernel
theorem dX12_line_38 : decode cX12_line 38 = .ok (.ifCond .eq 12, 3) := by decide +kernel
theorem dX12_line_41 : decode cX12_line 41 = .ok (.iload 5, 2) := by decide +kernel
theorem dX12_line_43 : decode cX12_line 43 = .ok (.aload_n 0, 1) := by decide +kernel
theorem dX12_line_44 : decode cX12_line 44 = .ok (.getfield 130, 3) := by decide +kernel
theorem dX12_line_47 : decode cX12_line 47 = .ok (.if_icmp .le 5, 3) := by decide +kernel
theorem dX12_line_50 : decode cX12_line 50 = .ok (.iconst (-1), 1) := by decide +kernel
theorem dX12_line_51 : decode cX12_line 51 = .ok (.ireturn, 1) := by decide +kernel
theorem dX12_line_52 : decode cX12_line 52 = .ok (.aload_n 0, 1) := by decide +kernel
theorem dX12_line_53 : decode cX12_line 53 = .ok (.iload 5, 2) := by decide +kernel
theorem dX12_line_55 : decode cX12_line 55 = .ok (.invokevirtual 221, 3) := by decide +kernel
theorem dX12_line_58 : decode cX12_line 58 = .ok (.aload_n 0, 1) := by decide +kernel
theorem dX12_line_59 : decode cX12_line 59 = .ok (.iconst 0, 1) := by decide +kernel
theorem dX12_line_60 : decode cX12_line 60 = .ok (.putfield 247, 3) := by decide +kernel
theorem dX12_line_63 : decode cX12_line 63 = .ok (.aload_n 0, 1) := by decide +kernel
theorem dX12_line_64 : decode cX12_line 64 = .ok (.iconst 0, 1) := by decide +kernel
theorem dX12_line_65 : decode cX12_line 65 = .ok (.putfield 253, 3) := by decide +kernel
theorem dX12_line_68 : decode cX12_line 68 = .ok (.aload_n 0, 1) := by decide +kernel
theorem dX12_line_69 : decode cX12_line 69 = .ok (.invokevirtual 262, 3) := by decide +kernel
theorem dX12_line_72 : decode cX12_line 72 = .ok (.istore 6, 2) := by decide +kernel
theorem dX12_line_74 : decode cX12_line 74 = .ok (.iload 6, 2) := by decide +kernel
theorem dX12_line_76 : decode cX12_line 76 = .ok (.ifCond .eq 30, 3) := by decide +kernel
theorem dX12_line_79 : decode cX12_line 79 = .ok (.aload_n 0, 1) := by decide +kernel
theorem dX12_line_80 : decode cX12_line 80 = .ok (.getfield 137, 3) := by decide +kernel
theorem dX12_line_83 : decode cX12_line 83 = .ok (.aload_n 0, 1) := by decide +kernel
theorem dX12_line_84 : decode cX12_line 84 = .ok (.getfield 140, 3) := by decide +kernel
theorem dX12_line_87 : decode cX12_line 87 = .ok (.if_icmp .lt 10, 3) := by decide +kernel
theorem dX12_line_90 : decode cX12_line 90 = .ok (.aload_n 0, 1) := by decide +kernel
theorem dX12_line_91 : decode cX12_line 91 = .ok (.getfield 253, 3) := by decide +kernel
theorem dX12_line_94 : decode cX12_line 94 = .ok (.ifCond .le 12, 3) := by decide +kernel
theorem dX12_line_97 : decode cX12_line 97 = .ok (.aload_n 0, 1) := by decide +kernel
theorem dX12_line_98 : decode cX12_line 98 = .ok (.invokevirtual 262, 3) := by decide +kernel
theorem dX12_line_101 : decode cX12_line 101 = .ok (.istore 6, 2) := by decide +kernel
theorem dX12_line_103 : decode cX12_line 103 = .ok (.goto (-29), 3) := by decide +kernel
theorem dX12_line_106 : decode cX12_line 106 = .ok (.aload_n 0, 1) := by decide +kernel
theorem dX12_line_107 : decode cX12_line 107 = .ok (.iconst 0, 1) := by decide +kernel
theorem dX12_line_108 : decode cX12_line 108 = .ok (.putfield 130, 3) := by decide +kernel
theorem dX12_line_111 : decode cX12_line 111 = .ok (.iload 6, 2) := by decide +kernel
theorem dX12_line_113 : decode cX12_line 113 = .ok (.ifCond .ne 8, 3) := by decide +kernel
theorem dX12_line_116 : decode cX12_line 116 = .ok (.aload_n 0, 1) := by decide +kernel
theorem dX12_line_117 : decode cX12_line 117 = .ok (.getfield 147, 3) := by decide +kernel
theorem dX12_line_120 : decode cX12_line 120 = .ok (.ireturn, 1) := by decide +kernel
theorem dX12_line_121 : decode cX12_line 121 = .ok (.aload_n 0, 1) := by decide +kernel
theorem dX12_line_122 : decode cX12_line 122 = .ok (.getfield 19, 3) := by decide +kernel
theorem dX12_line_125 : decode cX12_line 125 = .ok (.iload_n 1, 1) := by decide +kernel
theorem dX12_line_126 : decode cX12_line 126 = .ok (.aload_n 0, 1) := by decide +kernel
theorem dX12_line_127 : decode cX12_line 127 = .ok (.getfield 247, 3) := by decide +kernel
theorem dX12_line_130 : decode cX12_line 130 = .ok (.iastore, 1) := by decide +kernel
theorem dX12_line_131 : decode cX12_line 131 = .ok (.aload_n 0, 1) := by decide +kernel
theorem dX12_line_132 : decode cX12_line 132 = .ok (.getfield 22, 3) := by decide +kernel
theorem dX12_line_135 : decode cX12_line 135 = .ok (.iload_n 1, 1) := by decide +kernel
theorem dX12_line_136 : decode cX12_line 136 = .ok (.iload 4, 2) := by decide +kernel
theorem dX12_line_138 : decode cX12_line 138 = .ok (.iastore, 1) := by decide +kernel
theorem dX12_line_139 : decode cX12_line 139 = .ok (.aload_n 0, 1) := by decide +kernel
theorem dX12_line_140 : decode cX12_line 140 = .ok (.getfield 28, 3) := by decide +kernel
theorem dX12_line_143 : decode cX12_line 143 = .ok (.bipush 97, 2) := by decide +kernel
theorem dX12_line_145 : decode cX12_line 145 = .ok (.iload_n 1, 1) := by decide +kernel
theorem dX12_line_146 : decode cX12_line 146 = .ok (.imul, 1) := by decide +kernel
theorem dX12_line_147 : decode cX12_line 147 = .ok (.bipush 16, 2) := by decide +kernel
theorem dX12_line_149 : decode cX12_line 149 = .ok (.iload_n 3, 1) := by decide +kernel
theorem dX12_line_150 : decode cX12_line 150 = .ok (.imul, 1) := by decide +kernel
theorem dX12_line_151 : decode cX12_line 151 = .ok (.iload_n 2, 1) := by decide +kernel
theorem dX12_line_152 : decode cX12_line 152 = .ok (.iadd, 1) := by decide +kernel
theorem dX12_line_153 : decode cX12_line 153 = .ok (.iastore, 1) := by decide +kernel
theorem dX12_line_154 : decode cX12_line 154 = .ok (.iconst 0, 1) := by decide +kernel
theorem dX12_line_155 : decode cX12_line 155 = .ok (.istore 7, 2) := by decide +kernel
theorem dX12_line_157 : decode cX12_line 157 = .ok (.iload 7, 2) := by decide +kernel
theorem dX12_line_159 : decode cX12_line 159 = .ok (.aload_n 0, 1) := by decide +kernel
theorem dX12_line_160 : decode cX12_line 160 = .ok (.getfield 247, 3) := by decide +kernel
theorem dX12_line_163 : decode cX12_line 163 = .ok (.if_icmp .ge 64, 3) := by decide +kernel
theorem dX12_line_166 : decode cX12_line 166 = .ok (.aload_n 0, 1) := by decide +kernel
theorem dX12_line_167 : decode cX12_line 167 = .ok (.getfield 25, 3) := by decide +kernel
theorem dX12_line_170 : decode cX12_line 170 = .ok (.bipush 96, 2) := by decide +kernel
theorem dX12_line_172 : decode cX12_line 172 = .ok (.iload_n 1, 1) := by decide +kernel
theorem dX12_line_173 : decode cX12_line 173 = .ok (.imul, 1) := by decide +kernel
theorem dX12_line_174 : decode cX12_line 174 = .ok (.iload 7, 2) := by decide +kernel
theorem dX12_line_176 : decode cX12_line 176 = .ok (.iadd, 1) := by decide +kernel
theorem dX12_line_177 : decode cX12_line 177 = .ok (.aload_n 0, 1) := by decide +kernel
theorem dX12_line_178 : decode cX12_line 178 = .ok (.getfield 80, 3) := by decide +kernel
theorem dX12_line_181 : decode cX12_line 181 = .ok (.iload 7, 2) := by decide +kernel
theorem dX12_line_183 : decode cX12_line 183 = .ok (.iaload, 1) := by decide +kernel
theorem dX12_line_184 : decode cX12_line 184 = .ok (.iastore, 1) := by decide +kernel
theorem dX12_line_185 : decode cX12_line 185 = .ok (.aload_n 0, 1) := by decide +kernel
theorem dX12_line_186 : decode cX12_line 186 = .ok (.getfield 28, 3) := by decide +kernel
theorem dX12_line_189 : decode cX12_line 189 = .ok (.bipush 97, 2) := by decide +kernel
theorem dX12_line_191 : decode cX12_line 191 = .ok (.iload_n 1, 1) := by decide +kernel
theorem dX12_line_192 : decode cX12_line 192 = .ok (.imul, 1) := by decide +kernel
theorem dX12_line_193 : decode cX12_line 193 = .ok (.iload 7, 2) := by decide +kernel
theorem dX12_line_195 : decode cX12_line 195 = .ok (.iadd, 1) := by decide +kernel
theorem dX12_line_196 : decode cX12_line 196 = .ok (.iconst 1, 1) := by decide +kernel
theorem dX12_line_197 : decode cX12_line 197 = .ok (.iadd, 1) := by decide +kernel
theorem dX12_line_198 : decode cX12_line 198 = .ok (.aload_n 0, 1) := by decide +kernel
theorem dX12_line_199 : decode cX12_line 199 = .ok (.getfield 28, 3) := by decide +kernel
theorem dX12_line_202 : decode cX12_line 202 = .ok (.bipush 97, 2) := by decide +kernel
theorem dX12_line_204 : decode cX12_line 204 = .ok (.iload_n 1, 1) := by decide +kernel
theorem dX12_line_205 : decode cX12_line 205 = .ok (.imul, 1) := by decide +kernel
theorem dX12_line_206 : decode cX12_line 206 = .ok (.iload 7, 2) := by decide +kernel
theorem dX12_line_208 : decode cX12_line 208 = .ok (.iadd, 1) := by decide +kernel
theorem dX12_line_209 : decode cX12_line 209 = .ok (.iaload, 1) := by decide +kernel
theorem dX12_line_210 : decode cX12_line 210 = .ok (.aload_n 0, 1) := by decide +kernel
theorem dX12_line_211 : decode cX12_line 211 = .ok (.getfield 80, 3) := by decide +kernel
theorem dX12_line_214 : decode cX12_line 214 = .ok (.iload 7, 2) := by decide +kernel
theorem dX12_line_216 : decode cX12_line 216 = .ok (.iaload, 1) := by decide +kernel
theorem dX12_line_217 : decode cX12_line 217 = .ok (.invokestatic 265, 3) := by decide +kernel
theorem dX12_line_220 : decode cX12_line 220 = .ok (.iastore, 1) := by decide +kernel
theorem dX12_line_221 : decode cX12_line 221 = .ok (.iinc 7 1, 3) := by decide +kernel
theorem dX12_line_224 : decode cX12_line 224 = .ok (.goto (-67), 3) := by decide +kernel
theorem dX12_line_227 : decode cX12_line 227 = .ok (.aload_n 0, 1) := by decide +kernel
theorem dX12_line_228 : decode cX12_line 228 = .ok (.getfield 247, 3) := by decide +kernel
theorem dX12_line_231 : decode cX12_line 231 = .ok (.ireturn, 1) := by decide +kernel
theorem dX12_whereAt_0 : decode cX12_whereAt 0 = .ok (.aload_n 0, 1) := by decide +kernel
theorem dX12_whereAt_1 : decode cX12_whereAt 1 = .ok (.iload_n 1, 1) := by decide +kernel
theorem dX12_whereAt_2 : decode cX12_whereAt 2 = .ok (.invokevirtual 122, 3) := by decide +kernel
theorem dX12_whereAt_5 : decode cX12_whereAt 5 = .ok (.ifCond .eq 50, 3) := by decide +kernel
theorem dX12_whereAt_8 : decode cX12_whereAt 8 = .ok (.iload_n 2, 1) := by decide +kernel
theorem dX12_whereAt_9 : decode cX12_whereAt 9 = .ok (.aload_n 0, 1) := by decide +kernel
theorem dX12_whereAt_10 : decode cX12_whereAt 10 = .ok (.getfield 22, 3) := by decide +kernel
theorem dX12_whereAt_13 : decode cX12_whereAt 13 = .ok (.iload_n 1, 1) := by decide +kernel
theorem dX12_whereAt_14 : decode cX12_whereAt 14 = .ok (.iaload, 1) := by decide +kernel
theorem dX12_whereAt_15 : decode cX12_whereAt 15 = .ok (.aload_n 0, 1) := by decide +kernel
theorem dX12_whereAt_16 : decode cX12_whereAt 16 = .ok (.getfield 22, 3) := by decide +kernel
theorem dX12_whereAt_19 : decode cX12_whereAt 19 = .ok (.iload_n 1, 1) := by decide +kernel
theorem dX12_whereAt_20 : decode cX12_whereAt 20 = .ok (.iaload, 1) := by decide +kernel
theorem dX12_whereAt_21 : decode cX12_whereAt 21 = .ok (.aload_n 0, 1) := by decide +kernel
theorem dX12_whereAt_22 : decode cX12_whereAt 22 = .ok (.getfield 19, 3) := by decide +kernel
theorem dX12_whereAt_25 : decode cX12_whereAt 25 = .ok (.iload_n 1, 1) := by decide +kernel
theorem dX12_whereAt_26 : decode cX12_whereAt 26 = .ok (.iaload, 1) := by decide +kernel
theorem dX12_whereAt_27 : decode cX12_whereAt 27 = .ok (.iadd, 1) := by decide +kernel
theorem dX12_whereAt_28 : decode cX12_whereAt 28 = .ok (.invokestatic 118, 3) := by decide +kernel
theorem dX12_whereAt_31 : decode cX12_whereAt 31 = .ok (.ifCond .eq 24, 3) := by decide +kernel
theorem dX12_whereAt_34 : decode cX12_whereAt 34 = .ok (.aload_n 0, 1) := by decide +kernel
theorem dX12_whereAt_35 : decode cX12_whereAt 35 = .ok (.getfield 28, 3) := by decide +kernel
theorem dX12_whereAt_38 : decode cX12_whereAt 38 = .ok (.bipush 97, 2) := by decide +kernel
theorem dX12_whereAt_40 : decode cX12_whereAt 40 = .ok (.iload_n 1, 1) := by decide +kernel
theorem dX12_whereAt_41 : decode cX12_whereAt 41 = .ok (.imul, 1) := by decide +kernel
theorem dX12_whereAt_42 : decode cX12_whereAt 42 = .ok (.iload_n 2, 1) := by decide +kernel
theorem dX12_whereAt_43 : decode cX12_whereAt 43 = .ok (.iadd, 1) := by decide +kernel
theorem dX12_whereAt_44 : decode cX12_whereAt 44 = .ok (.aload_n 0, 1) := by decide +kernel
theorem dX12_whereAt_45 : decode cX12_whereAt 45 = .ok (.getfield 22, 3) := by decide +kernel
theorem dX12_whereAt_48 : decode cX12_whereAt 48 = .ok (.iload_n 1, 1) := by decide +kernel
theorem dX12_whereAt_49 : decode cX12_whereAt 49 = .ok (.iaload, 1) := by decide +kernel
theorem dX12_whereAt_50 : decode cX12_whereAt 50 = .ok (.isub, 1) := by decide +kernel
theorem dX12_whereAt_51 : decode cX12_whereAt 51 = .ok (.iaload, 1) := by decide +kernel
theorem dX12_whereAt_52 : decode cX12_whereAt 52 = .ok (.goto 4, 3) := by decide +kernel
theorem dX12_whereAt_55 : decode cX12_whereAt 55 = .ok (.iconst (-1), 1) := by decide +kernel
theorem dX12_whereAt_56 : decode cX12_whereAt 56 = .ok (.ireturn, 1) := by decide +kernel
theorem dX12_readsAmount_0 : decode cX12_readsAmount 0 = .ok (.aload_n 0, 1) := by decide +kernel
theorem dX12_readsAmount_1 : decode cX12_readsAmount 1 = .ok (.getfield 137, 3) := by decide +kernel
theorem dX12_readsAmount_4 : decode cX12_readsAmount 4 = .ok (.istore_n 1, 1) := by decide +kernel
theorem dX12_readsAmount_5 : decode cX12_readsAmount 5 = .ok (.aload_n 0, 1) := by decide +kernel
theorem dX12_readsAmount_6 : decode cX12_readsAmount 6 = .ok (.invokevirtual 156, 3) := by decide +kernel
theorem dX12_readsAmount_9 : decode cX12_readsAmount 9 = .ok (.ifCond .ne 13, 3) := by decide +kernel
theorem dX12_readsAmount_12 : decode cX12_readsAmount 12 = .ok (.aload_n 0, 1) := by decide +kernel
theorem dX12_readsAmount_13 : decode cX12_readsAmount 13 = .ok (.iconst 1, 1) := by decide +kernel
theorem dX12_readsAmount_14 : decode cX12_readsAmount 14 = .ok (.aload_n 0, 1) := by decide +kernel
theorem dX12_readsAmount_15 : decode cX12_readsAmount 15 = .ok (.getfield 137, 3) := by decide +kernel
theorem dX12_readsAmount_18 : decode cX12_readsAmount 18 = .ok (.invokevirtual 150, 3) := by decide +kernel
theorem dX12_readsAmount_21 : decode cX12_readsAmount 21 = .ok (.ireturn, 1) := by decide +kernel
theorem dX12_readsAmount_22 : decode cX12_readsAmount 22 = .ok (.aload_n 0, 1) := by decide +kernel
theorem dX12_readsAmount_23 : decode cX12_readsAmount 23 = .ok (.iconst 0, 1) := by decide +kernel
theorem dX12_readsAmount_24 : decode cX12_readsAmount 24 = .ok (.putfield 153, 3) := by decide +kernel
theorem dX12_readsAmount_27 : decode cX12_readsAmount 27 = .ok (.aload_n 0, 1) := by decide +kernel
theorem dX12_readsAmount_28 : decode cX12_readsAmount 28 = .ok (.invokevirtual 156, 3) := by decide +kernel
theorem dX12_readsAmount_31 : decode cX12_readsAmount 31 = .ok (.ifCond .eq 55, 3) := by decide +kernel
theorem dX12_readsAmount_34 : decode cX12_readsAmount 34 = .ok (.aload_n 0, 1) := by decide +kernel
theorem dX12_readsAmount_35 : decode cX12_readsAmount 35 = .ok (.getfield 137, 3) := by decide +kernel
theorem dX12_readsAmount_38 : decode cX12_readsAmount 38 = .ok (.iload_n 1, 1) := by decide +kernel
theorem dX12_readsAmount_39 : decode cX12_readsAmount 39 = .ok (.iconst 2, 1) := by decide +kernel
theorem dX12_readsAmount_40 : decode cX12_readsAmount 40 = .ok (.iadd, 1) := by decide +kernel
theorem dX12_readsAmount_41 : decode cX12_readsAmount 41 = .ok (.if_icmp .ne 13, 3) := by decide +kernel
theorem dX12_readsAmount_44 : decode cX12_readsAmount 44 = .ok (.aload_n 0, 1) := by decide +kernel
theorem dX12_readsAmount_45 : decode cX12_readsAmount 45 = .ok (.iconst 2, 1) := by decide +kernel
theorem dX12_readsAmount_46 : decode cX12_readsAmount 46 = .ok (.aload_n 0, 1) := by decide +kernel
theorem dX12_readsAmount_47 : decode cX12_readsAmount 47 = .ok (.getfield 137, 3) := by decide +kernel
theorem dX12_readsAmount_50 : decode cX12_readsAmount 50 = .ok (.invokevirtual 150, 3) := by decide +kernel
theorem dX12_readsAmount_53 : decode cX12_readsAmount 53 = .ok (.ireturn, 1) := by decide +kernel
theorem dX12_readsAmount_54 : decode cX12_readsAmount 54 = .ok (.aload_n 0, 1) := by decide +kernel
theorem dX12_readsAmount_55 : decode cX12_readsAmount 55 = .ok (.bipush 10, 2) := by decide +kernel
theorem dX12_readsAmount_57 : decode cX12_readsAmount 57 = .ok (.aload_n 0, 1) := by decide +kernel
theorem dX12_readsAmount_58 : decode cX12_readsAmount 58 = .ok (.getfield 153, 3) := by decide +kernel
theorem dX12_readsAmount_61 : decode cX12_readsAmount 61 = .ok (.imul, 1) := by decide +kernel
theorem dX12_readsAmount_62 : decode cX12_readsAmount 62 = .ok (.aload_n 0, 1) := by decide +kernel
theorem dX12_readsAmount_63 : decode cX12_readsAmount 63 = .ok (.invokevirtual 143, 3) := by decide +kernel
theorem dX12_readsAmount_66 : decode cX12_readsAmount 66 = .ok (.iadd, 1) := by decide +kernel
theorem dX12_readsAmount_67 : decode cX12_readsAmount 67 = .ok (.bipush 48, 2) := by decide +kernel
theorem dX12_readsAmount_69 : decode cX12_readsAmount 69 = .ok (.isub, 1) := by decide +kernel
theorem dX12_readsAmount_70 : decode cX12_readsAmount 70 = .ok (.putfield 153, 3) := by decide +kernel
theorem dX12_readsAmount_73 : decode cX12_readsAmount 73 = .ok (.aload_n 0, 1) := by decide +kernel
theorem dX12_readsAmount_74 : decode cX12_readsAmount 74 = .ok (.aload_n 0, 1) := by decide +kernel
theorem dX12_readsAmount_75 : decode cX12_readsAmount 75 = .ok (.getfield 137, 3) := by decide +kernel
theorem dX12_readsAmount_78 : decode cX12_readsAmount 78 = .ok (.iconst 1, 1) := by decide +kernel
theorem dX12_readsAmount_79 : decode cX12_readsAmount 79 = .ok (.iadd, 1) := by decide +kernel
theorem dX12_readsAmount_80 : decode cX12_readsAmount 80 = .ok (.putfield 137, 3) := by decide +kernel
theorem dX12_readsAmount_83 : decode cX12_readsAmount 83 = .ok (.goto (-56), 3) := by decide +kernel
theorem dX12_readsAmount_86 : decode cX12_readsAmount 86 = .ok (.iconst 1, 1) := by decide +kernel
theorem dX12_readsAmount_87 : decode cX12_readsAmount 87 = .ok (.ireturn, 1) := by decide +kernel
theorem dX12_readsWithin_0 : decode cX12_readsWithin 0 = .ok (.aload_n 0, 1) := by decide +kernel
theorem dX12_readsWithin_1 : decode cX12_readsWithin 1 = .ok (.getfield 137, 3) := by decide +kernel
theorem dX12_readsWithin_4 : decode cX12_readsWithin 4 = .ok (.istore 4, 2) := by decide +kernel
theorem dX12_readsWithin_6 : decode cX12_readsWithin 6 = .ok (.aload_n 0, 1) := by decide +kernel
theorem dX12_readsWithin_7 : decode cX12_readsWithin 7 = .ok (.invokevirtual 268, 3) := by decide +kernel
theorem dX12_readsWithin_10 : decode cX12_readsWithin 10 = .ok (.ifCond .ne 5, 3) := by decide +kernel
theorem dX12_readsWithin_13 : decode cX12_readsWithin 13 = .ok (.iconst 0, 1) := by decide +kernel
theorem dX12_readsWithin_14 : decode cX12_readsWithin 14 = .ok (.ireturn, 1) := by decide +kernel
theorem dX12_readsWithin_15 : decode cX12_readsWithin 15 = .ok (.aload_n 0, 1) := by decide +kernel
theorem dX12_readsWithin_16 : decode cX12_readsWithin 16 = .ok (.getfield 153, 3) := by decide +kernel
theorem dX12_readsWithin_19 : decode cX12_readsWithin 19 = .ok (.iload_n 1, 1) := by decide +kernel
theorem dX12_readsWithin_20 : decode cX12_readsWithin 20 = .ok (.iload_n 2, 1) := by decide +kernel
theorem dX12_readsWithin_21 : decode cX12_readsWithin 21 = .ok (.invokestatic 118, 3) := by decide +kernel
theorem dX12_readsWithin_24 : decode cX12_readsWithin 24 = .ok (.ifCond .ne 11, 3) := by decide +kernel
theorem dX12_readsWithin_27 : decode cX12_readsWithin 27 = .ok (.aload_n 0, 1) := by decide +kernel
theorem dX12_readsWithin_28 : decode cX12_readsWithin 28 = .ok (.iconst 3, 1) := by decide +kernel
theorem dX12_readsWithin_29 : decode cX12_readsWithin 29 = .ok (.iload 4, 2) := by decide +kernel
theorem dX12_readsWithin_31 : decode cX12_readsWithin 31 = .ok (.invokevirtual 150, 3) := by decide +kernel
theorem dX12_readsWithin_34 : decode cX12_readsWithin 34 = .ok (.ireturn, 1) := by decide +kernel
theorem dX12_readsWithin_35 : decode cX12_readsWithin 35 = .ok (.iload_n 3, 1) := by decide +kernel
theorem dX12_readsWithin_36 : decode cX12_readsWithin 36 = .ok (.iconst (-1), 1) := by decide +kernel
theorem dX12_readsWithin_37 : decode cX12_readsWithin 37 = .ok (.if_icmp .eq 11, 3) := by decide +kernel
theorem dX12_readsWithin_40 : decode cX12_readsWithin 40 = .ok (.aload_n 0, 1) := by decide +kernel
theorem dX12_readsWithin_41 : decode cX12_readsWithin 41 = .ok (.iload_n 3, 1) := by decide +kernel
theorem dX12_readsWithin_42 : decode cX12_readsWithin 42 = .ok (.invokevirtual 227, 3) := by decide +kernel
theorem dX12_readsWithin_45 : decode cX12_readsWithin 45 = .ok (.ifCond .eq 7, 3) := by decide +kernel
theorem dX12_readsWithin_48 : decode cX12_readsWithin 48 = .ok (.iconst 1, 1) := by decide +kernel
theorem dX12_readsWithin_49 : decode cX12_readsWithin 49 = .ok (.goto 4, 3) := by decide +kernel
theorem dX12_readsWithin_52 : decode cX12_readsWithin 52 = .ok (.iconst 0, 1) := by decide +kernel
theorem dX12_readsWithin_53 : decode cX12_readsWithin 53 = .ok (.ireturn, 1) := by decide +kernel
theorem dX12_readsGround_0 : decode cX12_readsGround 0 = .ok (.aload_n 0, 1) := by decide +kernel
theorem dX12_readsGround_1 : decode cX12_readsGround 1 = .ok (.invokevirtual 143, 3) := by decide +kernel
theorem dX12_readsGround_4 : decode cX12_readsGround 4 = .ok (.istore_n 1, 1) := by decide +kernel
theorem dX12_readsGround_5 : decode cX12_readsGround 5 = .ok (.iload_n 1, 1) := by decide +kernel
theorem dX12_readsGround_6 : decode cX12_readsGround 6 = .ok (.bipush 126, 2) := by decide +kernel
theorem dX12_readsGround_8 : decode cX12_readsGround 8 = .ok (.if_icmp .eq 24, 3) := by decide +kernel
theorem dX12_readsGround_11 : decode cX12_readsGround 11 = .ok (.iload_n 1, 1) := by decide +kernel
theorem dX12_readsGround_12 : decode cX12_readsGround 12 = .ok (.bipush 97, 2) := by decide +kernel
theorem dX12_readsGround_14 : decode cX12_readsGround 14 = .ok (.bipush 104, 2) := by decide +kernel
theorem dX12_readsGround_16 : decode cX12_readsGround 16 = .ok (.invokestatic 118, 3) := by decide +kernel
theorem dX12_readsGround_19 : decode cX12_readsGround 19 = .ok (.ifCond .ne 13, 3) := by decide +kernel
theorem dX12_readsGround_22 : decode cX12_readsGround 22 = .ok (.aload_n 0, 1) := by decide +kernel
theorem dX12_readsGround_23 : decode cX12_readsGround 23 = .ok (.iconst 1, 1) := by decide +kernel
theorem dX12_readsGround_24 : decode cX12_readsGround 24 = .ok (.aload_n 0, 1) := by decide +kernel
theorem dX12_readsGround_25 : decode cX12_readsGround 25 = .ok (.getfield 137, 3) := by decide +kernel
theorem dX12_readsGround_28 : decode cX12_readsGround 28 = .ok (.invokevirtual 150, 3) := by decide +kernel
theorem dX12_readsGround_31 : decode cX12_readsGround 31 = .ok (.ireturn, 1) := by decide +kernel
theorem dX12_readsGround_32 : decode cX12_readsGround 32 = .ok (.aload_n 0, 1) := by decide +kernel
theorem dX12_readsGround_33 : decode cX12_readsGround 33 = .ok (.getfield 271, 3) := by decide +kernel
theorem dX12_readsGround_36 : decode cX12_readsGround 36 = .ok (.bipush 12, 2) := by decide +kernel
theorem dX12_readsGround_38 : decode cX12_readsGround 38 = .ok (.if_icmp .ne 13, 3) := by decide +kernel
theorem dX12_readsGround_41 : decode cX12_readsGround 41 = .ok (.aload_n 0, 1) := by decide +kernel
theorem dX12_readsGround_42 : decode cX12_readsGround 42 = .ok (.iconst 4, 1) := by decide +kernel
theorem dX12_readsGround_43 : decode cX12_readsGround 43 = .ok (.aload_n 0, 1) := by decide +kernel
theorem dX12_readsGround_44 : decode cX12_readsGround 44 = .ok (.getfield 137, 3) := by decide +kernel
theorem dX12_readsGround_47 : decode cX12_readsGround 47 = .ok (.invokevirtual 150, 3) := by decide +kernel
theorem dX12_readsGround_50 : decode cX12_readsGround 50 = .ok (.ireturn, 1) := by decide +kernel
theorem dX12_readsGround_51 : decode cX12_readsGround 51 = .ok (.aload_n 0, 1) := by decide +kernel
theorem dX12_readsGround_52 : decode cX12_readsGround 52 = .ok (.aload_n 0, 1) := by decide +kernel
theorem dX12_readsGround_53 : decode cX12_readsGround 53 = .ok (.getfield 271, 3) := by decide +kernel
theorem dX12_readsGround_56 : decode cX12_readsGround 56 = .ok (.iconst 1, 1) := by decide +kernel
theorem dX12_readsGround_57 : decode cX12_readsGround 57 = .ok (.iadd, 1) := by decide +kernel
theorem dX12_readsGround_58 : decode cX12_readsGround 58 = .ok (.putfield 271, 3) := by decide +kernel
theorem dX12_readsGround_61 : decode cX12_readsGround 61 = .ok (.aload_n 0, 1) := by decide +kernel
theorem dX12_readsGround_62 : decode cX12_readsGround 62 = .ok (.aload_n 0, 1) := by decide +kernel
theorem dX12_readsGround_63 : decode cX12_readsGround 63 = .ok (.getfield 137, 3) := by decide +kernel
theorem dX12_readsGround_66 : decode cX12_readsGround 66 = .ok (.iconst 1, 1) := by decide +kernel
theorem dX12_readsGround_67 : decode cX12_readsGround 67 = .ok (.iadd, 1) := by decide +kernel
theorem dX12_readsGround_68 : decode cX12_readsGround 68 = .ok (.putfield 137, 3) := by decide +kernel
theorem dX12_readsGround_71 : decode cX12_readsGround 71 = .ok (.aload_n 0, 1) := by decide +kernel
theorem dX12_readsGround_72 : decode cX12_readsGround 72 = .ok (.iconst 0, 1) := by decide +kernel
theorem dX12_readsGround_73 : decode cX12_readsGround 73 = .ok (.bipush 15, 2) := by decide +kernel
theorem dX12_readsGround_75 : decode cX12_readsGround 75 = .ok (.bipush 44, 2) := by decide +kernel
theorem dX12_readsGround_77 : decode cX12_readsGround 77 = .ok (.invokevirtual 274, 3) := by decide +kernel
theorem dX12_readsGround_80 : decode cX12_readsGround 80 = .ok (.ifCond .ne 5, 3) := by decide +kernel
theorem dX12_readsGround_83 : decode cX12_readsGround 83 = .ok (.iconst 0, 1) := by decide +kernel
theorem dX12_readsGround_84 : decode cX12_readsGround 84 = .ok (.ireturn, 1) := by decide +kernel
theorem dX12_readsGround_85 : decode cX12_readsGround 85 = .ok (.aload_n 0, 1) := by decide +kernel
theorem dX12_readsGround_86 : decode cX12_readsGround 86 = .ok (.getfield 153, 3) := by decide +kernel
theorem dX12_readsGround_89 : decode cX12_readsGround 89 = .ok (.istore_n 2, 1) := by decide +kernel
theorem dX12_readsGround_90 : decode cX12_readsGround 90 = .ok (.aload_n 0, 1) := by decide +kernel
theorem dX12_readsGround_91 : decode cX12_readsGround 91 = .ok (.iconst 0, 1) := by decide +kernel
theorem dX12_readsGround_92 : decode cX12_readsGround 92 = .ok (.bipush 11, 2) := by decide +kernel
theorem dX12_readsGround_94 : decode cX12_readsGround 94 = .ok (.bipush 58, 2) := by decide +kernel
theorem dX12_readsGround_96 : decode cX12_readsGround 96 = .ok (.invokevirtual 274, 3) := by decide +kernel
theorem dX12_readsGround_99 : decode cX12_readsGround 99 = .ok (.ifCond .ne 5, 3) := by decide +kernel
theorem dX12_readsGround_102 : decode cX12_readsGround 102 = .ok (.iconst 0, 1) := by decide +kernel
theorem dX12_readsGround_103 : decode cX12_readsGround 103 = .ok (.ireturn, 1) := by decide +kernel
theorem dX12_readsGround_104 : decode cX12_readsGround 104 = .ok (.aload_n 0, 1) := by decide +kernel
theorem dX12_readsGround_105 : decode cX12_readsGround 105 = .ok (.getfield 153, 3) := by decide +kernel
theorem dX12_readsGround_108 : decode cX12_readsGround 108 = .ok (.istore_n 3, 1) := by decide +kernel
theorem dX12_readsGround_109 : decode cX12_readsGround 109 = .ok (.aload_n 0, 1) := by decide +kernel
theorem dX12_readsGround_110 : decode cX12_readsGround 110 = .ok (.iconst 1, 1) := by decide +kernel
theorem dX12_readsGround_111 : decode cX12_readsGround 111 = .ok (.bipush 16, 2) := by decide +kernel
theorem dX12_readsGround_113 : decode cX12_readsGround 113 = .ok (.iload_n 2, 1) := by decide +kernel
theorem dX12_readsGround_114 : decode cX12_readsGround 114 = .ok (.isub, 1) := by decide +kernel
theorem dX12_readsGround_115 : decode cX12_readsGround 115 = .ok (.bipush 120, 2) := by decide +kernel
theorem dX12_readsGround_117 : decode cX12_readsGround 117 = .ok (.invokevirtual 274, 3) := by decide +kernel
theorem dX12_readsGround_120 : decode cX12_readsGround 120 = .ok (.ifCond .ne 5, 3) := by decide +kernel
theorem dX12_readsGround_123 : decode cX12_readsGround 123 = .ok (.iconst 0, 1) := by decide +kernel
theorem dX12_readsGround_124 : decode cX12_readsGround 124 = .ok (.ireturn, 1) := by decide +kernel
theorem dX12_readsGround_125 : decode cX12_readsGround 125 = .ok (.aload_n 0, 1) := by decide +kernel
theorem dX12_readsGround_126 : decode cX12_readsGround 126 = .ok (.getfield 153, 3) := by decide +kernel
theorem dX12_readsGround_129 : decode cX12_readsGround 129 = .ok (.istore 4, 2) := by decide +kernel
theorem dX12_readsGround_131 : decode cX12_readsGround 131 = .ok (.aload_n 0, 1) := by decide +kernel
theorem dX12_readsGround_132 : decode cX12_readsGround 132 = .ok (.iconst 1, 1) := by decide +kernel
theorem dX12_readsGround_133 : decode cX12_readsGround 133 = .ok (.bipush 12, 2) := by decide +kernel
theorem dX12_readsGround_135 : decode cX12_readsGround 135 = .ok (.iload_n 3, 1) := by decide +kernel
theorem dX12_readsGround_136 : decode cX12_readsGround 136 = .ok (.isub, 1) := by decide +kernel
theorem dX12_readsGround_137 : decode cX12_readsGround 137 = .ok (.iconst (-1), 1) := by decide +kernel
theorem dX12_readsGround_138 : decode cX12_readsGround 138 = .ok (.invokevirtual 274, 3) := by decide +kernel
theorem dX12_readsGround_141 : decode cX12_readsGround 141 = .ok (.ifCond .ne 5, 3) := by decide +kernel
theorem dX12_readsGround_144 : decode cX12_readsGround 144 = .ok (.iconst 0, 1) := by decide +kernel
theorem dX12_readsGround_145 : decode cX12_readsGround 145 = .ok (.ireturn, 1) := by decide +kernel
theorem dX12_readsGround_146 : decode cX12_readsGround 146 = .ok (.aload_n 0, 1) := by decide +kernel
theorem dX12_readsGround_147 : decode cX12_readsGround 147 = .ok (.getfield 153, 3) := by decide +kernel
theorem dX12_readsGround_150 : decode cX12_readsGround 150 = .ok (.istore 5, 2) := by decide +kernel
theorem dX12_readsGround_152 : decode cX12_readsGround 152 = .ok (.aload_n 0, 1) := by decide +kernel
theorem dX12_readsGround_153 : decode cX12_readsGround 153 = .ok (.iconst 0, 1) := by decide +kernel
theorem dX12_readsGround_154 : decode cX12_readsGround 154 = .ok (.putfield 153, 3) := by decide +kernel
theorem dX12_readsGround_157 : decode cX12_readsGround 157 = .ok (.iload_n 1, 1) := by decide +kernel
theorem dX12_readsGround_158 : decode cX12_readsGround 158 = .ok (.bipush 126, 2) := by decide +kernel
theorem dX12_readsGround_160 : decode cX12_readsGround 160 = .ok (.if_icmp .eq 21, 3) := by decide +kernel
theorem dX12_readsGround_163 : decode cX12_readsGround 163 = .ok (.aload_n 0, 1) := by decide +kernel
theorem dX12_readsGround_164 : decode cX12_readsGround 164 = .ok (.bipush 61, 2) := by decide +kernel
theorem dX12_readsGround_166 : decode cX12_readsGround 166 = .ok (.invokevirtual 227, 3) := by decide +kernel
theorem dX12_readsGround_169 : decode cX12_readsGround 169 = .ok (.ifCond .eq 10, 3) := by decide +kernel
theorem dX12_readsGround_172 : decode cX12_readsGround 172 = .ok (.aload_n 0, 1) := by decide +kernel
theorem dX12_readsGround_173 : decode cX12_readsGround 173 = .ok (.invokevirtual 268, 3) := by decide +kernel
theorem dX12_readsGround_176 : decode cX12_readsGround 176 = .ok (.ifCond .ne 5, 3) := by decide +kernel
theorem dX12_readsGround_179 : decode cX12_readsGround 179 = .ok (.iconst 0, 1) := by decide +kernel
theorem dX12_readsGround_180 : decode cX12_readsGround 180 = .ok (.ireturn, 1) := by decide +kernel
theorem dX12_readsGround_181 : decode cX12_readsGround 181 = .ok (.iconst 0, 1) := by decide +kernel
theorem dX12_readsGround_182 : decode cX12_readsGround 182 = .ok (.istore 6, 2) := by decide +kernel
theorem dX12_readsGround_184 : decode cX12_readsGround 184 = .ok (.iload 6, 2) := by decide +kernel
theorem dX12_readsGround_186 : decode cX12_readsGround 186 = .ok (.sipush 192, 3) := by decide +kernel
theorem dX12_readsGround_189 : decode cX12_readsGround 189 = .ok (.if_icmp .ge 82, 3) := by decide +kernel
theorem dX12_readsGround_192 : decode cX12_readsGround 192 = .ok (.iload 6, 2) := by decide +kernel
theorem dX12_readsGround_194 : decode cX12_readsGround 194 = .ok (.bipush 16, 2) := by decide +kernel
theorem dX12_readsGround_196 : decode cX12_readsGround 196 = .ok (.irem, 1) := by decide +kernel
theorem dX12_readsGround_197 : decode cX12_readsGround 197 = .ok (.iload_n 2, 1) := by decide +kernel
theorem dX12_readsGround_198 : decode cX12_readsGround 198 = .ok (.iload_n 2, 1) := by decide +kernel
theorem dX12_readsGround_199 : decode cX12_readsGround 199 = .ok (.iload 4, 2) := by decide +kernel
theorem dX12_readsGround_201 : decode cX12_readsGround 201 = .ok (.iadd, 1) := by decide +kernel
theorem dX12_readsGround_202 : decode cX12_readsGround 202 = .ok (.iconst 1, 1) := by decide +kernel
theorem dX12_readsGround_203 : decode cX12_readsGround 203 = .ok (.isub, 1) := by decide +kernel
theorem dX12_readsGround_204 : decode cX12_readsGround 204 = .ok (.invokestatic 118, 3) := by decide +kernel
theorem dX12_readsGround_207 : decode cX12_readsGround 207 = .ok (.ifCond .eq 58, 3) := by decide +kernel
theorem dX12_readsGround_210 : decode cX12_readsGround 210 = .ok (.iload 6, 2) := by decide +kernel
theorem dX12_readsGround_212 : decode cX12_readsGround 212 = .ok (.bipush 16, 2) := by decide +kernel
theorem dX12_readsGround_214 : decode cX12_readsGround 214 = .ok (.idiv, 1) := by decide +kernel
theorem dX12_readsGround_215 : decode cX12_readsGround 215 = .ok (.iload_n 3, 1) := by decide +kernel
theorem dX12_readsGround_216 : decode cX12_readsGround 216 = .ok (.iload_n 3, 1) := by decide +kernel
theorem dX12_readsGround_217 : decode cX12_readsGround 217 = .ok (.iload 5, 2) := by decide +kernel
theorem dX12_readsGround_219 : decode cX12_readsGround 219 = .ok (.iadd, 1) := by decide +kernel
theorem dX12_readsGround_220 : decode cX12_readsGround 220 = .ok (.iconst 1, 1) := by decide +kernel
theorem dX12_readsGround_221 : decode cX12_readsGround 221 = .ok (.isub, 1) := by decide +kernel
theorem dX12_readsGround_222 : decode cX12_readsGround 222 = .ok (.invokestatic 118, 3) := by decide +kernel
theorem dX12_readsGround_225 : decode cX12_readsGround 225 = .ok (.ifCond .ne 6, 3) := by decide +kernel
theorem dX12_readsGround_228 : decode cX12_readsGround 228 = .ok (.goto 37, 3) := by decide +kernel
theorem dX12_readsGround_231 : decode cX12_readsGround 231 = .ok (.aload_n 0, 1) := by decide +kernel
theorem dX12_readsGround_232 : decode cX12_readsGround 232 = .ok (.getfield 92, 3) := by decide +kernel
theorem dX12_readsGround_235 : decode cX12_readsGround 235 = .ok (.iload 6, 2) := by decide +kernel
theorem dX12_readsGround_237 : decode cX12_readsGround 237 = .ok (.iload_n 1, 1) := by decide +kernel
theorem dX12_readsGround_238 : decode cX12_readsGround 238 = .ok (.bipush 126, 2) := by decide +kernel
theorem dX12_readsGround_240 : decode cX12_readsGround 240 = .ok (.if_icmp .ne 7, 3) := by decide +kernel
theorem dX12_readsGround_243 : decode cX12_readsGround 243 = .ok (.iconst 1, 1) := by decide +kernel
theorem dX12_readsGround_244 : decode cX12_readsGround 244 = .ok (.goto 9, 3) := by decide +kernel
theorem dX12_readsGround_247 : decode cX12_readsGround 247 = .ok (.iload_n 1, 1) := by decide +kernel
theorem dX12_readsGround_248 : decode cX12_readsGround 248 = .ok (.bipush 97, 2) := by decide +kernel
theorem dX12_readsGround_250 : decode cX12_readsGround 250 = .ok (.isub, 1) := by decide +kernel
theorem dX12_readsGround_251 : decode cX12_readsGround 251 = .ok (.iconst 2, 1) := by decide +kernel
theorem dX12_readsGround_252 : decode cX12_readsGround 252 = .ok (.iadd, 1) := by decide +kernel
theorem dX12_readsGround_253 : decode cX12_readsGround 253 = .ok (.iastore, 1) := by decide +kernel
theorem dX12_readsGround_254 : decode cX12_readsGround 254 = .ok (.aload_n 0, 1) := by decide +kernel
theorem dX12_readsGround_255 : decode cX12_readsGround 255 = .ok (.getfield 95, 3) := by decide +kernel
theorem dX12_readsGround_258 : decode cX12_readsGround 258 = .ok (.iload 6, 2) := by decide +kernel
theorem dX12_readsGround_260 : decode cX12_readsGround 260 = .ok (.aload_n 0, 1) := by decide +kernel
theorem dX12_readsGround_261 : decode cX12_readsGround 261 = .ok (.getfield 153, 3) := by decide +kernel
theorem dX12_readsGround_264 : decode cX12_readsGround 264 = .ok (.iastore, 1) := by decide +kernel
theorem dX12_readsGround_265 : decode cX12_readsGround 265 = .ok (.iinc 6 1, 3) := by decide +kernel
theorem dX12_readsGround_268 : decode cX12_readsGround 268 = .ok (.goto (-84), 3) := by decide +kernel
theorem dX12_readsGround_271 : decode cX12_readsGround 271 = .ok (.iconst 1, 1) := by decide +kernel
theorem dX12_readsGround_272 : decode cX12_readsGround 272 = .ok (.ireturn, 1) := by decide +kernel
theorem dX12_land_0 : decode cX12_land 0 = .ok (.iload_n 1, 1) := by decide +kernel
theorem dX12_land_1 : decode cX12_land 1 = .ok (.iconst 1, 1) := by decide +kernel
theorem dX12_land_2 : decode cX12_land 2 = .ok (.sipush 160, 3) := by decide +kernel
theorem dX12_land_5 : decode cX12_land 5 = .ok (.invokestatic 118, 3) := by decide +kernel
theorem dX12_land_8 : decode cX12_land 8 = .ok (.ifCond .eq 11, 3) := by decide +kernel
theorem dX12_land_11 : decode cX12_land 11 = .ok (.iload_n 1, 1) := by decide +kernel
theorem dX12_land_12 : decode cX12_land 12 = .ok (.aload_n 0, 1) := by decide +kernel
theorem dX12_land_13 : decode cX12_land 13 = .ok (.getfield 130, 3) := by decide +kernel
theorem dX12_land_16 : decode cX12_land 16 = .ok (.if_icmp .le 5, 3) := by decide +kernel
theorem dX12_land_19 : decode cX12_land 19 = .ok (.iconst (-1), 1) := by decide +kernel
theorem dX12_land_20 : decode cX12_land 20 = .ok (.ireturn, 1) := by decide +kernel
theorem dX12_land_21 : decode cX12_land 21 = .ok (.aload_n 0, 1) := by decide +kernel
theorem dX12_land_22 : decode cX12_land 22 = .ok (.iload_n 1, 1) := by decide +kernel
theorem dX12_land_23 : decode cX12_land 23 = .ok (.invokevirtual 221, 3) := by decide +kernel
theorem dX12_land_26 : decode cX12_land 26 = .ok (.aload_n 0, 1) := by decide +kernel
theorem dX12_land_27 : decode cX12_land 27 = .ok (.iconst 0, 1) := by decide +kernel
theorem dX12_land_28 : decode cX12_land 28 = .ok (.putfield 271, 3) := by decide +kernel
theorem dX12_land_31 : decode cX12_land 31 = .ok (.iconst 0, 1) := by decide +kernel
theorem dX12_land_32 : decode cX12_land 32 = .ok (.istore_n 2, 1) := by decide +kernel
theorem dX12_land_33 : decode cX12_land 33 = .ok (.iload_n 2, 1) := by decide +kernel
theorem dX12_land_34 : decode cX12_land 34 = .ok (.sipush 192, 3) := by decide +kernel
theorem dX12_land_37 : decode cX12_land 37 = .ok (.if_icmp .ge 23, 3) := by decide +kernel
theorem dX12_land_40 : decode cX12_land 40 = .ok (.aload_n 0, 1) := by decide +kernel
theorem dX12_land_41 : decode cX12_land 41 = .ok (.getfield 92, 3) := by decide +kernel
theorem dX12_land_44 : decode cX12_land 44 = .ok (.iload_n 2, 1) := by decide +kernel
theorem dX12_land_45 : decode cX12_land 45 = .ok (.iconst 0, 1) := by decide +kernel
theorem dX12_land_46 : decode cX12_land 46 = .ok (.iastore, 1) := by decide +kernel
theorem dX12_land_47 : decode cX12_land 47 = .ok (.aload_n 0, 1) := by decide +kernel
theorem dX12_land_48 : decode cX12_land 48 = .ok (.getfield 95, 3) := by decide +kernel
theorem dX12_land_51 : decode cX12_land 51 = .ok (.iload_n 2, 1) := by decide +kernel
theorem dX12_land_52 : decode cX12_land 52 = .ok (.iconst 0, 1) := by decide +kernel
theorem dX12_land_53 : decode cX12_land 53 = .ok (.iastore, 1) := by decide +kernel
theorem dX12_land_54 : decode cX12_land 54 = .ok (.iinc 2 1, 3) := by decide +kernel
theorem dX12_land_57 : decode cX12_land 57 = .ok (.goto (-24), 3) := by decide +kernel
theorem dX12_land_60 : decode cX12_land 60 = .ok (.aload_n 0, 1) := by decide +kernel
theorem dX12_land_61 : decode cX12_land 61 = .ok (.invokevirtual 277, 3) := by decide +kernel
theorem dX12_land_64 : decode cX12_land 64 = .ok (.istore_n 2, 1) := by decide +kernel
theorem dX12_land_65 : decode cX12_land 65 = .ok (.iload_n 2, 1) := by decide +kernel
theorem dX12_land_66 : decode cX12_land 66 = .ok (.ifCond .eq 39, 3) := by decide +kernel
theorem dX12_land_69 : decode cX12_land 69 = .ok (.aload_n 0, 1) := by decide +kernel
theorem dX12_land_70 : decode cX12_land 70 = .ok (.getfield 137, 3) := by decide +kernel
theorem dX12_land_73 : decode cX12_land 73 = .ok (.aload_n 0, 1) := by decide +kernel
theorem dX12_land_74 : decode cX12_land 74 = .ok (.getfield 140, 3) := by decide +kernel
theorem dX12_land_77 : decode cX12_land 77 = .ok (.if_icmp .ge 28, 3) := by decide +kernel
theorem dX12_land_80 : decode cX12_land 80 = .ok (.aload_n 0, 1) := by decide +kernel
theorem dX12_land_81 : decode cX12_land 81 = .ok (.bipush 59, 2) := by decide +kernel
theorem dX12_land_83 : decode cX12_land 83 = .ok (.invokevirtual 227, 3) := by decide +kernel
theorem dX12_land_86 : decode cX12_land 86 = .ok (.ifCond .eq 14, 3) := by decide +kernel
theorem dX12_land_89 : decode cX12_land 89 = .ok (.aload_n 0, 1) := by decide +kernel
theorem dX12_land_90 : decode cX12_land 90 = .ok (.invokevirtual 277, 3) := by decide +kernel
theorem dX12_land_93 : decode cX12_land 93 = .ok (.ifCond .eq 7, 3) := by decide +kernel
theorem dX12_land_96 : decode cX12_land 96 = .ok (.iconst 1, 1) := by decide +kernel
theorem dX12_land_97 : decode cX12_land 97 = .ok (.goto 4, 3) := by decide +kernel
theorem dX12_land_100 : decode cX12_land 100 = .ok (.iconst 0, 1) := by decide +kernel
theorem dX12_land_101 : decode cX12_land 101 = .ok (.istore_n 2, 1) := by decide +kernel
theorem dX12_land_102 : decode cX12_land 102 = .ok (.goto (-37), 3) := by decide +kernel
theorem dX12_land_105 : decode cX12_land 105 = .ok (.aload_n 0, 1) := by decide +kernel
theorem dX12_land_106 : decode cX12_land 106 = .ok (.iconst 0, 1) := by decide +kernel
theorem dX12_land_107 : decode cX12_land 107 = .ok (.putfield 130, 3) := by decide +kernel
theorem dX12_land_110 : decode cX12_land 110 = .ok (.iload_n 2, 1) := by decide +kernel
theorem dX12_land_111 : decode cX12_land 111 = .ok (.ifCond .ne 8, 3) := by decide +kernel
theorem dX12_land_114 : decode cX12_land 114 = .ok (.aload_n 0, 1) := by decide +kernel
theorem dX12_land_115 : decode cX12_land 115 = .ok (.getfield 147, 3) := by decide +kernel
theorem dX12_land_118 : decode cX12_land 118 = .ok (.ireturn, 1) := by decide +kernel
theorem dX12_land_119 : decode cX12_land 119 = .ok (.aload_n 0, 1) := by decide +kernel
theorem dX12_land_120 : decode cX12_land 120 = .ok (.aload_n 0, 1) := by decide +kernel
theorem dX12_land_121 : decode cX12_land 121 = .ok (.getfield 271, 3) := by decide +kernel
theorem dX12_land_124 : decode cX12_land 124 = .ok (.putfield 280, 3) := by decide +kernel
theorem dX12_land_127 : decode cX12_land 127 = .ok (.iconst 0, 1) := by decide +kernel
theorem dX12_land_128 : decode cX12_land 128 = .ok (.istore_n 3, 1) := by decide +kernel
theorem dX12_land_129 : decode cX12_land 129 = .ok (.iload_n 3, 1) := by decide +kernel
theorem dX12_land_130 : decode cX12_land 130 = .ok (.sipush 192, 3) := by decide +kernel
theorem dX12_land_133 : decode cX12_land 133 = .ok (.if_icmp .ge 33, 3) := by decide +kernel
theorem dX12_land_136 : decode cX12_land 136 = .ok (.aload_n 0, 1) := by decide +kernel
theorem dX12_land_137 : decode cX12_land 137 = .ok (.getfield 31, 3) := by decide +kernel
theorem dX12_land_140 : decode cX12_land 140 = .ok (.iload_n 3, 1) := by decide +kernel
theorem dX12_land_141 : decode cX12_land 141 = .ok (.aload_n 0, 1) := by decide +kernel
theorem dX12_land_142 : decode cX12_land 142 = .ok (.getfield 92, 3) := by decide +kernel
theorem dX12_land_145 : decode cX12_land 145 = .ok (.iload_n 3, 1) := by decide +kernel
theorem dX12_land_146 : decode cX12_land 146 = .ok (.iaload, 1) := by decide +kernel
theorem dX12_land_147 : decode cX12_land 147 = .ok (.iastore, 1) := by decide +kernel
theorem dX12_land_148 : decode cX12_land 148 = .ok (.aload_n 0, 1) := by decide +kernel
theorem dX12_land_149 : decode cX12_land 149 = .ok (.getfield 34, 3) := by decide +kernel
theorem dX12_land_152 : decode cX12_land 152 = .ok (.iload_n 3, 1) := by decide +kernel
theorem dX12_land_153 : decode cX12_land 153 = .ok (.aload_n 0, 1) := by decide +kernel
theorem dX12_land_154 : decode cX12_land 154 = .ok (.getfield 95, 3) := by decide +kernel
theorem dX12_land_157 : decode cX12_land 157 = .ok (.iload_n 3, 1) := by decide +kernel
theorem dX12_land_158 : decode cX12_land 158 = .ok (.iaload, 1) := by decide +kernel
theorem dX12_land_159 : decode cX12_land 159 = .ok (.iastore, 1) := by decide +kernel
theorem dX12_land_160 : decode cX12_land 160 = .ok (.iinc 3 1, 3) := by decide +kernel
theorem dX12_land_163 : decode cX12_land 163 = .ok (.goto (-34), 3) := by decide +kernel
theorem dX12_land_166 : decode cX12_land 166 = .ok (.aload_n 0, 1) := by decide +kernel
theorem dX12_land_167 : decode cX12_land 167 = .ok (.getfield 271, 3) := by decide +kernel
theorem dX12_land_170 : decode cX12_land 170 = .ok (.ireturn, 1) := by decide +kernel
theorem dX12_landAt_0 : decode cX12_landAt 0 = .ok (.iload_n 1, 1) := by decide +kernel
theorem dX12_landAt_1 : decode cX12_landAt 1 = .ok (.iload_n 2, 1) := by decide +kernel
theorem dX12_landAt_2 : decode cX12_landAt 2 = .ok (.invokestatic 126, 3) := by decide +kernel
theorem dX12_landAt_5 : decode cX12_landAt 5 = .ok (.ifCond .eq 17, 3) := by decide +kernel
theorem dX12_landAt_8 : decode cX12_landAt 8 = .ok (.aload_n 0, 1) := by decide +kernel
theorem dX12_landAt_9 : decode cX12_landAt 9 = .ok (.getfield 31, 3) := by decide +kernel
theorem dX12_landAt_12 : decode cX12_landAt 12 = .ok (.bipush 16, 2) := by decide +kernel
theorem dX12_landAt_14 : decode cX12_landAt 14 = .ok (.iload_n 2, 1) := by decide +kernel
theorem dX12_landAt_15 : decode cX12_landAt 15 = .ok (.imul, 1) := by decide +kernel
theorem dX12_landAt_16 : decode cX12_landAt 16 = .ok (.iload_n 1, 1) := by decide +kernel
theorem dX12_landAt_17 : decode cX12_landAt 17 = .ok (.iadd, 1) := by decide +kernel
theorem dX12_landAt_18 : decode cX12_landAt 18 = .ok (.iaload, 1) := by decide +kernel
theorem dX12_landAt_19 : decode cX12_landAt 19 = .ok (.goto 4, 3) := by decide +kernel
theorem dX12_landAt_22 : decode cX12_landAt 22 = .ok (.iconst (-1), 1) := by decide +kernel
theorem dX12_landAt_23 : decode cX12_landAt 23 = .ok (.ireturn, 1) := by decide +kernel
theorem dX12_strengthOf_0 : decode cX12_strengthOf 0 = .ok (.aload_n 0, 1) := by decide +kernel
theorem dX12_strengthOf_1 : decode cX12_strengthOf 1 = .ok (.getfield 7, 3) := by decide +kernel
theorem dX12_strengthOf_4 : decode cX12_strengthOf 4 = .ok (.bipush 30, 2) := by decide +kernel
theorem dX12_strengthOf_6 : decode cX12_strengthOf 6 = .ok (.iaload, 1) := by decide +kernel
theorem dX12_strengthOf_7 : decode cX12_strengthOf 7 = .ok (.aload_n 0, 1) := by decide +kernel
theorem dX12_strengthOf_8 : decode cX12_strengthOf 8 = .ok (.getfield 22, 3) := by decide +kernel
theorem dX12_strengthOf_11 : decode cX12_strengthOf 11 = .ok (.iload_n 1, 1) := by decide +kernel
theorem dX12_strengthOf_12 : decode cX12_strengthOf 12 = .ok (.iaload, 1) := by decide +kernel
theorem dX12_strengthOf_13 : decode cX12_strengthOf 13 = .ok (.isub, 1) := by decide +kernel
theorem dX12_strengthOf_14 : decode cX12_strengthOf 14 = .ok (.iload_n 2, 1) := by decide +kernel
theorem dX12_strengthOf_15 : decode cX12_strengthOf 15 = .ok (.isub, 1) := by decide +kernel
theorem dX12_strengthOf_16 : decode cX12_strengthOf 16 = .ok (.istore_n 3, 1) := by decide +kernel
theorem dX12_strengthOf_17 : decode cX12_strengthOf 17 = .ok (.iload_n 3, 1) := by decide +kernel
theorem dX12_strengthOf_18 : decode cX12_strengthOf 18 = .ok (.ifCond .lt 23, 3) := by decide +kernel
theorem dX12_strengthOf_21 : decode cX12_strengthOf 21 = .ok (.aload_n 0, 1) := by decide +kernel
theorem dX12_strengthOf_22 : decode cX12_strengthOf 22 = .ok (.getfield 31, 3) := by decide +kernel
theorem dX12_strengthOf_25 : decode cX12_strengthOf 25 = .ok (.aload_n 0, 1) := by decide +kernel
theorem dX12_strengthOf_26 : decode cX12_strengthOf 26 = .ok (.getfield 28, 3) := by decide +kernel
theorem dX12_strengthOf_29 : decode cX12_strengthOf 29 = .ok (.bipush 97, 2) := by decide +kernel
theorem dX12_strengthOf_31 : decode cX12_strengthOf 31 = .ok (.iload_n 1, 1) := by decide +kernel
theorem dX12_strengthOf_32 : decode cX12_strengthOf 32 = .ok (.imul, 1) := by decide +kernel
theorem dX12_strengthOf_33 : decode cX12_strengthOf 33 = .ok (.iload_n 2, 1) := by decide +kernel
theorem dX12_strengthOf_34 : decode cX12_strengthOf 34 = .ok (.iadd, 1) := by decide +kernel
theorem dX12_strengthOf_35 : decode cX12_strengthOf 35 = .ok (.iaload, 1) := by decide +kernel
theorem dX12_strengthOf_36 : decode cX12_strengthOf 36 = .ok (.iaload, 1) := by decide +kernel
theorem dX12_strengthOf_37 : decode cX12_strengthOf 37 = .ok (.iconst 1, 1) := by decide +kernel
theorem dX12_strengthOf_38 : decode cX12_strengthOf 38 = .ok (.if_icmp .ne 5, 3) := by decide +kernel
theorem dX12_strengthOf_41 : decode cX12_strengthOf 41 = .ok (.iconst 0, 1) := by decide +kernel
theorem dX12_strengthOf_42 : decode cX12_strengthOf 42 = .ok (.ireturn, 1) := by decide +kernel
theorem dX12_strengthOf_43 : decode cX12_strengthOf 43 = .ok (.iconst 0, 1) := by decide +kernel
theorem dX12_strengthOf_44 : decode cX12_strengthOf 44 = .ok (.bipush 99, 2) := by decide +kernel
theorem dX12_strengthOf_46 : decode cX12_strengthOf 46 = .ok (.iload_n 3, 1) := by decide +kernel
theorem dX12_strengthOf_47 : decode cX12_strengthOf 47 = .ok (.aload_n 0, 1) := by decide +kernel
theorem dX12_strengthOf_48 : decode cX12_strengthOf 48 = .ok (.getfield 114, 3) := by decide +kernel
theorem dX12_strengthOf_51 : decode cX12_strengthOf 51 = .ok (.imul, 1) := by decide +kernel
theorem dX12_strengthOf_52 : decode cX12_strengthOf 52 = .ok (.isub, 1) := by decide +kernel
theorem dX12_strengthOf_53 : decode cX12_strengthOf 53 = .ok (.invokestatic 283, 3) := by decide +kernel
theorem dX12_strengthOf_56 : decode cX12_strengthOf 56 = .ok (.ireturn, 1) := by decide +kernel
theorem dX12_houndsAt_0 : decode cX12_houndsAt 0 = .ok (.iconst 0, 1) := by decide +kernel
theorem dX12_houndsAt_1 : decode cX12_houndsAt 1 = .ok (.istore_n 2, 1) := by decide +kernel
theorem dX12_houndsAt_2 : decode cX12_houndsAt 2 = .ok (.iconst 0, 1) := by decide +kernel
theorem dX12_houndsAt_3 : decode cX12_houndsAt 3 = .ok (.istore_n 3, 1) := by decide +kernel
theorem dX12_houndsAt_4 : decode cX12_houndsAt 4 = .ok (.iload_n 3, 1) := by decide +kernel
theorem dX12_houndsAt_5 : decode cX12_houndsAt 5 = .ok (.bipush 6, 2) := by decide +kernel
theorem dX12_houndsAt_7 : decode cX12_houndsAt 7 = .ok (.if_icmp .ge 34, 3) := by decide +kernel
theorem dX12_houndsAt_10 : decode cX12_houndsAt 10 = .ok (.aload_n 0, 1) := by decide +kernel
theorem dX12_houndsAt_11 : decode cX12_houndsAt 11 = .ok (.iload_n 3, 1) := by decide +kernel
theorem dX12_houndsAt_12 : decode cX12_houndsAt 12 = .ok (.invokevirtual 286, 3) := by decide +kernel
theorem dX12_houndsAt_15 : decode cX12_houndsAt 15 = .ok (.ifCond .eq 20, 3) := by decide +kernel
theorem dX12_houndsAt_18 : decode cX12_houndsAt 18 = .ok (.aload_n 0, 1) := by decide +kernel
theorem dX12_houndsAt_19 : decode cX12_houndsAt 19 = .ok (.getfield 7, 3) := by decide +kernel
theorem dX12_houndsAt_22 : decode cX12_houndsAt 22 = .ok (.bipush 6, 2) := by decide +kernel
theorem dX12_houndsAt_24 : decode cX12_houndsAt 24 = .ok (.iload_n 3, 1) := by decide +kernel
theorem dX12_houndsAt_25 : decode cX12_houndsAt 25 = .ok (.iadd, 1) := by decide +kernel
theorem dX12_houndsAt_26 : decode cX12_houndsAt 26 = .ok (.iaload, 1) := by decide +kernel
theorem dX12_houndsAt_27 : decode cX12_houndsAt 27 = .ok (.iload_n 1, 1) := by decide +kernel
theorem dX12_houndsAt_28 : decode cX12_houndsAt 28 = .ok (.if_icmp .ne 7, 3) := by decide +kernel
theorem dX12_houndsAt_31 : decode cX12_houndsAt 31 = .ok (.iload_n 2, 1) := by decide +kernel
theorem dX12_houndsAt_32 : decode cX12_houndsAt 32 = .ok (.iconst 1, 1) := by decide +kernel
theorem dX12_houndsAt_33 : decode cX12_houndsAt 33 = .ok (.iadd, 1) := by decide +kernel
theorem dX12_houndsAt_34 : decode cX12_houndsAt 34 = .ok (.istore_n 2, 1) := by decide +kernel
theorem dX12_houndsAt_35 : decode cX12_houndsAt 35 = .ok (.iinc 3 1, 3) := by decide +kernel
theorem dX12_houndsAt_38 : decode cX12_houndsAt 38 = .ok (.goto (-34), 3) := by decide +kernel
theorem dX12_houndsAt_41 : decode cX12_houndsAt 41 = .ok (.iload_n 2, 1) := by decide +kernel
theorem dX12_houndsAt_42 : decode cX12_houndsAt 42 = .ok (.ireturn, 1) := by decide +kernel
theorem dX12_feels_0 : decode cX12_feels 0 = .ok (.iconst 0, 1) := by decide +kernel
theorem dX12_feels_1 : decode cX12_feels 1 = .ok (.istore_n 2, 1) := by decide +kernel
theorem dX12_feels_2 : decode cX12_feels 2 = .ok (.iload_n 2, 1) := by decide +kernel
theorem dX12_feels_3 : decode cX12_feels 3 = .ok (.bipush 8, 2) := by decide +kernel
theorem dX12_feels_5 : decode cX12_feels 5 = .ok (.if_icmp .ge 16, 3) := by decide +kernel
theorem dX12_feels_8 : decode cX12_feels 8 = .ok (.aload_n 0, 1) := by decide +kernel
theorem dX12_feels_9 : decode cX12_feels 9 = .ok (.getfield 77, 3) := by decide +kernel
theorem dX12_feels_12 : decode cX12_feels 12 = .ok (.iload_n 2, 1) := by decide +kernel
theorem dX12_feels_13 : decode cX12_feels 13 = .ok (.iconst 0, 1) := by decide +kernel
theorem dX12_feels_14 : decode cX12_feels 14 = .ok (.iastore, 1) := by decide +kernel
theorem dX12_feels_15 : decode cX12_feels 15 = .ok (.iinc 2 1, 3) := by decide +kernel
theorem dX12_feels_18 : decode cX12_feels 18 = .ok (.goto (-16), 3) := by decide +kernel
theorem dX12_feels_21 : decode cX12_feels 21 = .ok (.aload_n 0, 1) := by decide +kernel
theorem dX12_feels_22 : decode cX12_feels 22 = .ok (.getfield 77, 3) := by decide +kernel
theorem dX12_feels_25 : decode cX12_feels 25 = .ok (.iconst 0, 1) := by decide +kernel
theorem dX12_feels_26 : decode cX12_feels 26 = .ok (.iload_n 1, 1) := by decide +kernel
theorem dX12_feels_27 : decode cX12_feels 27 = .ok (.iastore, 1) := by decide +kernel
theorem dX12_feels_28 : decode cX12_feels 28 = .ok (.aload_n 0, 1) := by decide +kernel
theorem dX12_feels_29 : decode cX12_feels 29 = .ok (.getfield 77, 3) := by decide +kernel
theorem dX12_feels_32 : decode cX12_feels 32 = .ok (.iconst 5, 1) := by decide +kernel
theorem dX12_feels_33 : decode cX12_feels 33 = .ok (.aload_n 0, 1) := by decide +kernel
theorem dX12_feels_34 : decode cX12_feels 34 = .ok (.getfield 7, 3) := by decide +kernel
theorem dX12_feels_37 : decode cX12_feels 37 = .ok (.bipush 18, 2) := by decide +kernel
theorem dX12_feels_39 : decode cX12_feels 39 = .ok (.iload_n 1, 1) := by decide +kernel
theorem dX12_feels_40 : decode cX12_feels 40 = .ok (.iadd, 1) := by decide +kernel
theorem dX12_feels_41 : decode cX12_feels 41 = .ok (.iaload, 1) := by decide +kernel
theorem dX12_feels_42 : decode cX12_feels 42 = .ok (.iastore, 1) := by decide +kernel
theorem dX12_feels_43 : decode cX12_feels 43 = .ok (.aload_n 0, 1) := by decide +kernel
theorem dX12_feels_44 : decode cX12_feels 44 = .ok (.getfield 77, 3) := by decide +kernel
theorem dX12_feels_47 : decode cX12_feels 47 = .ok (.bipush 6, 2) := by decide +kernel
theorem dX12_feels_49 : decode cX12_feels 49 = .ok (.aload_n 0, 1) := by decide +kernel
theorem dX12_feels_50 : decode cX12_feels 50 = .ok (.aload_n 0, 1) := by decide +kernel
theorem dX12_feels_51 : decode cX12_feels 51 = .ok (.getfield 7, 3) := by decide +kernel
theorem dX12_feels_54 : decode cX12_feels 54 = .ok (.bipush 6, 2) := by decide +kernel
theorem dX12_feels_56 : decode cX12_feels 56 = .ok (.iload_n 1, 1) := by decide +kernel
theorem dX12_feels_57 : decode cX12_feels 57 = .ok (.iadd, 1) := by decide +kernel
theorem dX12_feels_58 : decode cX12_feels 58 = .ok (.iaload, 1) := by decide +kernel
theorem dX12_feels_59 : decode cX12_feels 59 = .ok (.invokevirtual 289, 3) := by decide +kernel
theorem dX12_feels_62 : decode cX12_feels 62 = .ok (.iastore, 1) := by decide +kernel
theorem dX12_feels_63 : decode cX12_feels 63 = .ok (.aload_n 0, 1) := by decide +kernel
theorem dX12_feels_64 : decode cX12_feels 64 = .ok (.getfield 77, 3) := by decide +kernel
theorem dX12_feels_67 : decode cX12_feels 67 = .ok (.bipush 7, 2) := by decide +kernel
theorem dX12_feels_69 : decode cX12_feels 69 = .ok (.aload_n 0, 1) := by decide +kernel
theorem dX12_feels_70 : decode cX12_feels 70 = .ok (.getfield 7, 3) := by decide +kernel
theorem dX12_feels_73 : decode cX12_feels 73 = .ok (.bipush 30, 2) := by decide +kernel
theorem dX12_feels_75 : decode cX12_feels 75 = .ok (.iaload, 1) := by decide +kernel
theorem dX12_feels_76 : decode cX12_feels 76 = .ok (.bipush 100, 2) := by decide +kernel
theorem dX12_feels_78 : decode cX12_feels 78 = .ok (.irem, 1) := by decide +kernel
theorem dX12_feels_79 : decode cX12_feels 79 = .ok (.iastore, 1) := by decide +kernel
theorem dX12_feels_80 : decode cX12_feels 80 = .ok (.return_, 1) := by decide +kernel
theorem dX12_feelsScent_0 : decode cX12_feelsScent 0 = .ok (.aload_n 0, 1) := by decide +kernel
theorem dX12_feelsScent_1 : decode cX12_feelsScent 1 = .ok (.iload_n 1, 1) := by decide +kernel
theorem dX12_feelsScent_2 : decode cX12_feelsScent 2 = .ok (.invokevirtual 292, 3) := by decide +kernel
theorem dX12_feelsScent_5 : decode cX12_feelsScent 5 = .ok (.aload_n 0, 1) := by decide +kernel
theorem dX12_feelsScent_6 : decode cX12_feelsScent 6 = .ok (.getfield 22, 3) := by decide +kernel
theorem dX12_feelsScent_9 : decode cX12_feelsScent 9 = .ok (.iload_n 2, 1) := by decide +kernel
theorem dX12_feelsScent_10 : decode cX12_feelsScent 10 = .ok (.iaload, 1) := by decide +kernel
theorem dX12_feelsScent_11 : decode cX12_feelsScent 11 = .ok (.iload_n 3, 1) := by decide +kernel
theorem dX12_feelsScent_12 : decode cX12_feelsScent 12 = .ok (.iadd, 1) := by decide +kernel
theorem dX12_feelsScent_13 : decode cX12_feelsScent 13 = .ok (.istore 4, 2) := by decide +kernel
theorem dX12_feelsScent_15 : decode cX12_feelsScent 15 = .ok (.aload_n 0, 1) := by decide +kernel
theorem dX12_feelsScent_16 : decode cX12_feelsScent 16 = .ok (.getfield 77, 3) := by decide +kernel
theorem dX12_feelsScent_19 : decode cX12_feelsScent 19 = .ok (.iconst 1, 1) := by decide +kernel
theorem dX12_feelsScent_20 : decode cX12_feelsScent 20 = .ok (.iload_n 2, 1) := by decide +kernel
theorem dX12_feelsScent_21 : decode cX12_feelsScent 21 = .ok (.iastore, 1) := by decide +kernel
theorem dX12_feelsScent_22 : decode cX12_feelsScent 22 = .ok (.aload_n 0, 1) := by decide +kernel
theorem dX12_feelsScent_23 : decode cX12_feelsScent 23 = .ok (.getfield 77, 3) := by decide +kernel
theorem dX12_feelsScent_26 : decode cX12_feelsScent 26 = .ok (.iconst 2, 1) := by decide +kernel
theorem dX12_feelsScent_27 : decode cX12_feelsScent 27 = .ok (.aload_n 0, 1) := by decide +kernel
theorem dX12_feelsScent_28 : decode cX12_feelsScent 28 = .ok (.getfield 7, 3) := by decide +kernel
theorem dX12_feelsScent_31 : decode cX12_feelsScent 31 = .ok (.bipush 30, 2) := by decide +kernel
theorem dX12_feelsScent_33 : decode cX12_feelsScent 33 = .ok (.iaload, 1) := by decide +kernel
theorem dX12_feelsScent_34 : decode cX12_feelsScent 34 = .ok (.iload 4, 2) := by decide +kernel
theorem dX12_feelsScent_36 : decode cX12_feelsScent 36 = .ok (.isub, 1) := by decide +kernel
theorem dX12_feelsScent_37 : decode cX12_feelsScent 37 = .ok (.iastore, 1) := by decide +kernel
theorem dX12_feelsScent_38 : decode cX12_feelsScent 38 = .ok (.aload_n 0, 1) := by decide +kernel
theorem dX12_feelsScent_39 : decode cX12_feelsScent 39 = .ok (.getfield 77, 3) := by decide +kernel
theorem dX12_feelsScent_42 : decode cX12_feelsScent 42 = .ok (.iconst 3, 1) := by decide +kernel
theorem dX12_feelsScent_43 : decode cX12_feelsScent 43 = .ok (.aload_n 0, 1) := by decide +kernel
theorem dX12_feelsScent_44 : decode cX12_feelsScent 44 = .ok (.iload_n 2, 1) := by decide +kernel
theorem dX12_feelsScent_45 : decode cX12_feelsScent 45 = .ok (.iload_n 3, 1) := by decide +kernel
theorem dX12_feelsScent_46 : decode cX12_feelsScent 46 = .ok (.invokevirtual 295, 3) := by decide +kernel
theorem dX12_feelsScent_49 : decode cX12_feelsScent 49 = .ok (.iastore, 1) := by decide +kernel
theorem dX12_feelsScent_50 : decode cX12_feelsScent 50 = .ok (.aload_n 0, 1) := by decide +kernel
theorem dX12_feelsScent_51 : decode cX12_feelsScent 51 = .ok (.getfield 77, 3) := by decide +kernel
theorem dX12_feelsScent_54 : decode cX12_feelsScent 54 = .ok (.iconst 4, 1) := by decide +kernel
theorem dX12_feelsScent_55 : decode cX12_feelsScent 55 = .ok (.aload_n 0, 1) := by decide +kernel
theorem dX12_feelsScent_56 : decode cX12_feelsScent 56 = .ok (.getfield 7, 3) := by decide +kernel
theorem dX12_feelsScent_59 : decode cX12_feelsScent 59 = .ok (.bipush 12, 2) := by decide +kernel
theorem dX12_feelsScent_61 : decode cX12_feelsScent 61 = .ok (.iload_n 1, 1) := by decide +kernel
theorem dX12_feelsScent_62 : decode cX12_feelsScent 62 = .ok (.iadd, 1) := by decide +kernel
theorem dX12_feelsScent_63 : decode cX12_feelsScent 63 = .ok (.iaload, 1) := by decide +kernel
theorem dX12_feelsScent_64 : decode cX12_feelsScent 64 = .ok (.iload 4, 2) := by decide +kernel
theorem dX12_feelsScent_66 : decode cX12_feelsScent 66 = .ok (.isub, 1) := by decide +kernel
theorem dX12_feelsScent_67 : decode cX12_feelsScent 67 = .ok (.iastore, 1) := by decide +kernel
theorem dX12_feelsScent_68 : decode cX12_feelsScent 68 = .ok (.aload_n 0, 1) := by decide +kernel
theorem dX12_feelsScent_69 : decode cX12_feelsScent 69 = .ok (.getfield 77, 3) := by decide +kernel
theorem dX12_feelsScent_72 : decode cX12_feelsScent 72 = .ok (.bipush 6, 2) := by decide +kernel
theorem dX12_feelsScent_74 : decode cX12_feelsScent 74 = .ok (.aload_n 0, 1) := by decide +kernel
theorem dX12_feelsScent_75 : decode cX12_feelsScent 75 = .ok (.aload_n 0, 1) := by decide +kernel
theorem dX12_feelsScent_76 : decode cX12_feelsScent 76 = .ok (.getfield 28, 3) := by decide +kernel
theorem dX12_feelsScent_79 : decode cX12_feelsScent 79 = .ok (.bipush 97, 2) := by decide +kernel
theorem dX12_feelsScent_81 : decode cX12_feelsScent 81 = .ok (.iload_n 2, 1) := by decide +kernel
theorem dX12_feelsScent_82 : decode cX12_feelsScent 82 = .ok (.imul, 1) := by decide +kernel
theorem dX12_feelsScent_83 : decode cX12_feelsScent 83 = .ok (.iload_n 3, 1) := by decide +kernel
theorem dX12_feelsScent_84 : decode cX12_feelsScent 84 = .ok (.iadd, 1) := by decide +kernel
theorem dX12_feelsScent_85 : decode cX12_feelsScent 85 = .ok (.iaload, 1) := by decide +kernel
theorem dX12_feelsScent_86 : decode cX12_feelsScent 86 = .ok (.invokevirtual 289, 3) := by decide +kernel
theorem dX12_feelsScent_89 : decode cX12_feelsScent 89 = .ok (.iastore, 1) := by decide +kernel
theorem dX12_feelsScent_90 : decode cX12_feelsScent 90 = .ok (.return_, 1) := by decide +kernel
theorem dX12_isBetter_0 : decode cX12_isBetter 0 = .ok (.iload_n 1, 1) := by decide +kernel
theorem dX12_isBetter_1 : decode cX12_isBetter 1 = .ok (.aload_n 0, 1) := by decide +kernel
theorem dX12_isBetter_2 : decode cX12_isBetter 2 = .ok (.getfield 298, 3) := by decide +kernel
theorem dX12_isBetter_5 : decode cX12_isBetter 5 = .ok (.if_icmp .eq 17, 3) := by decide +kernel
theorem dX12_isBetter_8 : decode cX12_isBetter 8 = .ok (.iload_n 1, 1) := by decide +kernel
theorem dX12_isBetter_9 : decode cX12_isBetter 9 = .ok (.aload_n 0, 1) := by decide +kernel
theorem dX12_isBetter_10 : decode cX12_isBetter 10 = .ok (.getfield 298, 3) := by decide +kernel
theorem dX12_isBetter_13 : decode cX12_isBetter 13 = .ok (.if_icmp .le 7, 3) := by decide +kernel
theorem dX12_isBetter_16 : decode cX12_isBetter 16 = .ok (.iconst 1, 1) := by decide +kernel
theorem dX12_isBetter_17 : decode cX12_isBetter 17 = .ok (.goto 4, 3) := by decide +kernel
theorem dX12_isBetter_20 : decode cX12_isBetter 20 = .ok (.iconst 0, 1) := by decide +kernel
theorem dX12_isBetter_21 : decode cX12_isBetter 21 = .ok (.ireturn, 1) := by decide +kernel
theorem dX12_isBetter_22 : decode cX12_isBetter 22 = .ok (.iload_n 1, 1) := by decide +kernel
theorem dX12_isBetter_23 : decode cX12_isBetter 23 = .ok (.ifCond .ne 5, 3) := by decide +kernel
theorem dX12_isBetter_26 : decode cX12_isBetter 26 = .ok (.iconst 0, 1) := by decide +kernel
theorem dX12_isBetter_27 : decode cX12_isBetter 27 = .ok (.ireturn, 1) := by decide +kernel
theorem dX12_isBetter_28 : decode cX12_isBetter 28 = .ok (.iload_n 2, 1) := by decide +kernel
theorem dX12_isBetter_29 : decode cX12_isBetter 29 = .ok (.aload_n 0, 1) := by decide +kernel
theorem dX12_isBetter_30 : decode cX12_isBetter 30 = .ok (.getfield 301, 3) := by decide +kernel
theorem dX12_isBetter_33 : decode cX12_isBetter 33 = .ok (.if_icmp .gt 19, 3) := by decide +kernel
theorem dX12_isBetter_36 : decode cX12_isBetter 36 = .ok (.iload_n 2, 1) := by decide +kernel
theorem dX12_isBetter_37 : decode cX12_isBetter 37 = .ok (.aload_n 0, 1) := by decide +kernel
theorem dX12_isBetter_38 : decode cX12_isBetter 38 = .ok (.getfield 301, 3) := by decide +kernel
theorem dX12_isBetter_41 : decode cX12_isBetter 41 = .ok (.if_icmp .ne 15, 3) := by decide +kernel
theorem dX12_isBetter_44 : decode cX12_isBetter 44 = .ok (.iload_n 3, 1) := by decide +kernel
theorem dX12_isBetter_45 : decode cX12_isBetter 45 = .ok (.aload_n 0, 1) := by decide +kernel
theorem dX12_isBetter_46 : decode cX12_isBetter 46 = .ok (.getfield 304, 3) := by decide +kernel
theorem dX12_isBetter_49 : decode cX12_isBetter 49 = .ok (.if_icmp .ge 7, 3) := by decide +kernel
theorem dX12_isBetter_52 : decode cX12_isBetter 52 = .ok (.iconst 1, 1) := by decide +kernel
theorem dX12_isBetter_53 : decode cX12_isBetter 53 = .ok (.goto 4, 3) := by decide +kernel
theorem dX12_isBetter_56 : decode cX12_isBetter 56 = .ok (.iconst 0, 1) := by decide +kernel
theorem dX12_isBetter_57 : decode cX12_isBetter 57 = .ok (.ireturn, 1) := by decide +kernel
theorem dX12_asksScents_0 : decode cX12_asksScents 0 = .ok (.iconst 0, 1) := by decide +kernel
theorem dX12_asksScents_1 : decode cX12_asksScents 1 = .ok (.istore 5, 2) := by decide +kernel
theorem dX12_asksScents_3 : decode cX12_asksScents 3 = .ok (.iload 5, 2) := by decide +kernel
theorem dX12_asksScents_5 : decode cX12_asksScents 5 = .ok (.aload_n 0, 1) := by decide +kernel
theorem dX12_asksScents_6 : decode cX12_asksScents 6 = .ok (.getfield 19, 3) := by decide +kernel
theorem dX12_asksScents_9 : decode cX12_asksScents 9 = .ok (.iload_n 2, 1) := by decide +kernel
theorem dX12_asksScents_10 : decode cX12_asksScents 10 = .ok (.iaload, 1) := by decide +kernel
theorem dX12_asksScents_11 : decode cX12_asksScents 11 = .ok (.if_icmp .gt 121, 3) := by decide +kernel
theorem dX12_asksScents_14 : decode cX12_asksScents 14 = .ok (.aload_n 0, 1) := by decide +kernel
theorem dX12_asksScents_15 : decode cX12_asksScents 15 = .ok (.getfield 22, 3) := by decide +kernel
theorem dX12_asksScents_18 : decode cX12_asksScents 18 = .ok (.iload_n 2, 1) := by decide +kernel
theorem dX12_asksScents_19 : decode cX12_asksScents 19 = .ok (.iaload, 1) := by decide +kernel
theorem dX12_asksScents_20 : decode cX12_asksScents 20 = .ok (.iload 5, 2) := by decide +kernel
theorem dX12_asksScents_22 : decode cX12_asksScents 22 = .ok (.iadd, 1) := by decide +kernel
theorem dX12_asksScents_23 : decode cX12_asksScents 23 = .ok (.istore 6, 2) := by decide +kernel
theorem dX12_asksScents_25 : decode cX12_asksScents 25 = .ok (.aload_n 0, 1) := by decide +kernel
theorem dX12_asksScents_26 : decode cX12_asksScents 26 = .ok (.getfield 28, 3) := by decide +kernel
theorem dX12_asksScents_29 : decode cX12_asksScents 29 = .ok (.bipush 97, 2) := by decide +kernel
theorem dX12_asksScents_31 : decode cX12_asksScents 31 = .ok (.iload_n 2, 1) := by decide +kernel
theorem dX12_asksScents_32 : decode cX12_asksScents 32 = .ok (.imul, 1) := by decide +kernel
theorem dX12_asksScents_33 : decode cX12_asksScents 33 = .ok (.iload 5, 2) := by decide +kernel
theorem dX12_asksScents_35 : decode cX12_asksScents 35 = .ok (.iadd, 1) := by decide +kernel
theorem dX12_asksScents_36 : decode cX12_asksScents 36 = .ok (.iaload, 1) := by decide +kernel
theorem dX12_asksScents_37 : decode cX12_asksScents 37 = .ok (.iload_n 3, 1) := by decide +kernel
theorem dX12_asksScents_38 : decode cX12_asksScents 38 = .ok (.if_icmp .ne 88, 3) := by decide +kernel
theorem dX12_asksScents_41 : decode cX12_asksScents 41 = .ok (.iload 6, 2) := by decide +kernel
theorem dX12_asksScents_43 : decode cX12_asksScents 43 = .ok (.aload_n 0, 1) := by decide +kernel
theorem dX12_asksScents_44 : decode cX12_asksScents 44 = .ok (.getfield 7, 3) := by decide +kernel
theorem dX12_asksScents_47 : decode cX12_asksScents 47 = .ok (.bipush 12, 2) := by decide +kernel
theorem dX12_asksScents_49 : decode cX12_asksScents 49 = .ok (.iload_n 1, 1) := by decide +kernel
theorem dX12_asksScents_50 : decode cX12_asksScents 50 = .ok (.iadd, 1) := by decide +kernel
theorem dX12_asksScents_51 : decode cX12_asksScents 51 = .ok (.iaload, 1) := by decide +kernel
theorem dX12_asksScents_52 : decode cX12_asksScents 52 = .ok (.if_icmp .ge 74, 3) := by decide +kernel
theorem dX12_asksScents_55 : decode cX12_asksScents 55 = .ok (.aload_n 0, 1) := by decide +kernel
theorem dX12_asksScents_56 : decode cX12_asksScents 56 = .ok (.iload_n 2, 1) := by decide +kernel
theorem dX12_asksScents_57 : decode cX12_asksScents 57 = .ok (.iload 5, 2) := by decide +kernel
theorem dX12_asksScents_59 : decode cX12_asksScents 59 = .ok (.invokevirtual 295, 3) := by decide +kernel
theorem dX12_asksScents_62 : decode cX12_asksScents 62 = .ok (.ifCond .ne 6, 3) := by decide +kernel
theorem dX12_asksScents_65 : decode cX12_asksScents 65 = .ok (.goto 61, 3) := by decide +kernel
theorem dX12_asksScents_68 : decode cX12_asksScents 68 = .ok (.aload_n 0, 1) := by decide +kernel
theorem dX12_asksScents_69 : decode cX12_asksScents 69 = .ok (.iload_n 1, 1) := by decide +kernel
theorem dX12_asksScents_70 : decode cX12_asksScents 70 = .ok (.iload_n 2, 1) := by decide +kernel
theorem dX12_asksScents_71 : decode cX12_asksScents 71 = .ok (.iload 5, 2) := by decide +kernel
theorem dX12_asksScents_73 : decode cX12_asksScents 73 = .ok (.invokevirtual 307, 3) := by decide +kernel
theorem dX12_asksScents_76 : decode cX12_asksScents 76 = .ok (.aload_n 0, 1) := by decide +kernel
theorem dX12_asksScents_77 : decode cX12_asksScents 77 = .ok (.bipush 101, 2) := by decide +kernel
theorem dX12_asksScents_79 : decode cX12_asksScents 79 = .ok (.sipush 9999, 3) := by decide +kernel
theorem dX12_asksScents_82 : decode cX12_asksScents 82 = .ok (.invokevirtual 311, 3) := by decide +kernel
theorem dX12_asksScents_85 : decode cX12_asksScents 85 = .ok (.istore 7, 2) := by decide +kernel
theorem dX12_asksScents_87 : decode cX12_asksScents 87 = .ok (.aload_n 0, 1) := by decide +kernel
theorem dX12_asksScents_88 : decode cX12_asksScents 88 = .ok (.iload 7, 2) := by decide +kernel
theorem dX12_asksScents_90 : decode cX12_asksScents 90 = .ok (.iload 6, 2) := by decide +kernel
theorem dX12_asksScents_92 : decode cX12_asksScents 92 = .ok (.iload 4, 2) := by decide +kernel
theorem dX12_asksScents_94 : decode cX12_asksScents 94 = .ok (.invokevirtual 314, 3) := by decide +kernel
theorem dX12_asksScents_97 : decode cX12_asksScents 97 = .ok (.ifCond .ne 6, 3) := by decide +kernel
theorem dX12_asksScents_100 : decode cX12_asksScents 100 = .ok (.goto 26, 3) := by decide +kernel
theorem dX12_asksScents_103 : decode cX12_asksScents 103 = .ok (.aload_n 0, 1) := by decide +kernel
theorem dX12_asksScents_104 : decode cX12_asksScents 104 = .ok (.iload 7, 2) := by decide +kernel
theorem dX12_asksScents_106 : decode cX12_asksScents 106 = .ok (.putfield 298, 3) := by decide +kernel
theorem dX12_asksScents_109 : decode cX12_asksScents 109 = .ok (.aload_n 0, 1) := by decide +kernel
theorem dX12_asksScents_110 : decode cX12_asksScents 110 = .ok (.iload 6, 2) := by decide +kernel
theorem dX12_asksScents_112 : decode cX12_asksScents 112 = .ok (.putfield 301, 3) := by decide +kernel
theorem dX12_asksScents_115 : decode cX12_asksScents 115 = .ok (.aload_n 0, 1) := by decide +kernel
theorem dX12_asksScents_116 : decode cX12_asksScents 116 = .ok (.iload 4, 2) := by decide +kernel
theorem dX12_asksScents_118 : decode cX12_asksScents 118 = .ok (.putfield 304, 3) := by decide +kernel
theorem dX12_asksScents_121 : decode cX12_asksScents 121 = .ok (.aload_n 0, 1) := by decide +kernel
theorem dX12_asksScents_122 : decode cX12_asksScents 122 = .ok (.iload_n 2, 1) := by decide +kernel
theorem dX12_asksScents_123 : decode cX12_asksScents 123 = .ok (.putfield 317, 3) := by decide +kernel
theorem dX12_asksScents_126 : decode cX12_asksScents 126 = .ok (.iinc 5 1, 3) := by decide +kernel
theorem dX12_asksScents_129 : decode cX12_asksScents 129 = .ok (.goto (-126), 3) := by decide +kernel
theorem dX12_asksScents_132 : decode cX12_asksScents 132 = .ok (.return_, 1) := by decide +kernel
theorem dX12_isAtFault_0 : decode cX12_isAtFault 0 = .ok (.aload_n 0, 1) := by decide +kernel
theorem dX12_isAtFault_1 : decode cX12_isAtFault 1 = .ok (.getfield 7, 3) := by decide +kernel
theorem dX12_isAtFault_4 : decode cX12_isAtFault 4 = .ok (.bipush 18, 2) := by decide +kernel
theorem dX12_isAtFault_6 : decode cX12_isAtFault 6 = .ok (.iload_n 1, 1) := by decide +kernel
theorem dX12_isAtFault_7 : decode cX12_isAtFault 7 = .ok (.iadd, 1) := by decide +kernel
theorem dX12_isAtFault_8 : decode cX12_isAtFault 8 = .ok (.aload_n 0, 1) := by decide +kernel
theorem dX12_isAtFault_9 : decode cX12_isAtFault 9 = .ok (.getfield 7, 3) := by decide +kernel
theorem dX12_isAtFault_12 : decode cX12_isAtFault 12 = .ok (.bipush 18, 2) := by decide +kernel
theorem dX12_isAtFault_14 : decode cX12_isAtFault 14 = .ok (.iload_n 1, 1) := by decide +kernel
theorem dX12_isAtFault_15 : decode cX12_isAtFault 15 = .ok (.iadd, 1) := by decide +kernel
theorem dX12_isAtFault_16 : decode cX12_isAtFault 16 = .ok (.iaload, 1) := by decide +kernel
theorem dX12_isAtFault_17 : decode cX12_isAtFault 17 = .ok (.iconst 1, 1) := by decide +kernel
theorem dX12_isAtFault_18 : decode cX12_isAtFault 18 = .ok (.iadd, 1) := by decide +kernel
theorem dX12_isAtFault_19 : decode cX12_isAtFault 19 = .ok (.iastore, 1) := by decide +kernel
theorem dX12_isAtFault_20 : decode cX12_isAtFault 20 = .ok (.aload_n 0, 1) := by decide +kernel
theorem dX12_isAtFault_21 : decode cX12_isAtFault 21 = .ok (.getfield 7, 3) := by decide +kernel
theorem dX12_isAtFault_24 : decode cX12_isAtFault 24 = .ok (.bipush 18, 2) := by decide +kernel
theorem dX12_isAtFault_26 : decode cX12_isAtFault 26 = .ok (.iload_n 1, 1) := by decide +kernel
theorem dX12_isAtFault_27 : decode cX12_isAtFault 27 = .ok (.iadd, 1) := by decide +kernel
theorem dX12_isAtFault_28 : decode cX12_isAtFault 28 = .ok (.iaload, 1) := by decide +kernel
theorem dX12_isAtFault_29 : decode cX12_isAtFault 29 = .ok (.bipush 9, 2) := by decide +kernel
theorem dX12_isAtFault_31 : decode cX12_isAtFault 31 = .ok (.if_icmp .lt 13, 3) := by decide +kernel
theorem dX12_isAtFault_34 : decode cX12_isAtFault 34 = .ok (.aload_n 0, 1) := by decide +kernel
theorem dX12_isAtFault_35 : decode cX12_isAtFault 35 = .ok (.getfield 7, 3) := by decide +kernel
theorem dX12_isAtFault_38 : decode cX12_isAtFault 38 = .ok (.bipush 24, 2) := by decide +kernel
theorem dX12_isAtFault_40 : decode cX12_isAtFault 40 = .ok (.iload_n 1, 1) := by decide +kernel
theorem dX12_isAtFault_41 : decode cX12_isAtFault 41 = .ok (.iadd, 1) := by decide +kernel
theorem dX12_isAtFault_42 : decode cX12_isAtFault 42 = .ok (.iconst 2, 1) := by decide +kernel
theorem dX12_isAtFault_43 : decode cX12_isAtFault 43 = .ok (.iastore, 1) := by decide +kernel
theorem dX12_isAtFault_44 : decode cX12_isAtFault 44 = .ok (.return_, 1) := by decide +kernel
theorem dX12_turnOf_0 : decode cX12_turnOf 0 = .ok (.aload_n 0, 1) := by decide +kernel
theorem dX12_turnOf_1 : decode cX12_turnOf 1 = .ok (.iload_n 1, 1) := by decide +kernel
theorem dX12_turnOf_2 : decode cX12_turnOf 2 = .ok (.invokevirtual 292, 3) := by decide +kernel
theorem dX12_turnOf_5 : decode cX12_turnOf 5 = .ok (.aload_n 0, 1) := by decide +kernel
theorem dX12_turnOf_6 : decode cX12_turnOf 6 = .ok (.bipush 120, 2) := by decide +kernel
theorem dX12_turnOf_8 : decode cX12_turnOf 8 = .ok (.invokevirtual 320, 3) := by decide +kernel
theorem dX12_turnOf_11 : decode cX12_turnOf 11 = .ok (.ifCond .eq 14, 3) := by decide +kernel
theorem dX12_turnOf_14 : decode cX12_turnOf 14 = .ok (.aload_n 0, 1) := by decide +kernel
theorem dX12_turnOf_15 : decode cX12_turnOf 15 = .ok (.getfield 7, 3) := by decide +kernel
theorem dX12_turnOf_18 : decode cX12_turnOf 18 = .ok (.bipush 24, 2) := by decide +kernel
theorem dX12_turnOf_20 : decode cX12_turnOf 20 = .ok (.iload_n 1, 1) := by decide +kernel
theorem dX12_turnOf_21 : decode cX12_turnOf 21 = .ok (.iadd, 1) := by decide +kernel
theorem dX12_turnOf_22 : decode cX12_turnOf 22 = .ok (.iconst 2, 1) := by decide +kernel
theorem dX12_turnOf_23 : decode cX12_turnOf 23 = .ok (.iastore, 1) := by decide +kernel
theorem dX12_turnOf_24 : decode cX12_turnOf 24 = .ok (.return_, 1) := by decide +kernel
theorem dX12_turnOf_25 : decode cX12_turnOf 25 = .ok (.aload_n 0, 1) := by decide +kernel
theorem dX12_turnOf_26 : decode cX12_turnOf 26 = .ok (.bipush 114, 2) := by decide +kernel
theorem dX12_turnOf_28 : decode cX12_turnOf 28 = .ok (.bipush 10, 2) := by decide +kernel
theorem dX12_turnOf_30 : decode cX12_turnOf 30 = .ok (.invokevirtual 311, 3) := by decide +kernel
theorem dX12_turnOf_33 : decode cX12_turnOf 33 = .ok (.istore_n 2, 1) := by decide +kernel
theorem dX12_turnOf_34 : decode cX12_turnOf 34 = .ok (.aload_n 0, 1) := by decide +kernel
theorem dX12_turnOf_35 : decode cX12_turnOf 35 = .ok (.getfield 7, 3) := by decide +kernel
theorem dX12_turnOf_38 : decode cX12_turnOf 38 = .ok (.bipush 31, 2) := by decide +kernel
theorem dX12_turnOf_40 : decode cX12_turnOf 40 = .ok (.sipush 25173, 3) := by decide +kernel
theorem dX12_turnOf_43 : decode cX12_turnOf 43 = .ok (.aload_n 0, 1) := by decide +kernel
theorem dX12_turnOf_44 : decode cX12_turnOf 44 = .ok (.getfield 7, 3) := by decide +kernel
theorem dX12_turnOf_47 : decode cX12_turnOf 47 = .ok (.bipush 31, 2) := by decide +kernel
theorem dX12_turnOf_49 : decode cX12_turnOf 49 = .ok (.iaload, 1) := by decide +kernel
theorem dX12_turnOf_50 : decode cX12_turnOf 50 = .ok (.imul, 1) := by decide +kernel
theorem dX12_turnOf_51 : decode cX12_turnOf 51 = .ok (.sipush 13849, 3) := by decide +kernel
theorem dX12_turnOf_54 : decode cX12_turnOf 54 = .ok (.iadd, 1) := by decide +kernel
theorem dX12_turnOf_55 : decode cX12_turnOf 55 = .ok (.ldc_w 323, 3) := by decide +kernel
theorem dX12_turnOf_58 : decode cX12_turnOf 58 = .ok (.irem, 1) := by decide +kernel
theorem dX12_turnOf_59 : decode cX12_turnOf 59 = .ok (.iastore, 1) := by decide +kernel
theorem dX12_turnOf_60 : decode cX12_turnOf 60 = .ok (.aload_n 0, 1) := by decide +kernel
theorem dX12_turnOf_61 : decode cX12_turnOf 61 = .ok (.getfield 7, 3) := by decide +kernel
theorem dX12_turnOf_64 : decode cX12_turnOf 64 = .ok (.bipush 31, 2) := by decide +kernel
theorem dX12_turnOf_66 : decode cX12_turnOf 66 = .ok (.iaload, 1) := by decide +kernel
theorem dX12_turnOf_67 : decode cX12_turnOf 67 = .ok (.bipush 10, 2) := by decide +kernel
theorem dX12_turnOf_69 : decode cX12_turnOf 69 = .ok (.irem, 1) := by decide +kernel
theorem dX12_turnOf_70 : decode cX12_turnOf 70 = .ok (.iload_n 2, 1) := by decide +kernel
theorem dX12_turnOf_71 : decode cX12_turnOf 71 = .ok (.if_icmp .ge 9, 3) := by decide +kernel
theorem dX12_turnOf_74 : decode cX12_turnOf 74 = .ok (.aload_n 0, 1) := by decide +kernel
theorem dX12_turnOf_75 : decode cX12_turnOf 75 = .ok (.iload_n 1, 1) := by decide +kernel
theorem dX12_turnOf_76 : decode cX12_turnOf 76 = .ok (.invokevirtual 324, 3) := by decide +kernel
theorem dX12_turnOf_79 : decode cX12_turnOf 79 = .ok (.return_, 1) := by decide +kernel
theorem dX12_turnOf_80 : decode cX12_turnOf 80 = .ok (.aload_n 0, 1) := by decide +kernel
theorem dX12_turnOf_81 : decode cX12_turnOf 81 = .ok (.iconst 0, 1) := by decide +kernel
theorem dX12_turnOf_82 : decode cX12_turnOf 82 = .ok (.putfield 298, 3) := by decide +kernel
theorem dX12_turnOf_85 : decode cX12_turnOf 85 = .ok (.aload_n 0, 1) := by decide +kernel
theorem dX12_turnOf_86 : decode cX12_turnOf 86 = .ok (.getfield 7, 3) := by decide +kernel
theorem dX12_turnOf_89 : decode cX12_turnOf 89 = .ok (.bipush 6, 2) := by decide +kernel
theorem dX12_turnOf_91 : decode cX12_turnOf 91 = .ok (.iload_n 1, 1) := by decide +kernel
theorem dX12_turnOf_92 : decode cX12_turnOf 92 = .ok (.iadd, 1) := by decide +kernel
theorem dX12_turnOf_93 : decode cX12_turnOf 93 = .ok (.iaload, 1) := by decide +kernel
theorem dX12_turnOf_94 : decode cX12_turnOf 94 = .ok (.istore_n 3, 1) := by decide +kernel
theorem dX12_turnOf_95 : decode cX12_turnOf 95 = .ok (.iconst 0, 1) := by decide +kernel
theorem dX12_turnOf_96 : decode cX12_turnOf 96 = .ok (.istore 4, 2) := by decide +kernel
theorem dX12_turnOf_98 : decode cX12_turnOf 98 = .ok (.iload 4, 2) := by decide +kernel
theorem dX12_turnOf_100 : decode cX12_turnOf 100 = .ok (.bipush 8, 2) := by decide +kernel
theorem dX12_turnOf_102 : decode cX12_turnOf 102 = .ok (.if_icmp .ge 72, 3) := by decide +kernel
theorem dX12_turnOf_105 : decode cX12_turnOf 105 = .ok (.aload_n 0, 1) := by decide +kernel
theorem dX12_turnOf_106 : decode cX12_turnOf 106 = .ok (.iload 4, 2) := by decide +kernel
theorem dX12_turnOf_108 : decode cX12_turnOf 108 = .ok (.invokevirtual 122, 3) := by decide +kernel
theorem dX12_turnOf_111 : decode cX12_turnOf 111 = .ok (.ifCond .ne 6, 3) := by decide +kernel
theorem dX12_turnOf_114 : decode cX12_turnOf 114 = .ok (.goto 54, 3) := by decide +kernel
theorem dX12_turnOf_117 : decode cX12_turnOf 117 = .ok (.aload_n 0, 1) := by decide +kernel
theorem dX12_turnOf_118 : decode cX12_turnOf 118 = .ok (.iload_n 1, 1) := by decide +kernel
theorem dX12_turnOf_119 : decode cX12_turnOf 119 = .ok (.iload 4, 2) := by decide +kernel
theorem dX12_turnOf_121 : decode cX12_turnOf 121 = .ok (.iload_n 3, 1) := by decide +kernel
theorem dX12_turnOf_122 : decode cX12_turnOf 122 = .ok (.iconst 0, 1) := by decide +kernel
theorem dX12_turnOf_123 : decode cX12_turnOf 123 = .ok (.invokevirtual 327, 3) := by decide +kernel
theorem dX12_turnOf_126 : decode cX12_turnOf 126 = .ok (.iconst 0, 1) := by decide +kernel
theorem dX12_turnOf_127 : decode cX12_turnOf 127 = .ok (.istore 5, 2) := by decide +kernel
theorem dX12_turnOf_129 : decode cX12_turnOf 129 = .ok (.iload 5, 2) := by decide +kernel
theorem dX12_turnOf_131 : decode cX12_turnOf 131 = .ok (.iconst 4, 1) := by decide +kernel
theorem dX12_turnOf_132 : decode cX12_turnOf 132 = .ok (.if_icmp .ge 36, 3) := by decide +kernel
theorem dX12_turnOf_135 : decode cX12_turnOf 135 = .ok (.iload_n 3, 1) := by decide +kernel
theorem dX12_turnOf_136 : decode cX12_turnOf 136 = .ok (.iload 5, 2) := by decide +kernel
theorem dX12_turnOf_138 : decode cX12_turnOf 138 = .ok (.invokestatic 265, 3) := by decide +kernel
theorem dX12_turnOf_141 : decode cX12_turnOf 141 = .ok (.iload_n 3, 1) := by decide +kernel
theorem dX12_turnOf_142 : decode cX12_turnOf 142 = .ok (.if_icmp .eq 20, 3) := by decide +kernel
theorem dX12_turnOf_145 : decode cX12_turnOf 145 = .ok (.aload_n 0, 1) := by decide +kernel
theorem dX12_turnOf_146 : decode cX12_turnOf 146 = .ok (.iload_n 1, 1) := by decide +kernel
theorem dX12_turnOf_147 : decode cX12_turnOf 147 = .ok (.iload 4, 2) := by decide +kernel
theorem dX12_turnOf_149 : decode cX12_turnOf 149 = .ok (.iload_n 3, 1) := by decide +kernel
theorem dX12_turnOf_150 : decode cX12_turnOf 150 = .ok (.iload 5, 2) := by decide +kernel
theorem dX12_turnOf_152 : decode cX12_turnOf 152 = .ok (.invokestatic 265, 3) := by decide +kernel
theorem dX12_turnOf_155 : decode cX12_turnOf 155 = .ok (.iload 5, 2) := by decide +kernel
theorem dX12_turnOf_157 : decode cX12_turnOf 157 = .ok (.iconst 1, 1) := by decide +kernel
theorem dX12_turnOf_158 : decode cX12_turnOf 158 = .ok (.iadd, 1) := by decide +kernel
theorem dX12_turnOf_159 : decode cX12_turnOf 159 = .ok (.invokevirtual 327, 3) := by decide +kernel
theorem dX12_turnOf_162 : decode cX12_turnOf 162 = .ok (.iinc 5 1, 3) := by decide +kernel
theorem dX12_turnOf_165 : decode cX12_turnOf 165 = .ok (.goto (-36), 3) := by decide +kernel
theorem dX12_turnOf_168 : decode cX12_turnOf 168 = .ok (.iinc 4 1, 3) := by decide +kernel
theorem dX12_turnOf_171 : decode cX12_turnOf 171 = .ok (.goto (-73), 3) := by decide +kernel
theorem dX12_turnOf_174 : decode cX12_turnOf 174 = .ok (.aload_n 0, 1) := by decide +kernel
theorem dX12_turnOf_175 : decode cX12_turnOf 175 = .ok (.getfield 298, 3) := by decide +kernel
theorem dX12_turnOf_178 : decode cX12_turnOf 178 = .ok (.ifCond .ne 9, 3) := by decide +kernel
theorem dX12_turnOf_181 : decode cX12_turnOf 181 = .ok (.aload_n 0, 1) := by decide +kernel
theorem dX12_turnOf_182 : decode cX12_turnOf 182 = .ok (.iload_n 1, 1) := by decide +kernel
theorem dX12_turnOf_183 : decode cX12_turnOf 183 = .ok (.invokevirtual 324, 3) := by decide +kernel
theorem dX12_turnOf_186 : decode cX12_turnOf 186 = .ok (.return_, 1) := by decide +kernel
theorem dX12_turnOf_187 : decode cX12_turnOf 187 = .ok (.aload_n 0, 1) := by decide +kernel
theorem dX12_turnOf_188 : decode cX12_turnOf 188 = .ok (.getfield 7, 3) := by decide +kernel
theorem dX12_turnOf_191 : decode cX12_turnOf 191 = .ok (.bipush 6, 2) := by decide +kernel
theorem dX12_turnOf_193 : decode cX12_turnOf 193 = .ok (.iload_n 1, 1) := by decide +kernel
theorem dX12_turnOf_194 : decode cX12_turnOf 194 = .ok (.iadd, 1) := by decide +kernel
theorem dX12_turnOf_195 : decode cX12_turnOf 195 = .ok (.aload_n 0, 1) := by decide +kernel
theorem dX12_turnOf_196 : decode cX12_turnOf 196 = .ok (.getfield 304, 3) := by decide +kernel
theorem dX12_turnOf_199 : decode cX12_turnOf 199 = .ok (.ifCond .ne 7, 3) := by decide +kernel
theorem dX12_turnOf_202 : decode cX12_turnOf 202 = .ok (.iload_n 3, 1) := by decide +kernel
theorem dX12_turnOf_203 : decode cX12_turnOf 203 = .ok (.goto 13, 3) := by decide +kernel
theorem dX12_turnOf_206 : decode cX12_turnOf 206 = .ok (.iload_n 3, 1) := by decide +kernel
theorem dX12_turnOf_207 : decode cX12_turnOf 207 = .ok (.aload_n 0, 1) := by decide +kernel
theorem dX12_turnOf_208 : decode cX12_turnOf 208 = .ok (.getfield 304, 3) := by decide +kernel
theorem dX12_turnOf_211 : decode cX12_turnOf 211 = .ok (.iconst 1, 1) := by decide +kernel
theorem dX12_turnOf_212 : decode cX12_turnOf 212 = .ok (.isub, 1) := by decide +kernel
theorem dX12_turnOf_213 : decode cX12_turnOf 213 = .ok (.invokestatic 265, 3) := by decide +kernel
theorem dX12_turnOf_216 : decode cX12_turnOf 216 = .ok (.iastore, 1) := by decide +kernel
theorem dX12_turnOf_217 : decode cX12_turnOf 217 = .ok (.aload_n 0, 1) := by decide +kernel
theorem dX12_turnOf_218 : decode cX12_turnOf 218 = .ok (.getfield 7, 3) := by decide +kernel
theorem dX12_turnOf_221 : decode cX12_turnOf 221 = .ok (.bipush 12, 2) := by decide +kernel
theorem dX12_turnOf_223 : decode cX12_turnOf 223 = .ok (.iload_n 1, 1) := by decide +kernel
theorem dX12_turnOf_224 : decode cX12_turnOf 224 = .ok (.iadd, 1) := by decide +kernel
theorem dX12_turnOf_225 : decode cX12_turnOf 225 = .ok (.aload_n 0, 1) := by decide +kernel
theorem dX12_turnOf_226 : decode cX12_turnOf 226 = .ok (.getfield 301, 3) := by decide +kernel
theorem dX12_turnOf_229 : decode cX12_turnOf 229 = .ok (.iastore, 1) := by decide +kernel
theorem dX12_turnOf_230 : decode cX12_turnOf 230 = .ok (.aload_n 0, 1) := by decide +kernel
theorem dX12_turnOf_231 : decode cX12_turnOf 231 = .ok (.getfield 301, 3) := by decide +kernel
theorem dX12_turnOf_234 : decode cX12_turnOf 234 = .ok (.aload_n 0, 1) := by decide +kernel
theorem dX12_turnOf_235 : decode cX12_turnOf 235 = .ok (.getfield 22, 3) := by decide +kernel
theorem dX12_turnOf_238 : decode cX12_turnOf 238 = .ok (.aload_n 0, 1) := by decide +kernel
theorem dX12_turnOf_239 : decode cX12_turnOf 239 = .ok (.getfield 317, 3) := by decide +kernel
theorem dX12_turnOf_242 : decode cX12_turnOf 242 = .ok (.iaload, 1) := by decide +kernel
theorem dX12_turnOf_243 : decode cX12_turnOf 243 = .ok (.if_icmp .ne 13, 3) := by decide +kernel
theorem dX12_turnOf_246 : decode cX12_turnOf 246 = .ok (.aload_n 0, 1) := by decide +kernel
theorem dX12_turnOf_247 : decode cX12_turnOf 247 = .ok (.getfield 7, 3) := by decide +kernel
theorem dX12_turnOf_250 : decode cX12_turnOf 250 = .ok (.bipush 24, 2) := by decide +kernel
theorem dX12_turnOf_252 : decode cX12_turnOf 252 = .ok (.iload_n 1, 1) := by decide +kernel
theorem dX12_turnOf_253 : decode cX12_turnOf 253 = .ok (.iadd, 1) := by decide +kernel
theorem dX12_turnOf_254 : decode cX12_turnOf 254 = .ok (.iconst 1, 1) := by decide +kernel
theorem dX12_turnOf_255 : decode cX12_turnOf 255 = .ok (.iastore, 1) := by decide +kernel
theorem dX12_turnOf_256 : decode cX12_turnOf 256 = .ok (.return_, 1) := by decide +kernel
theorem dX12_momentGoes_0 : decode cX12_momentGoes 0 = .ok (.iconst 0, 1) := by decide +kernel
theorem dX12_momentGoes_1 : decode cX12_momentGoes 1 = .ok (.istore_n 1, 1) := by decide +kernel
theorem dX12_momentGoes_2 : decode cX12_momentGoes 2 = .ok (.iload_n 1, 1) := by decide +kernel
theorem dX12_momentGoes_3 : decode cX12_momentGoes 3 = .ok (.bipush 6, 2) := by decide +kernel
theorem dX12_momentGoes_5 : decode cX12_momentGoes 5 = .ok (.if_icmp .ge 34, 3) := by decide +kernel
theorem dX12_momentGoes_8 : decode cX12_momentGoes 8 = .ok (.aload_n 0, 1) := by decide +kernel
theorem dX12_momentGoes_9 : decode cX12_momentGoes 9 = .ok (.iload_n 1, 1) := by decide +kernel
theorem dX12_momentGoes_10 : decode cX12_momentGoes 10 = .ok (.invokevirtual 286, 3) := by decide +kernel
theorem dX12_momentGoes_13 : decode cX12_momentGoes 13 = .ok (.ifCond .eq 20, 3) := by decide +kernel
theorem dX12_momentGoes_16 : decode cX12_momentGoes 16 = .ok (.aload_n 0, 1) := by decide +kernel
theorem dX12_momentGoes_17 : decode cX12_momentGoes 17 = .ok (.getfield 7, 3) := by decide +kernel
theorem dX12_momentGoes_20 : decode cX12_momentGoes 20 = .ok (.bipush 24, 2) := by decide +kernel
theorem dX12_momentGoes_22 : decode cX12_momentGoes 22 = .ok (.iload_n 1, 1) := by decide +kernel
theorem dX12_momentGoes_23 : decode cX12_momentGoes 23 = .ok (.iadd, 1) := by decide +kernel
theorem dX12_momentGoes_24 : decode cX12_momentGoes 24 = .ok (.iaload, 1) := by decide +kernel
theorem dX12_momentGoes_25 : decode cX12_momentGoes 25 = .ok (.ifCond .ne 8, 3) := by decide +kernel
theorem dX12_momentGoes_28 : decode cX12_momentGoes 28 = .ok (.aload_n 0, 1) := by decide +kernel
theorem dX12_momentGoes_29 : decode cX12_momentGoes 29 = .ok (.iload_n 1, 1) := by decide +kernel
theorem dX12_momentGoes_30 : decode cX12_momentGoes 30 = .ok (.invokevirtual 331, 3) := by decide +kernel
theorem dX12_momentGoes_33 : decode cX12_momentGoes 33 = .ok (.iinc 1 1, 3) := by decide +kernel
theorem dX12_momentGoes_36 : decode cX12_momentGoes 36 = .ok (.goto (-34), 3) := by decide +kernel
theorem dX12_momentGoes_39 : decode cX12_momentGoes 39 = .ok (.aload_n 0, 1) := by decide +kernel
theorem dX12_momentGoes_40 : decode cX12_momentGoes 40 = .ok (.getfield 7, 3) := by decide +kernel
theorem dX12_momentGoes_43 : decode cX12_momentGoes 43 = .ok (.bipush 30, 2) := by decide +kernel
theorem dX12_momentGoes_45 : decode cX12_momentGoes 45 = .ok (.aload_n 0, 1) := by decide +kernel
theorem dX12_momentGoes_46 : decode cX12_momentGoes 46 = .ok (.getfield 7, 3) := by decide +kernel
theorem dX12_momentGoes_49 : decode cX12_momentGoes 49 = .ok (.bipush 30, 2) := by decide +kernel
theorem dX12_momentGoes_51 : decode cX12_momentGoes 51 = .ok (.iaload, 1) := by decide +kernel
theorem dX12_momentGoes_52 : decode cX12_momentGoes 52 = .ok (.iconst 1, 1) := by decide +kernel
theorem dX12_momentGoes_53 : decode cX12_momentGoes 53 = .ok (.iadd, 1) := by decide +kernel
theorem dX12_momentGoes_54 : decode cX12_momentGoes 54 = .ok (.iastore, 1) := by decide +kernel
theorem dX12_momentGoes_55 : decode cX12_momentGoes 55 = .ok (.return_, 1) := by decide +kernel
theorem dX12_momentsGo_0 : decode cX12_momentsGo 0 = .ok (.iconst 0, 1) := by decide +kernel
theorem dX12_momentsGo_1 : decode cX12_momentsGo 1 = .ok (.istore_n 2, 1) := by decide +kernel
theorem dX12_momentsGo_2 : decode cX12_momentsGo 2 = .ok (.iload_n 2, 1) := by decide +kernel
theorem dX12_momentsGo_3 : decode cX12_momentsGo 3 = .ok (.iload_n 1, 1) := by decide +kernel
theorem dX12_momentsGo_4 : decode cX12_momentsGo 4 = .ok (.if_icmp .ge 26, 3) := by decide +kernel
theorem dX12_momentsGo_7 : decode cX12_momentsGo 7 = .ok (.aload_n 0, 1) := by decide +kernel
theorem dX12_momentsGo_8 : decode cX12_momentsGo 8 = .ok (.getfield 7, 3) := by decide +kernel
theorem dX12_momentsGo_11 : decode cX12_momentsGo 11 = .ok (.bipush 30, 2) := by decide +kernel
theorem dX12_momentsGo_13 : decode cX12_momentsGo 13 = .ok (.iaload, 1) := by decide +kernel
theorem dX12_momentsGo_14 : decode cX12_momentsGo 14 = .ok (.sipush 9999, 3) := by decide +kernel
theorem dX12_momentsGo_17 : decode cX12_momentsGo 17 = .ok (.if_icmp .ge 13, 3) := by decide +kernel
theorem dX12_momentsGo_20 : decode cX12_momentsGo 20 = .ok (.aload_n 0, 1) := by decide +kernel
theorem dX12_momentsGo_21 : decode cX12_momentsGo 21 = .ok (.invokevirtual 334, 3) := by decide +kernel
theorem dX12_momentsGo_24 : decode cX12_momentsGo 24 = .ok (.iinc 2 1, 3) := by decide +kernel
theorem dX12_momentsGo_27 : decode cX12_momentsGo 27 = .ok (.goto (-25), 3) := by decide +kernel
theorem dX12_momentsGo_30 : decode cX12_momentsGo 30 = .ok (.return_, 1) := by decide +kernel
theorem dX12_faring_0 : decode cX12_faring 0 = .ok (.iconst 0, 1) := by decide +kernel
theorem dX12_faring_1 : decode cX12_faring 1 = .ok (.istore_n 2, 1) := by decide +kernel
theorem dX12_faring_2 : decode cX12_faring 2 = .ok (.iconst 0, 1) := by decide +kernel
theorem dX12_faring_3 : decode cX12_faring 3 = .ok (.istore_n 3, 1) := by decide +kernel
theorem dX12_faring_4 : decode cX12_faring 4 = .ok (.iload_n 3, 1) := by decide +kernel
theorem dX12_faring_5 : decode cX12_faring 5 = .ok (.bipush 6, 2) := by decide +kernel
theorem dX12_faring_7 : decode cX12_faring 7 = .ok (.if_icmp .ge 36, 3) := by decide +kernel
theorem dX12_faring_10 : decode cX12_faring 10 = .ok (.aload_n 0, 1) := by decide +kernel
theorem dX12_faring_11 : decode cX12_faring 11 = .ok (.iload_n 3, 1) := by decide +kernel
theorem dX12_faring_12 : decode cX12_faring 12 = .ok (.invokevirtual 286, 3) := by decide +kernel
theorem dX12_faring_15 : decode cX12_faring 15 = .ok (.ifCond .eq 22, 3) := by decide +kernel
theorem dX12_faring_18 : decode cX12_faring 18 = .ok (.aload_n 0, 1) := by decide +kernel
theorem dX12_faring_19 : decode cX12_faring 19 = .ok (.getfield 7, 3) := by decide +kernel
theorem dX12_faring_22 : decode cX12_faring 22 = .ok (.bipush 24, 2) := by decide +kernel
theorem dX12_faring_24 : decode cX12_faring 24 = .ok (.iload_n 3, 1) := by decide +kernel
theorem dX12_faring_25 : decode cX12_faring 25 = .ok (.iadd, 1) := by decide +kernel
theorem dX12_faring_26 : decode cX12_faring 26 = .ok (.iaload, 1) := by decide +kernel
theorem dX12_faring_27 : decode cX12_faring 27 = .ok (.iload_n 1, 1) := by decide +kernel
theorem dX12_faring_28 : decode cX12_faring 28 = .ok (.if_icmp .ne 9, 3) := by decide +kernel
theorem dX12_faring_31 : decode cX12_faring 31 = .ok (.iload_n 2, 1) := by decide +kernel
theorem dX12_faring_32 : decode cX12_faring 32 = .ok (.iconst 1, 1) := by decide +kernel
theorem dX12_faring_33 : decode cX12_faring 33 = .ok (.iload_n 3, 1) := by decide +kernel
theorem dX12_faring_34 : decode cX12_faring 34 = .ok (.ishl, 1) := by decide +kernel
theorem dX12_faring_35 : decode cX12_faring 35 = .ok (.ior, 1) := by decide +kernel
theorem dX12_faring_36 : decode cX12_faring 36 = .ok (.istore_n 2, 1) := by decide +kernel
theorem dX12_faring_37 : decode cX12_faring 37 = .ok (.iinc 3 1, 3) := by decide +kernel
theorem dX12_faring_40 : decode cX12_faring 40 = .ok (.goto (-36), 3) := by decide +kernel
theorem dX12_faring_43 : decode cX12_faring 43 = .ok (.iload_n 2, 1) := by decide +kernel
theorem dX12_faring_44 : decode cX12_faring 44 = .ok (.ireturn, 1) := by decide +kernel
theorem dX12_moments_0 : decode cX12_moments 0 = .ok (.iload_n 1, 1) := by decide +kernel
theorem dX12_moments_1 : decode cX12_moments 1 = .ok (.iconst 1, 1) := by decide +kernel
theorem dX12_moments_2 : decode cX12_moments 2 = .ok (.bipush 100, 2) := by decide +kernel
theorem dX12_moments_4 : decode cX12_moments 4 = .ok (.invokestatic 118, 3) := by decide +kernel
theorem dX12_moments_7 : decode cX12_moments 7 = .ok (.ifCond .ne 5, 3) := by decide +kernel
theorem dX12_moments_10 : decode cX12_moments 10 = .ok (.iconst (-1), 1) := by decide +kernel
theorem dX12_moments_11 : decode cX12_moments 11 = .ok (.ireturn, 1) := by decide +kernel
theorem dX12_moments_12 : decode cX12_moments 12 = .ok (.aload_n 0, 1) := by decide +kernel
theorem dX12_moments_13 : decode cX12_moments 13 = .ok (.iload_n 1, 1) := by decide +kernel
theorem dX12_moments_14 : decode cX12_moments 14 = .ok (.invokevirtual 337, 3) := by decide +kernel
theorem dX12_moments_17 : decode cX12_moments 17 = .ok (.aload_n 0, 1) := by decide +kernel
theorem dX12_moments_18 : decode cX12_moments 18 = .ok (.iconst 0, 1) := by decide +kernel
theorem dX12_moments_19 : decode cX12_moments 19 = .ok (.invokevirtual 340, 3) := by decide +kernel
theorem dX12_moments_22 : decode cX12_moments 22 = .ok (.invokestatic 343, 3) := by decide +kernel
theorem dX12_moments_25 : decode cX12_moments 25 = .ok (.ireturn, 1) := by decide +kernel
theorem dX12_tried_0 : decode cX12_tried 0 = .ok (.iload_n 1, 1) := by decide +kernel
theorem dX12_tried_1 : decode cX12_tried 1 = .ok (.iconst 1, 1) := by decide +kernel
theorem dX12_tried_2 : decode cX12_tried 2 = .ok (.bipush 100, 2) := by decide +kernel
theorem dX12_tried_4 : decode cX12_tried 4 = .ok (.invokestatic 118, 3) := by decide +kernel
theorem dX12_tried_7 : decode cX12_tried 7 = .ok (.ifCond .eq 45, 3) := by decide +kernel
theorem dX12_tried_10 : decode cX12_tried 10 = .ok (.iload_n 2, 1) := by decide +kernel
theorem dX12_tried_11 : decode cX12_tried 11 = .ok (.iconst 0, 1) := by decide +kernel
theorem dX12_tried_12 : decode cX12_tried 12 = .ok (.iconst 2, 1) := by decide +kernel
theorem dX12_tried_13 : decode cX12_tried 13 = .ok (.invokestatic 118, 3) := by decide +kernel
theorem dX12_tried_16 : decode cX12_tried 16 = .ok (.ifCond .ne 38, 3) := by decide +kernel
theorem dX12_tried_19 : decode cX12_tried 19 = .ok (.aload_n 0, 1) := by decide +kernel
theorem dX12_tried_20 : decode cX12_tried 20 = .ok (.iload_n 2, 1) := by decide +kernel
theorem dX12_tried_21 : decode cX12_tried 21 = .ok (.bipush 10, 2) := by decide +kernel
theorem dX12_tried_23 : decode cX12_tried 23 = .ok (.isub, 1) := by decide +kernel
theorem dX12_tried_24 : decode cX12_tried 24 = .ok (.invokevirtual 286, 3) := by decide +kernel
theorem dX12_tried_27 : decode cX12_tried 27 = .ok (.ifCond .ne 27, 3) := by decide +kernel
theorem dX12_tried_30 : decode cX12_tried 30 = .ok (.aload_n 0, 1) := by decide +kernel
theorem dX12_tried_31 : decode cX12_tried 31 = .ok (.iload_n 2, 1) := by decide +kernel
theorem dX12_tried_32 : decode cX12_tried 32 = .ok (.bipush 20, 2) := by decide +kernel
theorem dX12_tried_34 : decode cX12_tried 34 = .ok (.isub, 1) := by decide +kernel
theorem dX12_tried_35 : decode cX12_tried 35 = .ok (.invokevirtual 286, 3) := by decide +kernel
theorem dX12_tried_38 : decode cX12_tried 38 = .ok (.ifCond .ne 16, 3) := by decide +kernel
theorem dX12_tried_41 : decode cX12_tried 41 = .ok (.aload_n 0, 1) := by decide +kernel
theorem dX12_tried_42 : decode cX12_tried 42 = .ok (.iload_n 2, 1) := by decide +kernel
theorem dX12_tried_43 : decode cX12_tried 43 = .ok (.bipush 30, 2) := by decide +kernel
theorem dX12_tried_45 : decode cX12_tried 45 = .ok (.isub, 1) := by decide +kernel
theorem dX12_tried_46 : decode cX12_tried 46 = .ok (.invokevirtual 286, 3) := by decide +kernel
theorem dX12_tried_49 : decode cX12_tried 49 = .ok (.ifCond .ne 5, 3) := by decide +kernel
theorem dX12_tried_52 : decode cX12_tried 52 = .ok (.iconst (-1), 1) := by decide +kernel
theorem dX12_tried_53 : decode cX12_tried 53 = .ok (.ireturn, 1) := by decide +kernel
theorem dX12_tried_54 : decode cX12_tried 54 = .ok (.aload_n 0, 1) := by decide +kernel
theorem dX12_tried_55 : decode cX12_tried 55 = .ok (.getfield 7, 3) := by decide +kernel
theorem dX12_tried_58 : decode cX12_tried 58 = .ok (.aload_n 0, 1) := by decide +kernel
theorem dX12_tried_59 : decode cX12_tried 59 = .ok (.getfield 13, 3) := by decide +kernel
theorem dX12_tried_62 : decode cX12_tried 62 = .ok (.invokestatic 346, 3) := by decide +kernel
theorem dX12_tried_65 : decode cX12_tried 65 = .ok (.aload_n 0, 1) := by decide +kernel
theorem dX12_tried_66 : decode cX12_tried 66 = .ok (.iload_n 1, 1) := by decide +kernel
theorem dX12_tried_67 : decode cX12_tried 67 = .ok (.invokevirtual 337, 3) := by decide +kernel
theorem dX12_tried_70 : decode cX12_tried 70 = .ok (.iload_n 2, 1) := by decide +kernel
theorem dX12_tried_71 : decode cX12_tried 71 = .ok (.iconst 3, 1) := by decide +kernel
theorem dX12_tried_72 : decode cX12_tried 72 = .ok (.if_icmp .ge 11, 3) := by decide +kernel
theorem dX12_tried_75 : decode cX12_tried 75 = .ok (.aload_n 0, 1) := by decide +kernel
theorem dX12_tried_76 : decode cX12_tried 76 = .ok (.iload_n 2, 1) := by decide +kernel
theorem dX12_tried_77 : decode cX12_tried 77 = .ok (.invokevirtual 340, 3) := by decide +kernel
theorem dX12_tried_80 : decode cX12_tried 80 = .ok (.goto 57, 3) := by decide +kernel
theorem dX12_tried_83 : decode cX12_tried 83 = .ok (.iload_n 2, 1) := by decide +kernel
theorem dX12_tried_84 : decode cX12_tried 84 = .ok (.bipush 20, 2) := by decide +kernel
theorem dX12_tried_86 : decode cX12_tried 86 = .ok (.if_icmp .ge 18, 3) := by decide +kernel
theorem dX12_tried_89 : decode cX12_tried 89 = .ok (.aload_n 0, 1) := by decide +kernel
theorem dX12_tried_90 : decode cX12_tried 90 = .ok (.getfield 7, 3) := by decide +kernel
theorem dX12_tried_93 : decode cX12_tried 93 = .ok (.bipush 6, 2) := by decide +kernel
theorem dX12_tried_95 : decode cX12_tried 95 = .ok (.iload_n 2, 1) := by decide +kernel
theorem dX12_tried_96 : decode cX12_tried 96 = .ok (.iadd, 1) := by decide +kernel
theorem dX12_tried_97 : decode cX12_tried 97 = .ok (.bipush 10, 2) := by decide +kernel
theorem dX12_tried_99 : decode cX12_tried 99 = .ok (.isub, 1) := by decide +kernel
theorem dX12_tried_100 : decode cX12_tried 100 = .ok (.iaload, 1) := by decide +kernel
theorem dX12_tried_101 : decode cX12_tried 101 = .ok (.goto 36, 3) := by decide +kernel
theorem dX12_tried_104 : decode cX12_tried 104 = .ok (.iload_n 2, 1) := by decide +kernel
theorem dX12_tried_105 : decode cX12_tried 105 = .ok (.bipush 30, 2) := by decide +kernel
theorem dX12_tried_107 : decode cX12_tried 107 = .ok (.if_icmp .ge 18, 3) := by decide +kernel
theorem dX12_tried_110 : decode cX12_tried 110 = .ok (.aload_n 0, 1) := by decide +kernel
theorem dX12_tried_111 : decode cX12_tried 111 = .ok (.getfield 7, 3) := by decide +kernel
theorem dX12_tried_114 : decode cX12_tried 114 = .ok (.bipush 12, 2) := by decide +kernel
theorem dX12_tried_116 : decode cX12_tried 116 = .ok (.iload_n 2, 1) := by decide +kernel
theorem dX12_tried_117 : decode cX12_tried 117 = .ok (.iadd, 1) := by decide +kernel
theorem dX12_tried_118 : decode cX12_tried 118 = .ok (.bipush 20, 2) := by decide +kernel
theorem dX12_tried_120 : decode cX12_tried 120 = .ok (.isub, 1) := by decide +kernel
theorem dX12_tried_121 : decode cX12_tried 121 = .ok (.iaload, 1) := by decide +kernel
theorem dX12_tried_122 : decode cX12_tried 122 = .ok (.goto 15, 3) := by decide +kernel
theorem dX12_tried_125 : decode cX12_tried 125 = .ok (.aload_n 0, 1) := by decide +kernel
theorem dX12_tried_126 : decode cX12_tried 126 = .ok (.getfield 7, 3) := by decide +kernel
theorem dX12_tried_129 : decode cX12_tried 129 = .ok (.bipush 18, 2) := by decide +kernel
theorem dX12_tried_131 : decode cX12_tried 131 = .ok (.iload_n 2, 1) := by decide +kernel
theorem dX12_tried_132 : decode cX12_tried 132 = .ok (.iadd, 1) := by decide +kernel
theorem dX12_tried_133 : decode cX12_tried 133 = .ok (.bipush 30, 2) := by decide +kernel
theorem dX12_tried_135 : decode cX12_tried 135 = .ok (.isub, 1) := by decide +kernel
theorem dX12_tried_136 : decode cX12_tried 136 = .ok (.iaload, 1) := by decide +kernel
theorem dX12_tried_137 : decode cX12_tried 137 = .ok (.istore_n 3, 1) := by decide +kernel
theorem dX12_tried_138 : decode cX12_tried 138 = .ok (.aload_n 0, 1) := by decide +kernel
theorem dX12_tried_139 : decode cX12_tried 139 = .ok (.getfield 13, 3) := by decide +kernel
theorem dX12_tried_142 : decode cX12_tried 142 = .ok (.aload_n 0, 1) := by decide +kernel
theorem dX12_tried_143 : decode cX12_tried 143 = .ok (.getfield 7, 3) := by decide +kernel
theorem dX12_tried_146 : decode cX12_tried 146 = .ok (.invokestatic 346, 3) := by decide +kernel
theorem dX12_tried_149 : decode cX12_tried 149 = .ok (.iload_n 3, 1) := by decide +kernel
theorem dX12_tried_150 : decode cX12_tried 150 = .ok (.ireturn, 1) := by decide +kernel
theorem dX12_houndIs_0 : decode cX12_houndIs 0 = .ok (.aload_n 0, 1) := by decide +kernel
theorem dX12_houndIs_1 : decode cX12_houndIs 1 = .ok (.iload_n 1, 1) := by decide +kernel
theorem dX12_houndIs_2 : decode cX12_houndIs 2 = .ok (.invokevirtual 286, 3) := by decide +kernel
theorem dX12_houndIs_5 : decode cX12_houndIs 5 = .ok (.ifCond .eq 29, 3) := by decide +kernel
theorem dX12_houndIs_8 : decode cX12_houndIs 8 = .ok (.iload_n 2, 1) := by decide +kernel
theorem dX12_houndIs_9 : decode cX12_houndIs 9 = .ok (.iconst 0, 1) := by decide +kernel
theorem dX12_houndIs_10 : decode cX12_houndIs 10 = .ok (.iconst 3, 1) := by decide +kernel
theorem dX12_houndIs_11 : decode cX12_houndIs 11 = .ok (.invokestatic 118, 3) := by decide +kernel
theorem dX12_houndIs_14 : decode cX12_houndIs 14 = .ok (.ifCond .eq 20, 3) := by decide +kernel
theorem dX12_houndIs_17 : decode cX12_houndIs 17 = .ok (.aload_n 0, 1) := by decide +kernel
theorem dX12_houndIs_18 : decode cX12_houndIs 18 = .ok (.getfield 7, 3) := by decide +kernel
theorem dX12_houndIs_21 : decode cX12_houndIs 21 = .ok (.bipush 6, 2) := by decide +kernel
theorem dX12_houndIs_23 : decode cX12_houndIs 23 = .ok (.bipush 6, 2) := by decide +kernel
theorem dX12_houndIs_25 : decode cX12_houndIs 25 = .ok (.iload_n 2, 1) := by decide +kernel
theorem dX12_houndIs_26 : decode cX12_houndIs 26 = .ok (.imul, 1) := by decide +kernel
theorem dX12_houndIs_27 : decode cX12_houndIs 27 = .ok (.iadd, 1) := by decide +kernel
theorem dX12_houndIs_28 : decode cX12_houndIs 28 = .ok (.iload_n 1, 1) := by decide +kernel
theorem dX12_houndIs_29 : decode cX12_houndIs 29 = .ok (.iadd, 1) := by decide +kernel
theorem dX12_houndIs_30 : decode cX12_houndIs 30 = .ok (.iaload, 1) := by decide +kernel
theorem dX12_houndIs_31 : decode cX12_houndIs 31 = .ok (.goto 4, 3) := by decide +kernel
theorem dX12_houndIs_34 : decode cX12_houndIs 34 = .ok (.iconst (-1), 1) := by decide +kernel
theorem dX12_houndIs_35 : decode cX12_houndIs 35 = .ok (.ireturn, 1) := by decide +kernel
theorem dX12_lowestOf_0 : decode cX12_lowestOf 0 = .ok (.iconst 0, 1) := by decide +kernel
theorem dX12_lowestOf_1 : decode cX12_lowestOf 1 = .ok (.istore_n 1, 1) := by decide +kernel
theorem dX12_lowestOf_2 : decode cX12_lowestOf 2 = .ok (.iload_n 0, 1) := by decide +kernel
theorem dX12_lowestOf_3 : decode cX12_lowestOf 3 = .ok (.iload_n 1, 1) := by decide +kernel
theorem dX12_lowestOf_4 : decode cX12_lowestOf 4 = .ok (.invokestatic 350, 3) := by decide +kernel
theorem dX12_lowestOf_7 : decode cX12_lowestOf 7 = .ok (.ifCond .ne 10, 3) := by decide +kernel
theorem dX12_lowestOf_10 : decode cX12_lowestOf 10 = .ok (.iload_n 1, 1) := by decide +kernel
theorem dX12_lowestOf_11 : decode cX12_lowestOf 11 = .ok (.iconst 1, 1) := by decide +kernel
theorem dX12_lowestOf_12 : decode cX12_lowestOf 12 = .ok (.iadd, 1) := by decide +kernel
theorem dX12_lowestOf_13 : decode cX12_lowestOf 13 = .ok (.istore_n 1, 1) := by decide +kernel
theorem dX12_lowestOf_14 : decode cX12_lowestOf 14 = .ok (.goto (-12), 3) := by decide +kernel
theorem dX12_lowestOf_17 : decode cX12_lowestOf 17 = .ok (.iload_n 1, 1) := by decide +kernel
theorem dX12_lowestOf_18 : decode cX12_lowestOf 18 = .ok (.ireturn, 1) := by decide +kernel
theorem dX12_firstHome_0 : decode cX12_firstHome 0 = .ok (.iload_n 1, 1) := by decide +kernel
theorem dX12_firstHome_1 : decode cX12_firstHome 1 = .ok (.iconst 1, 1) := by decide +kernel
theorem dX12_firstHome_2 : decode cX12_firstHome 2 = .ok (.bipush 100, 2) := by decide +kernel
theorem dX12_firstHome_4 : decode cX12_firstHome 4 = .ok (.invokestatic 118, 3) := by decide +kernel
theorem dX12_firstHome_7 : decode cX12_firstHome 7 = .ok (.ifCond .eq 12, 3) := by decide +kernel
theorem dX12_firstHome_10 : decode cX12_firstHome 10 = .ok (.iload_n 2, 1) := by decide +kernel
theorem dX12_firstHome_11 : decode cX12_firstHome 11 = .ok (.iconst 0, 1) := by decide +kernel
theorem dX12_firstHome_12 : decode cX12_firstHome 12 = .ok (.iconst 1, 1) := by decide +kernel
theorem dX12_firstHome_13 : decode cX12_firstHome 13 = .ok (.invokestatic 118, 3) := by decide +kernel
theorem dX12_firstHome_16 : decode cX12_firstHome 16 = .ok (.ifCond .ne 5, 3) := by decide +kernel
theorem dX12_firstHome_19 : decode cX12_firstHome 19 = .ok (.iconst (-1), 1) := by decide +kernel
theorem dX12_firstHome_20 : decode cX12_firstHome 20 = .ok (.ireturn, 1) := by decide +kernel
theorem dX12_firstHome_21 : decode cX12_firstHome 21 = .ok (.aload_n 0, 1) := by decide +kernel
theorem dX12_firstHome_22 : decode cX12_firstHome 22 = .ok (.getfield 7, 3) := by decide +kernel
theorem dX12_firstHome_25 : decode cX12_firstHome 25 = .ok (.aload_n 0, 1) := by decide +kernel
theorem dX12_firstHome_26 : decode cX12_firstHome 26 = .ok (.getfield 13, 3) := by decide +kernel
theorem dX12_firstHome_29 : decode cX12_firstHome 29 = .ok (.invokestatic 346, 3) := by decide +kernel
