theorem dX10_init_33 : decode cX10_init 33 = .ok (.aload_n 0, 1) := by decide +kernel
theorem dX10_init_34 : decode cX10_init 34 = .ok (.iconst 0, 1) := by decide +kernel
theorem dX10_init_35 : decode cX10_init 35 = .ok (.putfield 28, 3) := by decide +kernel
theorem dX10_init_38 : decode cX10_init 38 = .ok (.return_, 1) := by decide +kernel
theorem dX10_hasRoom_0 : decode cX10_hasRoom 0 = .ok (.aload_n 0, 1) := by decide +kernel
theorem dX10_hasRoom_1 : decode cX10_hasRoom 1 = .ok (.getfield 15, 3) := by decide +kernel
theorem dX10_hasRoom_4 : decode cX10_hasRoom 4 = .ok (.iload_n 1, 1) := by decide +kernel
theorem dX10_hasRoom_5 : decode cX10_hasRoom 5 = .ok (.iadd, 1) := by decide +kernel
theorem dX10_hasRoom_6 : decode cX10_hasRoom 6 = .ok (.aload_n 0, 1) := by decide +kernel
theorem dX10_hasRoom_7 : decode cX10_hasRoom 7 = .ok (.getfield 9, 3) := by decide +kernel
theorem dX10_hasRoom_10 : decode cX10_hasRoom 10 = .ok (.arraylength, 1) := by decide +kernel
theorem dX10_hasRoom_11 : decode cX10_hasRoom 11 = .ok (.if_icmp .gt 7, 3) := by decide +kernel
theorem dX10_hasRoom_14 : decode cX10_hasRoom 14 = .ok (.iconst 1, 1) := by decide +kernel
theorem dX10_hasRoom_15 : decode cX10_hasRoom 15 = .ok (.goto 4, 3) := by decide +kernel
theorem dX10_hasRoom_18 : decode cX10_hasRoom 18 = .ok (.iconst 0, 1) := by decide +kernel
theorem dX10_hasRoom_19 : decode cX10_hasRoom 19 = .ok (.ireturn, 1) := by decide +kernel
theorem dX10_append_0 : decode cX10_append 0 = .ok (.bipush 24, 2) := by decide +kernel
theorem dX10_append_2 : decode cX10_append 2 = .ok (.istore_n 2, 1) := by decide +kernel
theorem dX10_append_3 : decode cX10_append 3 = .ok (.iload_n 2, 1) := by decide +kernel
theorem dX10_append_4 : decode cX10_append 4 = .ok (.ifCond .lt 47, 3) := by decide +kernel
theorem dX10_append_7 : decode cX10_append 7 = .ok (.aload_n 0, 1) := by decide +kernel
theorem dX10_append_8 : decode cX10_append 8 = .ok (.getfield 15, 3) := by decide +kernel
theorem dX10_append_11 : decode cX10_append 11 = .ok (.aload_n 0, 1) := by decide +kernel
theorem dX10_append_12 : decode cX10_append 12 = .ok (.getfield 9, 3) := by decide +kernel
theorem dX10_append_15 : decode cX10_append 15 = .ok (.arraylength, 1) := by decide +kernel
theorem dX10_append_16 : decode cX10_append 16 = .ok (.if_icmp .ge 35, 3) := by decide +kernel
theorem dX10_append_19 : decode cX10_append 19 = .ok (.aload_n 0, 1) := by decide +kernel
theorem dX10_append_20 : decode cX10_append 20 = .ok (.getfield 9, 3) := by decide +kernel
theorem dX10_append_23 : decode cX10_append 23 = .ok (.aload_n 0, 1) := by decide +kernel
theorem dX10_append_24 : decode cX10_append 24 = .ok (.getfield 15, 3) := by decide +kernel
theorem dX10_append_27 : decode cX10_append 27 = .ok (.iload_n 1, 1) := by decide +kernel
theorem dX10_append_28 : decode cX10_append 28 = .ok (.iload_n 2, 1) := by decide +kernel
theorem dX10_append_29 : decode cX10_append 29 = .ok (.ishr, 1) := by decide +kernel
theorem dX10_append_30 : decode cX10_append 30 = .ok (.sipush 255, 3) := by decide +kernel
theorem dX10_append_33 : decode cX10_append 33 = .ok (.iand, 1) := by decide +kernel
theorem dX10_append_34 : decode cX10_append 34 = .ok (.iastore, 1) := by decide +kernel
theorem dX10_append_35 : decode cX10_append 35 = .ok (.aload_n 0, 1) := by decide +kernel
theorem dX10_append_36 : decode cX10_append 36 = .ok (.dup, 1) := by decide +kernel
theorem dX10_append_37 : decode cX10_append 37 = .ok (.getfield 15, 3) := by decide +kernel
theorem dX10_append_40 : decode cX10_append 40 = .ok (.iconst 1, 1) := by decide +kernel
theorem dX10_append_41 : decode cX10_append 41 = .ok (.iadd, 1) := by decide +kernel
theorem dX10_append_42 : decode cX10_append 42 = .ok (.putfield 15, 3) := by decide +kernel
theorem dX10_append_45 : decode cX10_append 45 = .ok (.iinc 2 (-8), 3) := by decide +kernel
theorem dX10_append_48 : decode cX10_append 48 = .ok (.goto (-45), 3) := by decide +kernel
theorem dX10_append_51 : decode cX10_append 51 = .ok (.return_, 1) := by decide +kernel
theorem dX10_has_0 : decode cX10_has 0 = .ok (.iload_n 1, 1) := by decide +kernel
theorem dX10_has_1 : decode cX10_has 1 = .ok (.aload_n 0, 1) := by decide +kernel
theorem dX10_has_2 : decode cX10_has 2 = .ok (.getfield 15, 3) := by decide +kernel
theorem dX10_has_5 : decode cX10_has 5 = .ok (.if_icmp .gt 7, 3) := by decide +kernel
theorem dX10_has_8 : decode cX10_has 8 = .ok (.iconst 1, 1) := by decide +kernel
theorem dX10_has_9 : decode cX10_has 9 = .ok (.goto 4, 3) := by decide +kernel
theorem dX10_has_12 : decode cX10_has 12 = .ok (.iconst 0, 1) := by decide +kernel
theorem dX10_has_13 : decode cX10_has 13 = .ok (.ireturn, 1) := by decide +kernel
theorem dX10_canTell_0 : decode cX10_canTell 0 = .ok (.iload_n 1, 1) := by decide +kernel
theorem dX10_canTell_1 : decode cX10_canTell 1 = .ok (.iconst 1, 1) := by decide +kernel
theorem dX10_canTell_2 : decode cX10_canTell 2 = .ok (.if_icmp .lt 20, 3) := by decide +kernel
theorem dX10_canTell_5 : decode cX10_canTell 5 = .ok (.iload_n 1, 1) := by decide +kernel
theorem dX10_canTell_6 : decode cX10_canTell 6 = .ok (.iload_n 2, 1) := by decide +kernel
theorem dX10_canTell_7 : decode cX10_canTell 7 = .ok (.if_icmp .gt 15, 3) := by decide +kernel
theorem dX10_canTell_10 : decode cX10_canTell 10 = .ok (.aload_n 0, 1) := by decide +kernel
theorem dX10_canTell_11 : decode cX10_canTell 11 = .ok (.iload_n 1, 1) := by decide +kernel
theorem dX10_canTell_12 : decode cX10_canTell 12 = .ok (.invokevirtual 31, 3) := by decide +kernel
theorem dX10_canTell_15 : decode cX10_canTell 15 = .ok (.ifCond .eq 7, 3) := by decide +kernel
theorem dX10_canTell_18 : decode cX10_canTell 18 = .ok (.iconst 1, 1) := by decide +kernel
theorem dX10_canTell_19 : decode cX10_canTell 19 = .ok (.goto 4, 3) := by decide +kernel
theorem dX10_canTell_22 : decode cX10_canTell 22 = .ok (.iconst 0, 1) := by decide +kernel
theorem dX10_canTell_23 : decode cX10_canTell 23 = .ok (.ireturn, 1) := by decide +kernel
theorem dX10_byteAt_0 : decode cX10_byteAt 0 = .ok (.iload_n 1, 1) := by decide +kernel
theorem dX10_byteAt_1 : decode cX10_byteAt 1 = .ok (.ifCond .lt 21, 3) := by decide +kernel
theorem dX10_byteAt_4 : decode cX10_byteAt 4 = .ok (.iload_n 1, 1) := by decide +kernel
theorem dX10_byteAt_5 : decode cX10_byteAt 5 = .ok (.aload_n 0, 1) := by decide +kernel
theorem dX10_byteAt_6 : decode cX10_byteAt 6 = .ok (.getfield 9, 3) := by decide +kernel
theorem dX10_byteAt_9 : decode cX10_byteAt 9 = .ok (.arraylength, 1) := by decide +kernel
theorem dX10_byteAt_10 : decode cX10_byteAt 10 = .ok (.if_icmp .ge 12, 3) := by decide +kernel
theorem dX10_byteAt_13 : decode cX10_byteAt 13 = .ok (.aload_n 0, 1) := by decide +kernel
theorem dX10_byteAt_14 : decode cX10_byteAt 14 = .ok (.getfield 9, 3) := by decide +kernel
theorem dX10_byteAt_17 : decode cX10_byteAt 17 = .ok (.iload_n 1, 1) := by decide +kernel
theorem dX10_byteAt_18 : decode cX10_byteAt 18 = .ok (.iaload, 1) := by decide +kernel
theorem dX10_byteAt_19 : decode cX10_byteAt 19 = .ok (.goto 4, 3) := by decide +kernel
theorem dX10_byteAt_22 : decode cX10_byteAt 22 = .ok (.iconst 0, 1) := by decide +kernel
theorem dX10_byteAt_23 : decode cX10_byteAt 23 = .ok (.ireturn, 1) := by decide +kernel
theorem dX10_empty_0 : decode cX10_empty 0 = .ok (.aload_n 0, 1) := by decide +kernel
theorem dX10_empty_1 : decode cX10_empty 1 = .ok (.iconst 0, 1) := by decide +kernel
theorem dX10_empty_2 : decode cX10_empty 2 = .ok (.putfield 15, 3) := by decide +kernel
theorem dX10_empty_5 : decode cX10_empty 5 = .ok (.return_, 1) := by decide +kernel
theorem dX10_open_0 : decode cX10_open 0 = .ok (.aload_n 0, 1) := by decide +kernel
theorem dX10_open_1 : decode cX10_open 1 = .ok (.iload_n 1, 1) := by decide +kernel
theorem dX10_open_2 : decode cX10_open 2 = .ok (.putfield 19, 3) := by decide +kernel
theorem dX10_open_5 : decode cX10_open 5 = .ok (.aload_n 0, 1) := by decide +kernel
theorem dX10_open_6 : decode cX10_open 6 = .ok (.iconst 0, 1) := by decide +kernel
theorem dX10_open_7 : decode cX10_open 7 = .ok (.putfield 22, 3) := by decide +kernel
theorem dX10_open_10 : decode cX10_open 10 = .ok (.aload_n 0, 1) := by decide +kernel
theorem dX10_open_11 : decode cX10_open 11 = .ok (.iconst 0, 1) := by decide +kernel
theorem dX10_open_12 : decode cX10_open 12 = .ok (.putfield 25, 3) := by decide +kernel
theorem dX10_open_15 : decode cX10_open 15 = .ok (.aload_n 0, 1) := by decide +kernel
theorem dX10_open_16 : decode cX10_open 16 = .ok (.iconst 0, 1) := by decide +kernel
theorem dX10_open_17 : decode cX10_open 17 = .ok (.putfield 28, 3) := by decide +kernel
theorem dX10_open_20 : decode cX10_open 20 = .ok (.return_, 1) := by decide +kernel
theorem dX10_sign_0 : decode cX10_sign 0 = .ok (.aload_n 0, 1) := by decide +kernel
theorem dX10_sign_1 : decode cX10_sign 1 = .ok (.getfield 25, 3) := by decide +kernel
theorem dX10_sign_4 : decode cX10_sign 4 = .ok (.ifCond .ne 38, 3) := by decide +kernel
theorem dX10_sign_7 : decode cX10_sign 7 = .ok (.aload_n 0, 1) := by decide +kernel
theorem dX10_sign_8 : decode cX10_sign 8 = .ok (.getfield 22, 3) := by decide +kernel
theorem dX10_sign_11 : decode cX10_sign 11 = .ok (.aload_n 0, 1) := by decide +kernel
theorem dX10_sign_12 : decode cX10_sign 12 = .ok (.getfield 19, 3) := by decide +kernel
theorem dX10_sign_15 : decode cX10_sign 15 = .ok (.if_icmp .ge 27, 3) := by decide +kernel
theorem dX10_sign_18 : decode cX10_sign 18 = .ok (.aload_n 0, 1) := by decide +kernel
theorem dX10_sign_19 : decode cX10_sign 19 = .ok (.getfield 22, 3) := by decide +kernel
theorem dX10_sign_22 : decode cX10_sign 22 = .ok (.aload_n 0, 1) := by decide +kernel
theorem dX10_sign_23 : decode cX10_sign 23 = .ok (.getfield 9, 3) := by decide +kernel
theorem dX10_sign_26 : decode cX10_sign 26 = .ok (.arraylength, 1) := by decide +kernel
theorem dX10_sign_27 : decode cX10_sign 27 = .ok (.if_icmp .ge 15, 3) := by decide +kernel
theorem dX10_sign_30 : decode cX10_sign 30 = .ok (.aload_n 0, 1) := by decide +kernel
theorem dX10_sign_31 : decode cX10_sign 31 = .ok (.getfield 9, 3) := by decide +kernel
theorem dX10_sign_34 : decode cX10_sign 34 = .ok (.aload_n 0, 1) := by decide +kernel
theorem dX10_sign_35 : decode cX10_sign 35 = .ok (.getfield 22, 3) := by decide +kernel
theorem dX10_sign_38 : decode cX10_sign 38 = .ok (.iaload, 1) := by decide +kernel
theorem dX10_sign_39 : decode cX10_sign 39 = .ok (.goto 4, 3) := by decide +kernel
theorem dX10_sign_42 : decode cX10_sign 42 = .ok (.iconst (-1), 1) := by decide +kernel
theorem dX10_sign_43 : decode cX10_sign 43 = .ok (.ireturn, 1) := by decide +kernel
theorem dX10_isAt_0 : decode cX10_isAt 0 = .ok (.aload_n 0, 1) := by decide +kernel
theorem dX10_isAt_1 : decode cX10_isAt 1 = .ok (.invokevirtual 35, 3) := by decide +kernel
theorem dX10_isAt_4 : decode cX10_isAt 4 = .ok (.iload_n 1, 1) := by decide +kernel
theorem dX10_isAt_5 : decode cX10_isAt 5 = .ok (.if_icmp .ne 7, 3) := by decide +kernel
theorem dX10_isAt_8 : decode cX10_isAt 8 = .ok (.iconst 1, 1) := by decide +kernel
theorem dX10_isAt_9 : decode cX10_isAt 9 = .ok (.goto 4, 3) := by decide +kernel
theorem dX10_isAt_12 : decode cX10_isAt 12 = .ok (.iconst 0, 1) := by decide +kernel
theorem dX10_isAt_13 : decode cX10_isAt 13 = .ok (.ireturn, 1) := by decide +kernel
theorem dX10_isDigit_0 : decode cX10_isDigit 0 = .ok (.iload_n 0, 1) := by decide +kernel
theorem dX10_isDigit_1 : decode cX10_isDigit 1 = .ok (.bipush 48, 2) := by decide +kernel
theorem dX10_isDigit_3 : decode cX10_isDigit 3 = .ok (.if_icmp .lt 13, 3) := by decide +kernel
theorem dX10_isDigit_6 : decode cX10_isDigit 6 = .ok (.iload_n 0, 1) := by decide +kernel
theorem dX10_isDigit_7 : decode cX10_isDigit 7 = .ok (.bipush 57, 2) := by decide +kernel
theorem dX10_isDigit_9 : decode cX10_isDigit 9 = .ok (.if_icmp .gt 7, 3) := by decide +kernel
theorem dX10_isDigit_12 : decode cX10_isDigit 12 = .ok (.iconst 1, 1) := by decide +kernel
theorem dX10_isDigit_13 : decode cX10_isDigit 13 = .ok (.goto 4, 3) := by decide +kernel
theorem dX10_isDigit_16 : decode cX10_isDigit 16 = .ok (.iconst 0, 1) := by decide +kernel
theorem dX10_isDigit_17 : decode cX10_isDigit 17 = .ok (.ireturn, 1) := by decide +kernel
theorem dX10_pass_0 : decode cX10_pass 0 = .ok (.aload_n 0, 1) := by decide +kernel
theorem dX10_pass_1 : decode cX10_pass 1 = .ok (.getfield 22, 3) := by decide +kernel
theorem dX10_pass_4 : decode cX10_pass 4 = .ok (.aload_n 0, 1) := by decide +kernel
theorem dX10_pass_5 : decode cX10_pass 5 = .ok (.getfield 19, 3) := by decide +kernel
theorem dX10_pass_8 : decode cX10_pass 8 = .ok (.if_icmp .ge 13, 3) := by decide +kernel
theorem dX10_pass_11 : decode cX10_pass 11 = .ok (.aload_n 0, 1) := by decide +kernel
theorem dX10_pass_12 : decode cX10_pass 12 = .ok (.dup, 1) := by decide +kernel
theorem dX10_pass_13 : decode cX10_pass 13 = .ok (.getfield 22, 3) := by decide +kernel
theorem dX10_pass_16 : decode cX10_pass 16 = .ok (.iconst 1, 1) := by decide +kernel
theorem dX10_pass_17 : decode cX10_pass 17 = .ok (.iadd, 1) := by decide +kernel
theorem dX10_pass_18 : decode cX10_pass 18 = .ok (.putfield 22, 3) := by decide +kernel
theorem dX10_pass_21 : decode cX10_pass 21 = .ok (.return_, 1) := by decide +kernel
theorem dX10_expect_0 : decode cX10_expect 0 = .ok (.aload_n 0, 1) := by decide +kernel
theorem dX10_expect_1 : decode cX10_expect 1 = .ok (.invokevirtual 35, 3) := by decide +kernel
theorem dX10_expect_4 : decode cX10_expect 4 = .ok (.iload_n 1, 1) := by decide +kernel
theorem dX10_expect_5 : decode cX10_expect 5 = .ok (.if_icmp .ne 10, 3) := by decide +kernel
theorem dX10_expect_8 : decode cX10_expect 8 = .ok (.aload_n 0, 1) := by decide +kernel
theorem dX10_expect_9 : decode cX10_expect 9 = .ok (.invokevirtual 39, 3) := by decide +kernel
theorem dX10_expect_12 : decode cX10_expect 12 = .ok (.goto 8, 3) := by decide +kernel
theorem dX10_expect_15 : decode cX10_expect 15 = .ok (.aload_n 0, 1) := by decide +kernel
theorem dX10_expect_16 : decode cX10_expect 16 = .ok (.iconst 1, 1) := by decide +kernel
theorem dX10_expect_17 : decode cX10_expect 17 = .ok (.invokevirtual 42, 3) := by decide +kernel
theorem dX10_expect_20 : decode cX10_expect 20 = .ok (.return_, 1) := by decide +kernel
theorem dX10_number_0 : decode cX10_number 0 = .ok (.aload_n 0, 1) := by decide +kernel
theorem dX10_number_1 : decode cX10_number 1 = .ok (.invokevirtual 35, 3) := by decide +kernel
theorem dX10_number_4 : decode cX10_number 4 = .ok (.invokestatic 46, 3) := by decide +kernel
theorem dX10_number_7 : decode cX10_number 7 = .ok (.ifCond .ne 10, 3) := by decide +kernel
theorem dX10_number_10 : decode cX10_number 10 = .ok (.aload_n 0, 1) := by decide +kernel
theorem dX10_number_11 : decode cX10_number 11 = .ok (.iconst 1, 1) := by decide +kernel
theorem dX10_number_12 : decode cX10_number 12 = .ok (.invokevirtual 42, 3) := by decide +kernel
theorem dX10_number_15 : decode cX10_number 15 = .ok (.iconst 0, 1) := by decide +kernel
theorem dX10_number_16 : decode cX10_number 16 = .ok (.ireturn, 1) := by decide +kernel
theorem dX10_number_17 : decode cX10_number 17 = .ok (.iconst 0, 1) := by decide +kernel
theorem dX10_number_18 : decode cX10_number 18 = .ok (.istore_n 2, 1) := by decide +kernel
theorem dX10_number_19 : decode cX10_number 19 = .ok (.iconst 0, 1) := by decide +kernel
theorem dX10_number_20 : decode cX10_number 20 = .ok (.istore_n 3, 1) := by decide +kernel
theorem dX10_number_21 : decode cX10_number 21 = .ok (.iload_n 3, 1) := by decide +kernel
theorem dX10_number_22 : decode cX10_number 22 = .ok (.iload_n 1, 1) := by decide +kernel
theorem dX10_number_23 : decode cX10_number 23 = .ok (.if_icmp .ge 36, 3) := by decide +kernel
theorem dX10_number_26 : decode cX10_number 26 = .ok (.aload_n 0, 1) := by decide +kernel
theorem dX10_number_27 : decode cX10_number 27 = .ok (.invokevirtual 35, 3) := by decide +kernel
theorem dX10_number_30 : decode cX10_number 30 = .ok (.invokestatic 46, 3) := by decide +kernel
theorem dX10_number_33 : decode cX10_number 33 = .ok (.ifCond .eq 26, 3) := by decide +kernel
theorem dX10_number_36 : decode cX10_number 36 = .ok (.bipush 10, 2) := by decide +kernel
theorem dX10_number_38 : decode cX10_number 38 = .ok (.iload_n 2, 1) := by decide +kernel
theorem dX10_number_39 : decode cX10_number 39 = .ok (.imul, 1) := by decide +kernel
theorem dX10_number_40 : decode cX10_number 40 = .ok (.aload_n 0, 1) := by decide +kernel
theorem dX10_number_41 : decode cX10_number 41 = .ok (.invokevirtual 35, 3) := by decide +kernel
theorem dX10_number_44 : decode cX10_number 44 = .ok (.iadd, 1) := by decide +kernel
theorem dX10_number_45 : decode cX10_number 45 = .ok (.bipush 48, 2) := by decide +kernel
theorem dX10_number_47 : decode cX10_number 47 = .ok (.isub, 1) := by decide +kernel
theorem dX10_number_48 : decode cX10_number 48 = .ok (.istore_n 2, 1) := by decide +kernel
theorem dX10_number_49 : decode cX10_number 49 = .ok (.aload_n 0, 1) := by decide +kernel
theorem dX10_number_50 : decode cX10_number 50 = .ok (.invokevirtual 39, 3) := by decide +kernel
theorem dX10_number_53 : decode cX10_number 53 = .ok (.iinc 3 1, 3) := by decide +kernel
theorem dX10_number_56 : decode cX10_number 56 = .ok (.goto (-35), 3) := by decide +kernel
theorem dX10_number_59 : decode cX10_number 59 = .ok (.aload_n 0, 1) := by decide +kernel
theorem dX10_number_60 : decode cX10_number 60 = .ok (.invokevirtual 35, 3) := by decide +kernel
theorem dX10_number_63 : decode cX10_number 63 = .ok (.invokestatic 46, 3) := by decide +kernel
theorem dX10_number_66 : decode cX10_number 66 = .ok (.ifCond .eq 8, 3) := by decide +kernel
theorem dX10_number_69 : decode cX10_number 69 = .ok (.aload_n 0, 1) := by decide +kernel
theorem dX10_number_70 : decode cX10_number 70 = .ok (.iconst 2, 1) := by decide +kernel
theorem dX10_number_71 : decode cX10_number 71 = .ok (.invokevirtual 42, 3) := by decide +kernel
theorem dX10_number_74 : decode cX10_number 74 = .ok (.iload_n 2, 1) := by decide +kernel
theorem dX10_number_75 : decode cX10_number 75 = .ok (.ireturn, 1) := by decide +kernel
theorem dX10_failHere_0 : decode cX10_failHere 0 = .ok (.aload_n 0, 1) := by decide +kernel
theorem dX10_failHere_1 : decode cX10_failHere 1 = .ok (.getfield 25, 3) := by decide +kernel
theorem dX10_failHere_4 : decode cX10_failHere 4 = .ok (.ifCond .ne 16, 3) := by decide +kernel
theorem dX10_failHere_7 : decode cX10_failHere 7 = .ok (.aload_n 0, 1) := by decide +kernel
theorem dX10_failHere_8 : decode cX10_failHere 8 = .ok (.iload_n 1, 1) := by decide +kernel
theorem dX10_failHere_9 : decode cX10_failHere 9 = .ok (.putfield 25, 3) := by decide +kernel
theorem dX10_failHere_12 : decode cX10_failHere 12 = .ok (.aload_n 0, 1) := by decide +kernel
theorem dX10_failHere_13 : decode cX10_failHere 13 = .ok (.aload_n 0, 1) := by decide +kernel
theorem dX10_failHere_14 : decode cX10_failHere 14 = .ok (.getfield 22, 3) := by decide +kernel
theorem dX10_failHere_17 : decode cX10_failHere 17 = .ok (.putfield 28, 3) := by decide +kernel
theorem dX10_failHere_20 : decode cX10_failHere 20 = .ok (.return_, 1) := by decide +kernel
theorem dX10_failAt_0 : decode cX10_failAt 0 = .ok (.aload_n 0, 1) := by decide +kernel
theorem dX10_failAt_1 : decode cX10_failAt 1 = .ok (.getfield 25, 3) := by decide +kernel
theorem dX10_failAt_4 : decode cX10_failAt 4 = .ok (.ifCond .ne 13, 3) := by decide +kernel
theorem dX10_failAt_7 : decode cX10_failAt 7 = .ok (.aload_n 0, 1) := by decide +kernel
theorem dX10_failAt_8 : decode cX10_failAt 8 = .ok (.iload_n 1, 1) := by decide +kernel
theorem dX10_failAt_9 : decode cX10_failAt 9 = .ok (.putfield 25, 3) := by decide +kernel
theorem dX10_failAt_12 : decode cX10_failAt 12 = .ok (.aload_n 0, 1) := by decide +kernel
theorem dX10_failAt_13 : decode cX10_failAt 13 = .ok (.iload_n 2, 1) := by decide +kernel
theorem dX10_failAt_14 : decode cX10_failAt 14 = .ok (.putfield 28, 3) := by decide +kernel
theorem dX10_failAt_17 : decode cX10_failAt 17 = .ok (.return_, 1) := by decide +kernel
theorem dX10_isSound_0 : decode cX10_isSound 0 = .ok (.aload_n 0, 1) := by decide +kernel
theorem dX10_isSound_1 : decode cX10_isSound 1 = .ok (.getfield 25, 3) := by decide +kernel
theorem dX10_isSound_4 : decode cX10_isSound 4 = .ok (.ifCond .ne 7, 3) := by decide +kernel
theorem dX10_isSound_7 : decode cX10_isSound 7 = .ok (.iconst 1, 1) := by decide +kernel
theorem dX10_isSound_8 : decode cX10_isSound 8 = .ok (.goto 4, 3) := by decide +kernel
theorem dX10_isSound_11 : decode cX10_isSound 11 = .ok (.iconst 0, 1) := by decide +kernel
theorem dX10_isSound_12 : decode cX10_isSound 12 = .ok (.ireturn, 1) := by decide +kernel
theorem dX10_faultAnswer_0 : decode cX10_faultAnswer 0 = .ok (.sipush (-1000), 3) := by decide +kernel
theorem dX10_faultAnswer_3 : decode cX10_faultAnswer 3 = .ok (.aload_n 0, 1) := by decide +kernel
theorem dX10_faultAnswer_4 : decode cX10_faultAnswer 4 = .ok (.getfield 25, 3) := by decide +kernel
theorem dX10_faultAnswer_7 : decode cX10_faultAnswer 7 = .ok (.imul, 1) := by decide +kernel
theorem dX10_faultAnswer_8 : decode cX10_faultAnswer 8 = .ok (.aload_n 0, 1) := by decide +kernel
theorem dX10_faultAnswer_9 : decode cX10_faultAnswer 9 = .ok (.getfield 28, 3) := by decide +kernel
theorem dX10_faultAnswer_12 : decode cX10_faultAnswer 12 = .ok (.isub, 1) := by decide +kernel
theorem dX10_faultAnswer_13 : decode cX10_faultAnswer 13 = .ok (.ireturn, 1) := by decide +kernel
theorem dX11_init_0 : decode cX11_init 0 = .ok (.aload_n 0, 1) := by decide +kernel
theorem dX11_init_1 : decode cX11_init 1 = .ok (.invokespecial 1, 3) := by decide +kernel
theorem dX11_init_4 : decode cX11_init 4 = .ok (.aload_n 0, 1) := by decide +kernel
theorem dX11_init_5 : decode cX11_init 5 = .ok (.new 7, 3) := by decide +kernel
theorem dX11_init_8 : decode cX11_init 8 = .ok (.dup, 1) := by decide +kernel
theorem dX11_init_9 : decode cX11_init 9 = .ok (.invokespecial 9, 3) := by decide +kernel
theorem dX11_init_12 : decode cX11_init 12 = .ok (.putfield 10, 3) := by decide +kernel
theorem dX11_init_15 : decode cX11_init 15 = .ok (.aload_n 0, 1) := by decide +kernel
theorem dX11_init_16 : decode cX11_init 16 = .ok (.new 16, 3) := by decide +kernel
theorem dX11_init_19 : decode cX11_init 19 = .ok (.dup, 1) := by decide +kernel
theorem dX11_init_20 : decode cX11_init 20 = .ok (.invokespecial 18, 3) := by decide +kernel
theorem dX11_init_23 : decode cX11_init 23 = .ok (.putfield 19, 3) := by decide +kernel
theorem dX11_init_26 : decode cX11_init 26 = .ok (.aload_n 0, 1) := by decide +kernel
theorem dX11_init_27 : decode cX11_init 27 = .ok (.new 23, 3) := by decide +kernel
theorem dX11_init_30 : decode cX11_init 30 = .ok (.dup, 1) := by decide +kernel
theorem dX11_init_31 : decode cX11_init 31 = .ok (.aload_n 0, 1) := by decide +kernel
theorem dX11_init_32 : decode cX11_init 32 = .ok (.getfield 10, 3) := by decide +kernel
theorem dX11_init_35 : decode cX11_init 35 = .ok (.invokespecial 25, 3) := by decide +kernel
theorem dX11_init_38 : decode cX11_init 38 = .ok (.putfield 28, 3) := by decide +kernel
theorem dX11_init_41 : decode cX11_init 41 = .ok (.aload_n 0, 1) := by decide +kernel
theorem dX11_init_42 : decode cX11_init 42 = .ok (.new 32, 3) := by decide +kernel
theorem dX11_init_45 : decode cX11_init 45 = .ok (.dup, 1) := by decide +kernel
theorem dX11_init_46 : decode cX11_init 46 = .ok (.aload_n 0, 1) := by decide +kernel
theorem dX11_init_47 : decode cX11_init 47 = .ok (.getfield 10, 3) := by decide +kernel
theorem dX11_init_50 : decode cX11_init 50 = .ok (.invokespecial 34, 3) := by decide +kernel
theorem dX11_init_53 : decode cX11_init 53 = .ok (.putfield 35, 3) := by decide +kernel
theorem dX11_init_56 : decode cX11_init 56 = .ok (.aload_n 0, 1) := by decide +kernel
theorem dX11_init_57 : decode cX11_init 57 = .ok (.new 39, 3) := by decide +kernel
theorem dX11_init_60 : decode cX11_init 60 = .ok (.dup, 1) := by decide +kernel
theorem dX11_init_61 : decode cX11_init 61 = .ok (.aload_n 0, 1) := by decide +kernel
theorem dX11_init_62 : decode cX11_init 62 = .ok (.getfield 10, 3) := by decide +kernel
theorem dX11_init_65 : decode cX11_init 65 = .ok (.invokespecial 41, 3) := by decide +kernel
theorem dX11_init_68 : decode cX11_init 68 = .ok (.putfield 42, 3) := by decide +kernel
theorem dX11_init_71 : decode cX11_init 71 = .ok (.aload_n 0, 1) := by decide +kernel
theorem dX11_init_72 : decode cX11_init 72 = .ok (.new 46, 3) := by decide +kernel
theorem dX11_init_75 : decode cX11_init 75 = .ok (.dup, 1) := by decide +kernel
theorem dX11_init_76 : decode cX11_init 76 = .ok (.invokespecial 48, 3) := by decide +kernel
theorem dX11_init_79 : decode cX11_init 79 = .ok (.putfield 49, 3) := by decide +kernel
theorem dX11_init_82 : decode cX11_init 82 = .ok (.aload_n 0, 1) := by decide +kernel
theorem dX11_init_83 : decode cX11_init 83 = .ok (.new 53, 3) := by decide +kernel
theorem dX11_init_86 : decode cX11_init 86 = .ok (.dup, 1) := by decide +kernel
theorem dX11_init_87 : decode cX11_init 87 = .ok (.aload_n 0, 1) := by decide +kernel
theorem dX11_init_88 : decode cX11_init 88 = .ok (.getfield 19, 3) := by decide +kernel
theorem dX11_init_91 : decode cX11_init 91 = .ok (.aload_n 0, 1) := by decide +kernel
theorem dX11_init_92 : decode cX11_init 92 = .ok (.getfield 49, 3) := by decide +kernel
theorem dX11_init_95 : decode cX11_init 95 = .ok (.invokespecial 55, 3) := by decide +kernel
theorem dX11_init_98 : decode cX11_init 98 = .ok (.putfield 58, 3) := by decide +kernel
theorem dX11_init_101 : decode cX11_init 101 = .ok (.aload_n 0, 1) := by decide +kernel
theorem dX11_init_102 : decode cX11_init 102 = .ok (.new 62, 3) := by decide +kernel
theorem dX11_init_105 : decode cX11_init 105 = .ok (.dup, 1) := by decide +kernel
theorem dX11_init_106 : decode cX11_init 106 = .ok (.aload_n 0, 1) := by decide +kernel
theorem dX11_init_107 : decode cX11_init 107 = .ok (.getfield 19, 3) := by decide +kernel
theorem dX11_init_110 : decode cX11_init 110 = .ok (.invokespecial 64, 3) := by decide +kernel
theorem dX11_init_113 : decode cX11_init 113 = .ok (.putfield 67, 3) := by decide +kernel
theorem dX11_init_116 : decode cX11_init 116 = .ok (.aload_n 0, 1) := by decide +kernel
theorem dX11_init_117 : decode cX11_init 117 = .ok (.new 71, 3) := by decide +kernel
theorem dX11_init_120 : decode cX11_init 120 = .ok (.dup, 1) := by decide +kernel
theorem dX11_init_121 : decode cX11_init 121 = .ok (.invokespecial 73, 3) := by decide +kernel
theorem dX11_init_124 : decode cX11_init 124 = .ok (.putfield 74, 3) := by decide +kernel
theorem dX11_init_127 : decode cX11_init 127 = .ok (.aload_n 0, 1) := by decide +kernel
theorem dX11_init_128 : decode cX11_init 128 = .ok (.new 71, 3) := by decide +kernel
theorem dX11_init_131 : decode cX11_init 131 = .ok (.dup, 1) := by decide +kernel
theorem dX11_init_132 : decode cX11_init 132 = .ok (.invokespecial 73, 3) := by decide +kernel
theorem dX11_init_135 : decode cX11_init 135 = .ok (.putfield 78, 3) := by decide +kernel
theorem dX11_init_138 : decode cX11_init 138 = .ok (.aload_n 0, 1) := by decide +kernel
theorem dX11_init_139 : decode cX11_init 139 = .ok (.new 71, 3) := by decide +kernel
theorem dX11_init_142 : decode cX11_init 142 = .ok (.dup, 1) := by decide +kernel
theorem dX11_init_143 : decode cX11_init 143 = .ok (.invokespecial 73, 3) := by decide +kernel
theorem dX11_init_146 : decode cX11_init 146 = .ok (.putfield 81, 3) := by decide +kernel
theorem dX11_init_149 : decode cX11_init 149 = .ok (.aload_n 0, 1) := by decide +kernel
theorem dX11_init_150 : decode cX11_init 150 = .ok (.iconst 0, 1) := by decide +kernel
theorem dX11_init_151 : decode cX11_init 151 = .ok (.putfield 84, 3) := by decide +kernel
theorem dX11_init_154 : decode cX11_init 154 = .ok (.return_, 1) := by decide +kernel
theorem dX11_hound_0 : decode cX11_hound 0 = .ok (.iload_n 1, 1) := by decide +kernel
theorem dX11_hound_1 : decode cX11_hound 1 = .ok (.iconst 5, 1) := by decide +kernel
theorem dX11_hound_2 : decode cX11_hound 2 = .ok (.invokestatic 88, 3) := by decide +kernel
theorem dX11_hound_5 : decode cX11_hound 5 = .ok (.ifCond .eq 11, 3) := by decide +kernel
theorem dX11_hound_8 : decode cX11_hound 8 = .ok (.iload_n 2, 1) := by decide +kernel
theorem dX11_hound_9 : decode cX11_hound 9 = .ok (.iload_n 3, 1) := by decide +kernel
theorem dX11_hound_10 : decode cX11_hound 10 = .ok (.invokestatic 92, 3) := by decide +kernel
theorem dX11_hound_13 : decode cX11_hound 13 = .ok (.ifCond .ne 5, 3) := by decide +kernel
theorem dX11_hound_16 : decode cX11_hound 16 = .ok (.iconst 0, 1) := by decide +kernel
theorem dX11_hound_17 : decode cX11_hound 17 = .ok (.ireturn, 1) := by decide +kernel
theorem dX11_hound_18 : decode cX11_hound 18 = .ok (.aload_n 0, 1) := by decide +kernel
theorem dX11_hound_19 : decode cX11_hound 19 = .ok (.getfield 74, 3) := by decide +kernel
theorem dX11_hound_22 : decode cX11_hound 22 = .ok (.iload_n 1, 1) := by decide +kernel
theorem dX11_hound_23 : decode cX11_hound 23 = .ok (.iload_n 2, 1) := by decide +kernel
theorem dX11_hound_24 : decode cX11_hound 24 = .ok (.iload_n 3, 1) := by decide +kernel
theorem dX11_hound_25 : decode cX11_hound 25 = .ok (.invokestatic 95, 3) := by decide +kernel
theorem dX11_hound_28 : decode cX11_hound 28 = .ok (.invokevirtual 99, 3) := by decide +kernel
theorem dX11_hound_31 : decode cX11_hound 31 = .ok (.iconst 1, 1) := by decide +kernel
theorem dX11_hound_32 : decode cX11_hound 32 = .ok (.ireturn, 1) := by decide +kernel
theorem dX11_fading_0 : decode cX11_fading 0 = .ok (.iload_n 1, 1) := by decide +kernel
theorem dX11_fading_1 : decode cX11_fading 1 = .ok (.bipush 9, 2) := by decide +kernel
theorem dX11_fading_3 : decode cX11_fading 3 = .ok (.invokestatic 88, 3) := by decide +kernel
theorem dX11_fading_6 : decode cX11_fading 6 = .ok (.ifCond .ne 5, 3) := by decide +kernel
theorem dX11_fading_9 : decode cX11_fading 9 = .ok (.iconst 0, 1) := by decide +kernel
theorem dX11_fading_10 : decode cX11_fading 10 = .ok (.ireturn, 1) := by decide +kernel
theorem dX11_fading_11 : decode cX11_fading 11 = .ok (.aload_n 0, 1) := by decide +kernel
theorem dX11_fading_12 : decode cX11_fading 12 = .ok (.getfield 19, 3) := by decide +kernel
theorem dX11_fading_15 : decode cX11_fading 15 = .ok (.iload_n 1, 1) := by decide +kernel
theorem dX11_fading_16 : decode cX11_fading 16 = .ok (.putfield 103, 3) := by decide +kernel
theorem dX11_fading_19 : decode cX11_fading 19 = .ok (.iconst 1, 1) := by decide +kernel
theorem dX11_fading_20 : decode cX11_fading 20 = .ok (.ireturn, 1) := by decide +kernel
theorem dX11_time_0 : decode cX11_time 0 = .ok (.iload_n 1, 1) := by decide +kernel
theorem dX11_time_1 : decode cX11_time 1 = .ok (.aload_n 0, 1) := by decide +kernel
theorem dX11_time_2 : decode cX11_time 2 = .ok (.getfield 74, 3) := by decide +kernel
theorem dX11_time_5 : decode cX11_time 5 = .ok (.getfield 107, 3) := by decide +kernel
theorem dX11_time_8 : decode cX11_time 8 = .ok (.if_icmp .lt 10, 3) := by decide +kernel
theorem dX11_time_11 : decode cX11_time 11 = .ok (.iload_n 1, 1) := by decide +kernel
theorem dX11_time_12 : decode cX11_time 12 = .ok (.sipush 9999, 3) := by decide +kernel
theorem dX11_time_15 : decode cX11_time 15 = .ok (.if_icmp .le 5, 3) := by decide +kernel
theorem dX11_time_18 : decode cX11_time 18 = .ok (.iconst 0, 1) := by decide +kernel
theorem dX11_time_19 : decode cX11_time 19 = .ok (.ireturn, 1) := by decide +kernel
theorem dX11_time_20 : decode cX11_time 20 = .ok (.aload_n 0, 1) := by decide +kernel
theorem dX11_time_21 : decode cX11_time 21 = .ok (.getfield 74, 3) := by decide +kernel
theorem dX11_time_24 : decode cX11_time 24 = .ok (.iload_n 1, 1) := by decide +kernel
theorem dX11_time_25 : decode cX11_time 25 = .ok (.putfield 107, 3) := by decide +kernel
theorem dX11_time_28 : decode cX11_time 28 = .ok (.iconst 1, 1) := by decide +kernel
theorem dX11_time_29 : decode cX11_time 29 = .ok (.ireturn, 1) := by decide +kernel
theorem dX11_feed_0 : decode cX11_feed 0 = .ok (.aload_n 0, 1) := by decide +kernel
theorem dX11_feed_1 : decode cX11_feed 1 = .ok (.getfield 10, 3) := by decide +kernel
theorem dX11_feed_4 : decode cX11_feed 4 = .ok (.bipush 20, 2) := by decide +kernel
theorem dX11_feed_6 : decode cX11_feed 6 = .ok (.invokevirtual 110, 3) := by decide +kernel
theorem dX11_feed_9 : decode cX11_feed 9 = .ok (.ifCond .ne 5, 3) := by decide +kernel
theorem dX11_feed_12 : decode cX11_feed 12 = .ok (.iconst (-1), 1) := by decide +kernel
theorem dX11_feed_13 : decode cX11_feed 13 = .ok (.ireturn, 1) := by decide +kernel
theorem dX11_feed_14 : decode cX11_feed 14 = .ok (.aload_n 0, 1) := by decide +kernel
theorem dX11_feed_15 : decode cX11_feed 15 = .ok (.getfield 10, 3) := by decide +kernel
theorem dX11_feed_18 : decode cX11_feed 18 = .ok (.iload_n 1, 1) := by decide +kernel
theorem dX11_feed_19 : decode cX11_feed 19 = .ok (.invokevirtual 114, 3) := by decide +kernel
theorem dX11_feed_22 : decode cX11_feed 22 = .ok (.aload_n 0, 1) := by decide +kernel
theorem dX11_feed_23 : decode cX11_feed 23 = .ok (.getfield 10, 3) := by decide +kernel
theorem dX11_feed_26 : decode cX11_feed 26 = .ok (.iload_n 2, 1) := by decide +kernel
theorem dX11_feed_27 : decode cX11_feed 27 = .ok (.invokevirtual 114, 3) := by decide +kernel
theorem dX11_feed_30 : decode cX11_feed 30 = .ok (.aload_n 0, 1) := by decide +kernel
theorem dX11_feed_31 : decode cX11_feed 31 = .ok (.getfield 10, 3) := by decide +kernel
theorem dX11_feed_34 : decode cX11_feed 34 = .ok (.iload_n 3, 1) := by decide +kernel
theorem dX11_feed_35 : decode cX11_feed 35 = .ok (.invokevirtual 114, 3) := by decide +kernel
theorem dX11_feed_38 : decode cX11_feed 38 = .ok (.aload_n 0, 1) := by decide +kernel
theorem dX11_feed_39 : decode cX11_feed 39 = .ok (.getfield 10, 3) := by decide +kernel
theorem dX11_feed_42 : decode cX11_feed 42 = .ok (.iload 4, 2) := by decide +kernel
theorem dX11_feed_44 : decode cX11_feed 44 = .ok (.invokevirtual 114, 3) := by decide +kernel
theorem dX11_feed_47 : decode cX11_feed 47 = .ok (.aload_n 0, 1) := by decide +kernel
theorem dX11_feed_48 : decode cX11_feed 48 = .ok (.getfield 10, 3) := by decide +kernel
theorem dX11_feed_51 : decode cX11_feed 51 = .ok (.iload 5, 2) := by decide +kernel
theorem dX11_feed_53 : decode cX11_feed 53 = .ok (.invokevirtual 114, 3) := by decide +kernel
theorem dX11_feed_56 : decode cX11_feed 56 = .ok (.aload_n 0, 1) := by decide +kernel
theorem dX11_feed_57 : decode cX11_feed 57 = .ok (.getfield 10, 3) := by decide +kernel
theorem dX11_feed_60 : decode cX11_feed 60 = .ok (.getfield 118, 3) := by decide +kernel
theorem dX11_feed_63 : decode cX11_feed 63 = .ok (.ireturn, 1) := by decide +kernel
theorem dX11_law_0 : decode cX11_law 0 = .ok (.aload_n 0, 1) := by decide +kernel
theorem dX11_law_1 : decode cX11_law 1 = .ok (.getfield 10, 3) := by decide +kernel
theorem dX11_law_4 : decode cX11_law 4 = .ok (.iload_n 1, 1) := by decide +kernel
theorem dX11_law_5 : decode cX11_law 5 = .ok (.sipush 240, 3) := by decide +kernel
theorem dX11_law_8 : decode cX11_law 8 = .ok (.invokevirtual 121, 3) := by decide +kernel
theorem dX11_law_11 : decode cX11_law 11 = .ok (.ifCond .ne 5, 3) := by decide +kernel
theorem dX11_law_14 : decode cX11_law 14 = .ok (.iconst (-1), 1) := by decide +kernel
theorem dX11_law_15 : decode cX11_law 15 = .ok (.ireturn, 1) := by decide +kernel
theorem dX11_law_16 : decode cX11_law 16 = .ok (.aload_n 0, 1) := by decide +kernel
theorem dX11_law_17 : decode cX11_law 17 = .ok (.getfield 10, 3) := by decide +kernel
theorem dX11_law_20 : decode cX11_law 20 = .ok (.iload_n 1, 1) := by decide +kernel
theorem dX11_law_21 : decode cX11_law 21 = .ok (.invokevirtual 124, 3) := by decide +kernel
theorem dX11_law_24 : decode cX11_law 24 = .ok (.aload_n 0, 1) := by decide +kernel
theorem dX11_law_25 : decode cX11_law 25 = .ok (.getfield 42, 3) := by decide +kernel
theorem dX11_law_28 : decode cX11_law 28 = .ok (.invokevirtual 127, 3) := by decide +kernel
theorem dX11_law_31 : decode cX11_law 31 = .ok (.aload_n 0, 1) := by decide +kernel
theorem dX11_law_32 : decode cX11_law 32 = .ok (.getfield 10, 3) := by decide +kernel
theorem dX11_law_35 : decode cX11_law 35 = .ok (.invokevirtual 130, 3) := by decide +kernel
theorem dX11_law_38 : decode cX11_law 38 = .ok (.aload_n 0, 1) := by decide +kernel
theorem dX11_law_39 : decode cX11_law 39 = .ok (.getfield 10, 3) := by decide +kernel
theorem dX11_law_42 : decode cX11_law 42 = .ok (.invokevirtual 133, 3) := by decide +kernel
theorem dX11_law_45 : decode cX11_law 45 = .ok (.ifCond .ne 11, 3) := by decide +kernel
theorem dX11_law_48 : decode cX11_law 48 = .ok (.aload_n 0, 1) := by decide +kernel
theorem dX11_law_49 : decode cX11_law 49 = .ok (.getfield 10, 3) := by decide +kernel
theorem dX11_law_52 : decode cX11_law 52 = .ok (.invokevirtual 137, 3) := by decide +kernel
theorem dX11_law_55 : decode cX11_law 55 = .ok (.ireturn, 1) := by decide +kernel
theorem dX11_law_56 : decode cX11_law 56 = .ok (.aload_n 0, 1) := by decide +kernel
theorem dX11_law_57 : decode cX11_law 57 = .ok (.getfield 49, 3) := by decide +kernel
theorem dX11_law_60 : decode cX11_law 60 = .ok (.aload_n 0, 1) := by decide +kernel
theorem dX11_law_61 : decode cX11_law 61 = .ok (.getfield 42, 3) := by decide +kernel
theorem dX11_law_64 : decode cX11_law 64 = .ok (.getfield 141, 3) := by decide +kernel
theorem dX11_law_67 : decode cX11_law 67 = .ok (.invokevirtual 144, 3) := by decide +kernel
theorem dX11_law_70 : decode cX11_law 70 = .ok (.aload_n 0, 1) := by decide +kernel
theorem dX11_law_71 : decode cX11_law 71 = .ok (.getfield 49, 3) := by decide +kernel
theorem dX11_law_74 : decode cX11_law 74 = .ok (.getfield 148, 3) := by decide +kernel
theorem dX11_law_77 : decode cX11_law 77 = .ok (.ireturn, 1) := by decide +kernel
theorem dX11_line_0 : decode cX11_line 0 = .ok (.aload_n 0, 1) := by decide +kernel
theorem dX11_line_1 : decode cX11_line 1 = .ok (.getfield 19, 3) := by decide +kernel
theorem dX11_line_4 : decode cX11_line 4 = .ok (.iload_n 1, 1) := by decide +kernel
theorem dX11_line_5 : decode cX11_line 5 = .ok (.invokevirtual 151, 3) := by decide +kernel
theorem dX11_line_8 : decode cX11_line 8 = .ok (.astore 6, 2) := by decide +kernel
theorem dX11_line_10 : decode cX11_line 10 = .ok (.aload 6, 2) := by decide +kernel
theorem dX11_line_12 : decode cX11_line 12 = .ok (.ifnull 36, 3) := by decide +kernel
theorem dX11_line_15 : decode cX11_line 15 = .ok (.iload_n 2, 1) := by decide +kernel
theorem dX11_line_16 : decode cX11_line 16 = .ok (.iload_n 3, 1) := by decide +kernel
theorem dX11_line_17 : decode cX11_line 17 = .ok (.invokestatic 92, 3) := by decide +kernel
theorem dX11_line_20 : decode cX11_line 20 = .ok (.ifCond .eq 28, 3) := by decide +kernel
theorem dX11_line_23 : decode cX11_line 23 = .ok (.iload 4, 2) := by decide +kernel
theorem dX11_line_25 : decode cX11_line 25 = .ok (.sipush 9999, 3) := by decide +kernel
theorem dX11_line_28 : decode cX11_line 28 = .ok (.invokestatic 88, 3) := by decide +kernel
theorem dX11_line_31 : decode cX11_line 31 = .ok (.ifCond .eq 17, 3) := by decide +kernel
theorem dX11_line_34 : decode cX11_line 34 = .ok (.aload_n 0, 1) := by decide +kernel
theorem dX11_line_35 : decode cX11_line 35 = .ok (.getfield 10, 3) := by decide +kernel
theorem dX11_line_38 : decode cX11_line 38 = .ok (.iload 5, 2) := by decide +kernel
theorem dX11_line_40 : decode cX11_line 40 = .ok (.bipush 60, 2) := by decide +kernel
theorem dX11_line_42 : decode cX11_line 42 = .ok (.invokevirtual 121, 3) := by decide +kernel
theorem dX11_line_45 : decode cX11_line 45 = .ok (.ifCond .ne 5, 3) := by decide +kernel
theorem dX11_line_48 : decode cX11_line 48 = .ok (.iconst (-1), 1) := by decide +kernel
theorem dX11_line_49 : decode cX11_line 49 = .ok (.ireturn, 1) := by decide +kernel
theorem dX11_line_50 : decode cX11_line 50 = .ok (.aload_n 0, 1) := by decide +kernel
theorem dX11_line_51 : decode cX11_line 51 = .ok (.getfield 10, 3) := by decide +kernel
theorem dX11_line_54 : decode cX11_line 54 = .ok (.iload 5, 2) := by decide +kernel
theorem dX11_line_56 : decode cX11_line 56 = .ok (.invokevirtual 124, 3) := by decide +kernel
theorem dX11_line_59 : decode cX11_line 59 = .ok (.aload_n 0, 1) := by decide +kernel
theorem dX11_line_60 : decode cX11_line 60 = .ok (.getfield 28, 3) := by decide +kernel
theorem dX11_line_63 : decode cX11_line 63 = .ok (.invokevirtual 155, 3) := by decide +kernel
theorem dX11_line_66 : decode cX11_line 66 = .ok (.aload_n 0, 1) := by decide +kernel
theorem dX11_line_67 : decode cX11_line 67 = .ok (.getfield 10, 3) := by decide +kernel
theorem dX11_line_70 : decode cX11_line 70 = .ok (.invokevirtual 130, 3) := by decide +kernel
theorem dX11_line_73 : decode cX11_line 73 = .ok (.aload_n 0, 1) := by decide +kernel
theorem dX11_line_74 : decode cX11_line 74 = .ok (.getfield 10, 3) := by decide +kernel
theorem dX11_line_77 : decode cX11_line 77 = .ok (.invokevirtual 133, 3) := by decide +kernel
theorem dX11_line_80 : decode cX11_line 80 = .ok (.ifCond .ne 11, 3) := by decide +kernel
theorem dX11_line_83 : decode cX11_line 83 = .ok (.aload_n 0, 1) := by decide +kernel
theorem dX11_line_84 : decode cX11_line 84 = .ok (.getfield 10, 3) := by decide +kernel
theorem dX11_line_87 : decode cX11_line 87 = .ok (.invokevirtual 137, 3) := by decide +kernel
theorem dX11_line_90 : decode cX11_line 90 = .ok (.ireturn, 1) := by decide +kernel
theorem dX11_line_91 : decode cX11_line 91 = .ok (.aload 6, 2) := by decide +kernel
theorem dX11_line_93 : decode cX11_line 93 = .ok (.iload_n 2, 1) := by decide +kernel
theorem dX11_line_94 : decode cX11_line 94 = .ok (.iload_n 3, 1) := by decide +kernel
theorem dX11_line_95 : decode cX11_line 95 = .ok (.invokestatic 95, 3) := by decide +kernel
theorem dX11_line_98 : decode cX11_line 98 = .ok (.iload 4, 2) := by decide +kernel
theorem dX11_line_100 : decode cX11_line 100 = .ok (.aload_n 0, 1) := by decide +kernel
theorem dX11_line_101 : decode cX11_line 101 = .ok (.getfield 28, 3) := by decide +kernel
theorem dX11_line_104 : decode cX11_line 104 = .ok (.invokevirtual 156, 3) := by decide +kernel
theorem dX11_line_107 : decode cX11_line 107 = .ok (.aload 6, 2) := by decide +kernel
theorem dX11_line_109 : decode cX11_line 109 = .ok (.getfield 162, 3) := by decide +kernel
theorem dX11_line_112 : decode cX11_line 112 = .ok (.ireturn, 1) := by decide +kernel
theorem dX11_land_0 : decode cX11_land 0 = .ok (.aload_n 0, 1) := by decide +kernel
theorem dX11_land_1 : decode cX11_land 1 = .ok (.getfield 10, 3) := by decide +kernel
theorem dX11_land_4 : decode cX11_land 4 = .ok (.iload_n 1, 1) := by decide +kernel
theorem dX11_land_5 : decode cX11_land 5 = .ok (.sipush 160, 3) := by decide +kernel
theorem dX11_land_8 : decode cX11_land 8 = .ok (.invokevirtual 121, 3) := by decide +kernel
theorem dX11_land_11 : decode cX11_land 11 = .ok (.ifCond .ne 5, 3) := by decide +kernel
theorem dX11_land_14 : decode cX11_land 14 = .ok (.iconst (-1), 1) := by decide +kernel
theorem dX11_land_15 : decode cX11_land 15 = .ok (.ireturn, 1) := by decide +kernel
theorem dX11_land_16 : decode cX11_land 16 = .ok (.aload_n 0, 1) := by decide +kernel
theorem dX11_land_17 : decode cX11_land 17 = .ok (.getfield 10, 3) := by decide +kernel
theorem dX11_land_20 : decode cX11_land 20 = .ok (.iload_n 1, 1) := by decide +kernel
theorem dX11_land_21 : decode cX11_land 21 = .ok (.invokevirtual 124, 3) := by decide +kernel
theorem dX11_land_24 : decode cX11_land 24 = .ok (.aload_n 0, 1) := by decide +kernel
theorem dX11_land_25 : decode cX11_land 25 = .ok (.getfield 35, 3) := by decide +kernel
theorem dX11_land_28 : decode cX11_land 28 = .ok (.invokevirtual 165, 3) := by decide +kernel
theorem dX11_land_31 : decode cX11_land 31 = .ok (.aload_n 0, 1) := by decide +kernel
theorem dX11_land_32 : decode cX11_land 32 = .ok (.getfield 10, 3) := by decide +kernel
theorem dX11_land_35 : decode cX11_land 35 = .ok (.invokevirtual 130, 3) := by decide +kernel
theorem dX11_land_38 : decode cX11_land 38 = .ok (.aload_n 0, 1) := by decide +kernel
theorem dX11_land_39 : decode cX11_land 39 = .ok (.getfield 10, 3) := by decide +kernel
theorem dX11_land_42 : decode cX11_land 42 = .ok (.invokevirtual 133, 3) := by decide +kernel
theorem dX11_land_45 : decode cX11_land 45 = .ok (.ifCond .ne 11, 3) := by decide +kernel
theorem dX11_land_48 : decode cX11_land 48 = .ok (.aload_n 0, 1) := by decide +kernel
theorem dX11_land_49 : decode cX11_land 49 = .ok (.getfield 10, 3) := by decide +kernel
theorem dX11_land_52 : decode cX11_land 52 = .ok (.invokevirtual 137, 3) := by decide +kernel
theorem dX11_land_55 : decode cX11_land 55 = .ok (.ireturn, 1) := by decide +kernel
theorem dX11_land_56 : decode cX11_land 56 = .ok (.aload_n 0, 1) := by decide +kernel
theorem dX11_land_57 : decode cX11_land 57 = .ok (.getfield 19, 3) := by decide +kernel
theorem dX11_land_60 : decode cX11_land 60 = .ok (.getfield 166, 3) := by decide +kernel
theorem dX11_land_63 : decode cX11_land 63 = .ok (.aload_n 0, 1) := by decide +kernel
theorem dX11_land_64 : decode cX11_land 64 = .ok (.getfield 35, 3) := by decide +kernel
theorem dX11_land_67 : decode cX11_land 67 = .ok (.getfield 170, 3) := by decide +kernel
theorem dX11_land_70 : decode cX11_land 70 = .ok (.invokevirtual 172, 3) := by decide +kernel
theorem dX11_land_73 : decode cX11_land 73 = .ok (.aload_n 0, 1) := by decide +kernel
theorem dX11_land_74 : decode cX11_land 74 = .ok (.getfield 19, 3) := by decide +kernel
theorem dX11_land_77 : decode cX11_land 77 = .ok (.getfield 166, 3) := by decide +kernel
theorem dX11_land_80 : decode cX11_land 80 = .ok (.getfield 177, 3) := by decide +kernel
theorem dX11_land_83 : decode cX11_land 83 = .ok (.ireturn, 1) := by decide +kernel
theorem dX11_moments_0 : decode cX11_moments 0 = .ok (.iload_n 1, 1) := by decide +kernel
theorem dX11_moments_1 : decode cX11_moments 1 = .ok (.iconst 1, 1) := by decide +kernel
theorem dX11_moments_2 : decode cX11_moments 2 = .ok (.if_icmp .lt 9, 3) := by decide +kernel
theorem dX11_moments_5 : decode cX11_moments 5 = .ok (.iload_n 1, 1) := by decide +kernel
theorem dX11_moments_6 : decode cX11_moments 6 = .ok (.bipush 100, 2) := by decide +kernel
theorem dX11_moments_8 : decode cX11_moments 8 = .ok (.if_icmp .le 5, 3) := by decide +kernel
theorem dX11_moments_11 : decode cX11_moments 11 = .ok (.iconst (-1), 1) := by decide +kernel
theorem dX11_moments_12 : decode cX11_moments 12 = .ok (.ireturn, 1) := by decide +kernel
theorem dX11_moments_13 : decode cX11_moments 13 = .ok (.iconst 0, 1) := by decide +kernel
theorem dX11_moments_14 : decode cX11_moments 14 = .ok (.istore_n 2, 1) := by decide +kernel
theorem dX11_moments_15 : decode cX11_moments 15 = .ok (.iload_n 2, 1) := by decide +kernel
theorem dX11_moments_16 : decode cX11_moments 16 = .ok (.iload_n 1, 1) := by decide +kernel
theorem dX11_moments_17 : decode cX11_moments 17 = .ok (.if_icmp .ge 33, 3) := by decide +kernel
theorem dX11_moments_20 : decode cX11_moments 20 = .ok (.aload_n 0, 1) := by decide +kernel
theorem dX11_moments_21 : decode cX11_moments 21 = .ok (.getfield 74, 3) := by decide +kernel
theorem dX11_moments_24 : decode cX11_moments 24 = .ok (.getfield 107, 3) := by decide +kernel
theorem dX11_moments_27 : decode cX11_moments 27 = .ok (.sipush 9999, 3) := by decide +kernel
theorem dX11_moments_30 : decode cX11_moments 30 = .ok (.if_icmp .ge 20, 3) := by decide +kernel
theorem dX11_moments_33 : decode cX11_moments 33 = .ok (.aload_n 0, 1) := by decide +kernel
theorem dX11_moments_34 : decode cX11_moments 34 = .ok (.getfield 58, 3) := by decide +kernel
theorem dX11_moments_37 : decode cX11_moments 37 = .ok (.aload_n 0, 1) := by decide +kernel
theorem dX11_moments_38 : decode cX11_moments 38 = .ok (.getfield 74, 3) := by decide +kernel
theorem dX11_moments_41 : decode cX11_moments 41 = .ok (.invokevirtual 178, 3) := by decide +kernel
theorem dX11_moments_44 : decode cX11_moments 44 = .ok (.iinc 2 1, 3) := by decide +kernel
theorem dX11_moments_47 : decode cX11_moments 47 = .ok (.goto (-32), 3) := by decide +kernel
theorem dX11_moments_50 : decode cX11_moments 50 = .ok (.aload_n 0, 1) := by decide +kernel
theorem dX11_moments_51 : decode cX11_moments 51 = .ok (.getfield 74, 3) := by decide +kernel
theorem dX11_moments_54 : decode cX11_moments 54 = .ok (.iconst 0, 1) := by decide +kernel
theorem dX11_moments_55 : decode cX11_moments 55 = .ok (.invokevirtual 182, 3) := by decide +kernel
theorem dX11_moments_58 : decode cX11_moments 58 = .ok (.invokestatic 186, 3) := by decide +kernel
theorem dX11_moments_61 : decode cX11_moments 61 = .ok (.ireturn, 1) := by decide +kernel
theorem dX11_tried_0 : decode cX11_tried 0 = .ok (.iload_n 1, 1) := by decide +kernel
theorem dX11_tried_1 : decode cX11_tried 1 = .ok (.iconst 1, 1) := by decide +kernel
theorem dX11_tried_2 : decode cX11_tried 2 = .ok (.if_icmp .lt 17, 3) := by decide +kernel
theorem dX11_tried_5 : decode cX11_tried 5 = .ok (.iload_n 1, 1) := by decide +kernel
theorem dX11_tried_6 : decode cX11_tried 6 = .ok (.bipush 100, 2) := by decide +kernel
theorem dX11_tried_8 : decode cX11_tried 8 = .ok (.if_icmp .gt 11, 3) := by decide +kernel
theorem dX11_tried_11 : decode cX11_tried 11 = .ok (.aload_n 0, 1) := by decide +kernel
theorem dX11_tried_12 : decode cX11_tried 12 = .ok (.iload_n 2, 1) := by decide +kernel
theorem dX11_tried_13 : decode cX11_tried 13 = .ok (.invokevirtual 191, 3) := by decide +kernel
theorem dX11_tried_16 : decode cX11_tried 16 = .ok (.ifCond .ne 5, 3) := by decide +kernel
theorem dX11_tried_19 : decode cX11_tried 19 = .ok (.iconst (-1), 1) := by decide +kernel
theorem dX11_tried_20 : decode cX11_tried 20 = .ok (.ireturn, 1) := by decide +kernel
theorem dX11_tried_21 : decode cX11_tried 21 = .ok (.aload_n 0, 1) := by decide +kernel
theorem dX11_tried_22 : decode cX11_tried 22 = .ok (.getfield 81, 3) := by decide +kernel
theorem dX11_tried_25 : decode cX11_tried 25 = .ok (.aload_n 0, 1) := by decide +kernel
theorem dX11_tried_26 : decode cX11_tried 26 = .ok (.getfield 74, 3) := by decide +kernel
theorem dX11_tried_29 : decode cX11_tried 29 = .ok (.invokevirtual 194, 3) := by decide +kernel
theorem dX11_tried_32 : decode cX11_tried 32 = .ok (.iconst 0, 1) := by decide +kernel
theorem dX11_tried_33 : decode cX11_tried 33 = .ok (.istore_n 3, 1) := by decide +kernel
theorem dX11_tried_34 : decode cX11_tried 34 = .ok (.iload_n 3, 1) := by decide +kernel
theorem dX11_tried_35 : decode cX11_tried 35 = .ok (.iload_n 1, 1) := by decide +kernel
theorem dX11_tried_36 : decode cX11_tried 36 = .ok (.if_icmp .ge 33, 3) := by decide +kernel
theorem dX11_tried_39 : decode cX11_tried 39 = .ok (.aload_n 0, 1) := by decide +kernel
theorem dX11_tried_40 : decode cX11_tried 40 = .ok (.getfield 81, 3) := by decide +kernel
theorem dX11_tried_43 : decode cX11_tried 43 = .ok (.getfield 107, 3) := by decide +kernel
theorem dX11_tried_46 : decode cX11_tried 46 = .ok (.sipush 9999, 3) := by decide +kernel
theorem dX11_tried_49 : decode cX11_tried 49 = .ok (.if_icmp .ge 20, 3) := by decide +kernel
theorem dX11_tried_52 : decode cX11_tried 52 = .ok (.aload_n 0, 1) := by decide +kernel
theorem dX11_tried_53 : decode cX11_tried 53 = .ok (.getfield 58, 3) := by decide +kernel
theorem dX11_tried_56 : decode cX11_tried 56 = .ok (.aload_n 0, 1) := by decide +kernel
theorem dX11_tried_57 : decode cX11_tried 57 = .ok (.getfield 81, 3) := by decide +kernel
theorem dX11_tried_60 : decode cX11_tried 60 = .ok (.invokevirtual 178, 3) := by decide +kernel
theorem dX11_tried_63 : decode cX11_tried 63 = .ok (.iinc 3 1, 3) := by decide +kernel
theorem dX11_tried_66 : decode cX11_tried 66 = .ok (.goto (-32), 3) := by decide +kernel
theorem dX11_tried_69 : decode cX11_tried 69 = .ok (.iload_n 2, 1) := by decide +kernel
theorem dX11_tried_70 : decode cX11_tried 70 = .ok (.iconst 2, 1) := by decide +kernel
theorem dX11_tried_71 : decode cX11_tried 71 = .ok (.if_icmp .gt 12, 3) := by decide +kernel
theorem dX11_tried_74 : decode cX11_tried 74 = .ok (.aload_n 0, 1) := by decide +kernel
theorem dX11_tried_75 : decode cX11_tried 75 = .ok (.getfield 81, 3) := by decide +kernel
theorem dX11_tried_78 : decode cX11_tried 78 = .ok (.iload_n 2, 1) := by decide +kernel
theorem dX11_tried_79 : decode cX11_tried 79 = .ok (.invokevirtual 182, 3) := by decide +kernel
theorem dX11_tried_82 : decode cX11_tried 82 = .ok (.ireturn, 1) := by decide +kernel
theorem dX11_tried_83 : decode cX11_tried 83 = .ok (.iload_n 2, 1) := by decide +kernel
theorem dX11_tried_84 : decode cX11_tried 84 = .ok (.bipush 10, 2) := by decide +kernel
theorem dX11_tried_86 : decode cX11_tried 86 = .ok (.irem, 1) := by decide +kernel
theorem dX11_tried_87 : decode cX11_tried 87 = .ok (.istore_n 3, 1) := by decide +kernel
theorem dX11_tried_88 : decode cX11_tried 88 = .ok (.iload_n 2, 1) := by decide +kernel
theorem dX11_tried_89 : decode cX11_tried 89 = .ok (.bipush 10, 2) := by decide +kernel
theorem dX11_tried_91 : decode cX11_tried 91 = .ok (.idiv, 1) := by decide +kernel
theorem dX11_tried_92 : decode cX11_tried 92 = .ok (.lookupswitch 46 #[(1, 28), (2, 37)], 28) := by decide +kernel
theorem dX11_tried_120 : decode cX11_tried 120 = .ok (.aload_n 0, 1) := by decide +kernel
theorem dX11_tried_121 : decode cX11_tried 121 = .ok (.getfield 81, 3) := by decide +kernel
theorem dX11_tried_124 : decode cX11_tried 124 = .ok (.iload_n 3, 1) := by decide +kernel
theorem dX11_tried_125 : decode cX11_tried 125 = .ok (.invokevirtual 196, 3) := by decide +kernel
theorem dX11_tried_128 : decode cX11_tried 128 = .ok (.ireturn, 1) := by decide +kernel
theorem dX11_tried_129 : decode cX11_tried 129 = .ok (.aload_n 0, 1) := by decide +kernel
theorem dX11_tried_130 : decode cX11_tried 130 = .ok (.getfield 81, 3) := by decide +kernel
theorem dX11_tried_133 : decode cX11_tried 133 = .ok (.iload_n 3, 1) := by decide +kernel
theorem dX11_tried_134 : decode cX11_tried 134 = .ok (.invokevirtual 199, 3) := by decide +kernel
theorem dX11_tried_137 : decode cX11_tried 137 = .ok (.ireturn, 1) := by decide +kernel
theorem dX11_tried_138 : decode cX11_tried 138 = .ok (.aload_n 0, 1) := by decide +kernel
theorem dX11_tried_139 : decode cX11_tried 139 = .ok (.getfield 81, 3) := by decide +kernel
theorem dX11_tried_142 : decode cX11_tried 142 = .ok (.iload_n 3, 1) := by decide +kernel
theorem dX11_tried_143 : decode cX11_tried 143 = .ok (.invokevirtual 202, 3) := by decide +kernel
theorem dX11_tried_146 : decode cX11_tried 146 = .ok (.ireturn, 1) := by decide +kernel
theorem dX11_houndIs_0 : decode cX11_houndIs 0 = .ok (.aload_n 0, 1) := by decide +kernel
theorem dX11_houndIs_1 : decode cX11_houndIs 1 = .ok (.getfield 74, 3) := by decide +kernel
theorem dX11_houndIs_4 : decode cX11_houndIs 4 = .ok (.iload_n 1, 1) := by decide +kernel
theorem dX11_houndIs_5 : decode cX11_houndIs 5 = .ok (.invokevirtual 205, 3) := by decide +kernel
theorem dX11_houndIs_8 : decode cX11_houndIs 8 = .ok (.ifCond .ne 5, 3) := by decide +kernel
theorem dX11_houndIs_11 : decode cX11_houndIs 11 = .ok (.iconst (-1), 1) := by decide +kernel
theorem dX11_houndIs_12 : decode cX11_houndIs 12 = .ok (.ireturn, 1) := by decide +kernel
theorem dX11_houndIs_13 : decode cX11_houndIs 13 = .ok (.iload_n 2, 1) := by decide +kernel
theorem dX11_houndIs_14 : decode cX11_houndIs 14 = .ok (.tableswitch 66 0 3 #[30, 39, 48, 57], 30) := by decide +kernel
theorem dX11_houndIs_44 : decode cX11_houndIs 44 = .ok (.aload_n 0, 1) := by decide +kernel
theorem dX11_houndIs_45 : decode cX11_houndIs 45 = .ok (.getfield 74, 3) := by decide +kernel
theorem dX11_houndIs_48 : decode cX11_houndIs 48 = .ok (.iload_n 1, 1) := by decide +kernel
theorem dX11_houndIs_49 : decode cX11_houndIs 49 = .ok (.invokevirtual 196, 3) := by decide +kernel
theorem dX11_houndIs_52 : decode cX11_houndIs 52 = .ok (.ireturn, 1) := by decide +kernel
theorem dX11_houndIs_53 : decode cX11_houndIs 53 = .ok (.aload_n 0, 1) := by decide +kernel
theorem dX11_houndIs_54 : decode cX11_houndIs 54 = .ok (.getfield 74, 3) := by decide +kernel
theorem dX11_houndIs_57 : decode cX11_houndIs 57 = .ok (.iload_n 1, 1) := by decide +kernel
theorem dX11_houndIs_58 : decode cX11_houndIs 58 = .ok (.invokevirtual 199, 3) := by decide +kernel
theorem dX11_houndIs_61 : decode cX11_houndIs 61 = .ok (.ireturn, 1) := by decide +kernel
theorem dX11_houndIs_62 : decode cX11_houndIs 62 = .ok (.aload_n 0, 1) := by decide +kernel
theorem dX11_houndIs_63 : decode cX11_houndIs 63 = .ok (.getfield 74, 3) := by decide +kernel
theorem dX11_houndIs_66 : decode cX11_houndIs 66 = .ok (.iload_n 1, 1) := by decide +kernel
theorem dX11_houndIs_67 : decode cX11_houndIs 67 = .ok (.invokevirtual 202, 3) := by decide +kernel
theorem dX11_houndIs_70 : decode cX11_houndIs 70 = .ok (.ireturn, 1) := by decide +kernel
theorem dX11_houndIs_71 : decode cX11_houndIs 71 = .ok (.aload_n 0, 1) := by decide +kernel
theorem dX11_houndIs_72 : decode cX11_houndIs 72 = .ok (.getfield 74, 3) := by decide +kernel
theorem dX11_houndIs_75 : decode cX11_houndIs 75 = .ok (.iload_n 1, 1) := by decide +kernel
theorem dX11_houndIs_76 : decode cX11_houndIs 76 = .ok (.invokevirtual 208, 3) := by decide +kernel
theorem dX11_houndIs_79 : decode cX11_houndIs 79 = .ok (.ireturn, 1) := by decide +kernel
theorem dX11_houndIs_80 : decode cX11_houndIs 80 = .ok (.iconst (-1), 1) := by decide +kernel
theorem dX11_houndIs_81 : decode cX11_houndIs 81 = .ok (.ireturn, 1) := by decide +kernel
theorem dX11_where_0 : decode cX11_where 0 = .ok (.aload_n 0, 1) := by decide +kernel
theorem dX11_where_1 : decode cX11_where 1 = .ok (.getfield 19, 3) := by decide +kernel
theorem dX11_where_4 : decode cX11_where 4 = .ok (.iload_n 1, 1) := by decide +kernel
theorem dX11_where_5 : decode cX11_where 5 = .ok (.invokevirtual 211, 3) := by decide +kernel
theorem dX11_where_8 : decode cX11_where 8 = .ok (.astore_n 3, 1) := by decide +kernel
theorem dX11_where_9 : decode cX11_where 9 = .ok (.aload_n 3, 1) := by decide +kernel
theorem dX11_where_10 : decode cX11_where 10 = .ok (.ifnull 13, 3) := by decide +kernel
theorem dX11_where_13 : decode cX11_where 13 = .ok (.iload_n 2, 1) := by decide +kernel
theorem dX11_where_14 : decode cX11_where 14 = .ok (.sipush 20000, 3) := by decide +kernel
theorem dX11_where_17 : decode cX11_where 17 = .ok (.invokestatic 88, 3) := by decide +kernel
theorem dX11_where_20 : decode cX11_where 20 = .ok (.ifCond .ne 5, 3) := by decide +kernel
theorem dX11_where_23 : decode cX11_where 23 = .ok (.iconst (-1), 1) := by decide +kernel
theorem dX11_where_24 : decode cX11_where 24 = .ok (.ireturn, 1) := by decide +kernel
theorem dX11_where_25 : decode cX11_where 25 = .ok (.aload_n 3, 1) := by decide +kernel
theorem dX11_where_26 : decode cX11_where 26 = .ok (.iload_n 2, 1) := by decide +kernel
theorem dX11_where_27 : decode cX11_where 27 = .ok (.invokevirtual 214, 3) := by decide +kernel
theorem dX11_where_30 : decode cX11_where 30 = .ok (.ireturn, 1) := by decide +kernel
theorem dX11_freshest_0 : decode cX11_freshest 0 = .ok (.iload_n 1, 1) := by decide +kernel
theorem dX11_freshest_1 : decode cX11_freshest 1 = .ok (.iload_n 2, 1) := by decide +kernel
theorem dX11_freshest_2 : decode cX11_freshest 2 = .ok (.invokestatic 92, 3) := by decide +kernel
theorem dX11_freshest_5 : decode cX11_freshest 5 = .ok (.ifCond .ne 5, 3) := by decide +kernel
theorem dX11_freshest_8 : decode cX11_freshest 8 = .ok (.iconst (-1), 1) := by decide +kernel
theorem dX11_freshest_9 : decode cX11_freshest 9 = .ok (.ireturn, 1) := by decide +kernel
theorem dX11_freshest_10 : decode cX11_freshest 10 = .ok (.iload_n 1, 1) := by decide +kernel
theorem dX11_freshest_11 : decode cX11_freshest 11 = .ok (.iload_n 2, 1) := by decide +kernel
theorem dX11_freshest_12 : decode cX11_freshest 12 = .ok (.invokestatic 95, 3) := by decide +kernel
theorem dX11_freshest_15 : decode cX11_freshest 15 = .ok (.istore 4, 2) := by decide +kernel
theorem dX11_freshest_17 : decode cX11_freshest 17 = .ok (.iload_n 3, 1) := by decide +kernel
theorem dX11_freshest_18 : decode cX11_freshest 18 = .ok (.tableswitch 77 0 2 #[26, 43, 60], 26) := by decide +kernel
theorem dX11_freshest_44 : decode cX11_freshest 44 = .ok (.aload_n 0, 1) := by decide +kernel
theorem dX11_freshest_45 : decode cX11_freshest 45 = .ok (.getfield 19, 3) := by decide +kernel
theorem dX11_freshest_48 : decode cX11_freshest 48 = .ok (.iload 4, 2) := by decide +kernel
theorem dX11_freshest_50 : decode cX11_freshest 50 = .ok (.aload_n 0, 1) := by decide +kernel
theorem dX11_freshest_51 : decode cX11_freshest 51 = .ok (.getfield 74, 3) := by decide +kernel
theorem dX11_freshest_54 : decode cX11_freshest 54 = .ok (.getfield 107, 3) := by decide +kernel
theorem dX11_freshest_57 : decode cX11_freshest 57 = .ok (.invokevirtual 217, 3) := by decide +kernel
theorem dX11_freshest_60 : decode cX11_freshest 60 = .ok (.ireturn, 1) := by decide +kernel
theorem dX11_freshest_61 : decode cX11_freshest 61 = .ok (.aload_n 0, 1) := by decide +kernel
theorem dX11_freshest_62 : decode cX11_freshest 62 = .ok (.getfield 19, 3) := by decide +kernel
theorem dX11_freshest_65 : decode cX11_freshest 65 = .ok (.iload 4, 2) := by decide +kernel
theorem dX11_freshest_67 : decode cX11_freshest 67 = .ok (.aload_n 0, 1) := by decide +kernel
theorem dX11_freshest_68 : decode cX11_freshest 68 = .ok (.getfield 74, 3) := by decide +kernel
theorem dX11_freshest_71 : decode cX11_freshest 71 = .ok (.getfield 107, 3) := by decide +kernel
theorem dX11_freshest_74 : decode cX11_freshest 74 = .ok (.invokevirtual 220, 3) := by decide +kernel
theorem dX11_freshest_77 : decode cX11_freshest 77 = .ok (.ireturn, 1) := by decide +kernel
theorem dX11_freshest_78 : decode cX11_freshest 78 = .ok (.aload_n 0, 1) := by decide +kernel
theorem dX11_freshest_79 : decode cX11_freshest 79 = .ok (.getfield 19, 3) := by decide +kernel
theorem dX11_freshest_82 : decode cX11_freshest 82 = .ok (.iload 4, 2) := by decide +kernel
theorem dX11_freshest_84 : decode cX11_freshest 84 = .ok (.aload_n 0, 1) := by decide +kernel
theorem dX11_freshest_85 : decode cX11_freshest 85 = .ok (.getfield 74, 3) := by decide +kernel
theorem dX11_freshest_88 : decode cX11_freshest 88 = .ok (.getfield 107, 3) := by decide +kernel
theorem dX11_freshest_91 : decode cX11_freshest 91 = .ok (.invokevirtual 223, 3) := by decide +kernel
theorem dX11_freshest_94 : decode cX11_freshest 94 = .ok (.ireturn, 1) := by decide +kernel
theorem dX11_freshest_95 : decode cX11_freshest 95 = .ok (.iconst (-1), 1) := by decide +kernel
theorem dX11_freshest_96 : decode cX11_freshest 96 = .ok (.ireturn, 1) := by decide +kernel
theorem dX11_firstHome_0 : decode cX11_firstHome 0 = .ok (.iload_n 1, 1) := by decide +kernel
theorem dX11_firstHome_1 : decode cX11_firstHome 1 = .ok (.iconst 1, 1) := by decide +kernel
theorem dX11_firstHome_2 : decode cX11_firstHome 2 = .ok (.if_icmp .lt 17, 3) := by decide +kernel
theorem dX11_firstHome_5 : decode cX11_firstHome 5 = .ok (.iload_n 1, 1) := by decide +kernel
theorem dX11_firstHome_6 : decode cX11_firstHome 6 = .ok (.bipush 100, 2) := by decide +kernel
theorem dX11_firstHome_8 : decode cX11_firstHome 8 = .ok (.if_icmp .gt 11, 3) := by decide +kernel
theorem dX11_firstHome_11 : decode cX11_firstHome 11 = .ok (.iload_n 2, 1) := by decide +kernel
theorem dX11_firstHome_12 : decode cX11_firstHome 12 = .ok (.iconst 1, 1) := by decide +kernel
theorem dX11_firstHome_13 : decode cX11_firstHome 13 = .ok (.invokestatic 88, 3) := by decide +kernel
theorem dX11_firstHome_16 : decode cX11_firstHome 16 = .ok (.ifCond .ne 5, 3) := by decide +kernel
theorem dX11_firstHome_19 : decode cX11_firstHome 19 = .ok (.iconst (-1), 1) := by decide +kernel
theorem dX11_firstHome_20 : decode cX11_firstHome 20 = .ok (.ireturn, 1) := by decide +kernel
theorem dX11_firstHome_21 : decode cX11_firstHome 21 = .ok (.aload_n 0, 1) := by decide +kernel
theorem dX11_firstHome_22 : decode cX11_firstHome 22 = .ok (.getfield 81, 3) := by decide +kernel
theorem dX11_firstHome_25 : decode cX11_firstHome 25 = .ok (.aload_n 0, 1) := by decide +kernel
theorem dX11_firstHome_26 : decode cX11_firstHome 26 = .ok (.getfield 74, 3) := by decide +kernel
theorem dX11_firstHome_29 : decode cX11_firstHome 29 = .ok (.invokevirtual 194, 3) := by decide +kernel
theorem dX11_firstHome_32 : decode cX11_firstHome 32 = .ok (.iconst 0, 1) := by decide +kernel
theorem dX11_firstHome_33 : decode cX11_firstHome 33 = .ok (.istore_n 3, 1) := by decide +kernel
theorem dX11_firstHome_34 : decode cX11_firstHome 34 = .ok (.iload_n 3, 1) := by decide +kernel
theorem dX11_firstHome_35 : decode cX11_firstHome 35 = .ok (.iload_n 1, 1) := by decide +kernel
theorem dX11_firstHome_36 : decode cX11_firstHome 36 = .ok (.if_icmp .gt 68, 3) := by decide +kernel
theorem dX11_firstHome_39 : decode cX11_firstHome 39 = .ok (.aload_n 0, 1) := by decide +kernel
theorem dX11_firstHome_40 : decode cX11_firstHome 40 = .ok (.getfield 81, 3) := by decide +kernel
theorem dX11_firstHome_43 : decode cX11_firstHome 43 = .ok (.iconst 1, 1) := by decide +kernel
theorem dX11_firstHome_44 : decode cX11_firstHome 44 = .ok (.invokevirtual 226, 3) := by decide +kernel
theorem dX11_firstHome_47 : decode cX11_firstHome 47 = .ok (.istore 4, 2) := by decide +kernel
theorem dX11_firstHome_49 : decode cX11_firstHome 49 = .ok (.iload 4, 2) := by decide +kernel
theorem dX11_firstHome_51 : decode cX11_firstHome 51 = .ok (.iconst (-1), 1) := by decide +kernel
theorem dX11_firstHome_52 : decode cX11_firstHome 52 = .ok (.if_icmp .eq 14, 3) := by decide +kernel
theorem dX11_firstHome_55 : decode cX11_firstHome 55 = .ok (.iload_n 2, 1) := by decide +kernel
theorem dX11_firstHome_56 : decode cX11_firstHome 56 = .ok (.ifCond .ne 7, 3) := by decide +kernel
theorem dX11_firstHome_59 : decode cX11_firstHome 59 = .ok (.iload_n 3, 1) := by decide +kernel
theorem dX11_firstHome_60 : decode cX11_firstHome 60 = .ok (.goto 5, 3) := by decide +kernel
theorem dX11_firstHome_63 : decode cX11_firstHome 63 = .ok (.iload 4, 2) := by decide +kernel
theorem dX11_firstHome_65 : decode cX11_firstHome 65 = .ok (.ireturn, 1) := by decide +kernel
theorem dX11_firstHome_66 : decode cX11_firstHome 66 = .ok (.aload_n 0, 1) := by decide +kernel
theorem dX11_firstHome_67 : decode cX11_firstHome 67 = .ok (.getfield 81, 3) := by decide +kernel
theorem dX11_firstHome_70 : decode cX11_firstHome 70 = .ok (.getfield 107, 3) := by decide +kernel
theorem dX11_firstHome_73 : decode cX11_firstHome 73 = .ok (.sipush 9999, 3) := by decide +kernel
theorem dX11_firstHome_76 : decode cX11_firstHome 76 = .ok (.if_icmp .lt 6, 3) := by decide +kernel
theorem dX11_firstHome_79 : decode cX11_firstHome 79 = .ok (.bipush (-2), 2) := by decide +kernel
theorem dX11_firstHome_81 : decode cX11_firstHome 81 = .ok (.ireturn, 1) := by decide +kernel
theorem dX11_firstHome_82 : decode cX11_firstHome 82 = .ok (.iload_n 3, 1) := by decide +kernel
theorem dX11_firstHome_83 : decode cX11_firstHome 83 = .ok (.iload_n 1, 1) := by decide +kernel
theorem dX11_firstHome_84 : decode cX11_firstHome 84 = .ok (.if_icmp .ge 14, 3) := by decide +kernel
theorem dX11_firstHome_87 : decode cX11_firstHome 87 = .ok (.aload_n 0, 1) := by decide +kernel
theorem dX11_firstHome_88 : decode cX11_firstHome 88 = .ok (.getfield 58, 3) := by decide +kernel
theorem dX11_firstHome_91 : decode cX11_firstHome 91 = .ok (.aload_n 0, 1) := by decide +kernel
theorem dX11_firstHome_92 : decode cX11_firstHome 92 = .ok (.getfield 81, 3) := by decide +kernel
theorem dX11_firstHome_95 : decode cX11_firstHome 95 = .ok (.invokevirtual 178, 3) := by decide +kernel
theorem dX11_firstHome_98 : decode cX11_firstHome 98 = .ok (.iinc 3 1, 3) := by decide +kernel
theorem dX11_firstHome_101 : decode cX11_firstHome 101 = .ok (.goto (-67), 3) := by decide +kernel
theorem dX11_firstHome_104 : decode cX11_firstHome 104 = .ok (.bipush (-2), 2) := by decide +kernel
theorem dX11_firstHome_106 : decode cX11_firstHome 106 = .ok (.ireturn, 1) := by decide +kernel
theorem dX11_two_0 : decode cX11_two 0 = .ok (.aload_n 0, 1) := by decide +kernel
theorem dX11_two_1 : decode cX11_two 1 = .ok (.getfield 19, 3) := by decide +kernel
theorem dX11_two_4 : decode cX11_two 4 = .ok (.iload_n 1, 1) := by decide +kernel
theorem dX11_two_5 : decode cX11_two 5 = .ok (.invokevirtual 211, 3) := by decide +kernel
theorem dX11_two_8 : decode cX11_two 8 = .ok (.astore 4, 2) := by decide +kernel
theorem dX11_two_10 : decode cX11_two 10 = .ok (.aload_n 0, 1) := by decide +kernel
theorem dX11_two_11 : decode cX11_two 11 = .ok (.getfield 19, 3) := by decide +kernel
theorem dX11_two_14 : decode cX11_two 14 = .ok (.iload_n 2, 1) := by decide +kernel
theorem dX11_two_15 : decode cX11_two 15 = .ok (.invokevirtual 211, 3) := by decide +kernel
theorem dX11_two_18 : decode cX11_two 18 = .ok (.astore 5, 2) := by decide +kernel
theorem dX11_two_20 : decode cX11_two 20 = .ok (.aload 4, 2) := by decide +kernel
theorem dX11_two_22 : decode cX11_two 22 = .ok (.ifnull 13, 3) := by decide +kernel
theorem dX11_two_25 : decode cX11_two 25 = .ok (.aload 5, 2) := by decide +kernel
theorem dX11_two_27 : decode cX11_two 27 = .ok (.ifnull 8, 3) := by decide +kernel
theorem dX11_two_30 : decode cX11_two 30 = .ok (.iload_n 1, 1) := by decide +kernel
theorem dX11_two_31 : decode cX11_two 31 = .ok (.iload_n 2, 1) := by decide +kernel
theorem dX11_two_32 : decode cX11_two 32 = .ok (.if_icmp .ne 5, 3) := by decide +kernel
theorem dX11_two_35 : decode cX11_two 35 = .ok (.iconst (-1), 1) := by decide +kernel
theorem dX11_two_36 : decode cX11_two 36 = .ok (.ireturn, 1) := by decide +kernel
theorem dX11_two_37 : decode cX11_two 37 = .ok (.iload_n 3, 1) := by decide +kernel
theorem dX11_two_38 : decode cX11_two 38 = .ok (.tableswitch 90 0 3 #[30, 42, 55, 67], 30) := by decide +kernel
theorem dX11_two_68 : decode cX11_two 68 = .ok (.aload_n 0, 1) := by decide +kernel
theorem dX11_two_69 : decode cX11_two 69 = .ok (.getfield 67, 3) := by decide +kernel
theorem dX11_two_72 : decode cX11_two 72 = .ok (.aload 4, 2) := by decide +kernel
theorem dX11_two_74 : decode cX11_two 74 = .ok (.aload 5, 2) := by decide +kernel
theorem dX11_two_76 : decode cX11_two 76 = .ok (.invokevirtual 229, 3) := by decide +kernel
theorem dX11_two_79 : decode cX11_two 79 = .ok (.ireturn, 1) := by decide +kernel
theorem dX11_two_80 : decode cX11_two 80 = .ok (.aload_n 0, 1) := by decide +kernel
theorem dX11_two_81 : decode cX11_two 81 = .ok (.getfield 67, 3) := by decide +kernel
theorem dX11_two_84 : decode cX11_two 84 = .ok (.aload 4, 2) := by decide +kernel
theorem dX11_two_86 : decode cX11_two 86 = .ok (.aload 5, 2) := by decide +kernel
theorem dX11_two_88 : decode cX11_two 88 = .ok (.iconst 0, 1) := by decide +kernel
theorem dX11_two_89 : decode cX11_two 89 = .ok (.invokevirtual 233, 3) := by decide +kernel
theorem dX11_two_92 : decode cX11_two 92 = .ok (.ireturn, 1) := by decide +kernel
theorem dX11_two_93 : decode cX11_two 93 = .ok (.aload_n 0, 1) := by decide +kernel
theorem dX11_two_94 : decode cX11_two 94 = .ok (.getfield 67, 3) := by decide +kernel
theorem dX11_two_97 : decode cX11_two 97 = .ok (.aload 4, 2) := by decide +kernel
theorem dX11_two_99 : decode cX11_two 99 = .ok (.aload 5, 2) := by decide +kernel
theorem dX11_two_101 : decode cX11_two 101 = .ok (.invokevirtual 237, 3) := by decide +kernel
theorem dX11_two_104 : decode cX11_two 104 = .ok (.ireturn, 1) := by decide +kernel
theorem dX11_two_105 : decode cX11_two 105 = .ok (.aload_n 0, 1) := by decide +kernel
theorem dX11_two_106 : decode cX11_two 106 = .ok (.getfield 67, 3) := by decide +kernel
theorem dX11_two_109 : decode cX11_two 109 = .ok (.aload 4, 2) := by decide +kernel
theorem dX11_two_111 : decode cX11_two 111 = .ok (.aload 5, 2) := by decide +kernel
theorem dX11_two_113 : decode cX11_two 113 = .ok (.aload_n 0, 1) := by decide +kernel
theorem dX11_two_114 : decode cX11_two 114 = .ok (.getfield 67, 3) := by decide +kernel
theorem dX11_two_117 : decode cX11_two 117 = .ok (.aload 4, 2) := by decide +kernel
theorem dX11_two_119 : decode cX11_two 119 = .ok (.aload 5, 2) := by decide +kernel
theorem dX11_two_121 : decode cX11_two 121 = .ok (.invokevirtual 237, 3) := by decide +kernel
theorem dX11_two_124 : decode cX11_two 124 = .ok (.invokevirtual 233, 3) := by decide +kernel
theorem dX11_two_127 : decode cX11_two 127 = .ok (.ireturn, 1) := by decide +kernel
theorem dX11_two_128 : decode cX11_two 128 = .ok (.iconst (-1), 1) := by decide +kernel
theorem dX11_two_129 : decode cX11_two 129 = .ok (.ireturn, 1) := by decide +kernel
theorem dX11_together_0 : decode cX11_together 0 = .ok (.aload_n 0, 1) := by decide +kernel
theorem dX11_together_1 : decode cX11_together 1 = .ok (.getfield 19, 3) := by decide +kernel
theorem dX11_together_4 : decode cX11_together 4 = .ok (.iload_n 1, 1) := by decide +kernel
theorem dX11_together_5 : decode cX11_together 5 = .ok (.invokevirtual 211, 3) := by decide +kernel
theorem dX11_together_8 : decode cX11_together 8 = .ok (.astore 4, 2) := by decide +kernel
theorem dX11_together_10 : decode cX11_together 10 = .ok (.aload_n 0, 1) := by decide +kernel
theorem dX11_together_11 : decode cX11_together 11 = .ok (.getfield 19, 3) := by decide +kernel
theorem dX11_together_14 : decode cX11_together 14 = .ok (.iload_n 2, 1) := by decide +kernel
theorem dX11_together_15 : decode cX11_together 15 = .ok (.invokevirtual 211, 3) := by decide +kernel
theorem dX11_together_18 : decode cX11_together 18 = .ok (.astore 5, 2) := by decide +kernel
theorem dX11_together_20 : decode cX11_together 20 = .ok (.aload 4, 2) := by decide +kernel
theorem dX11_together_22 : decode cX11_together 22 = .ok (.ifnull 22, 3) := by decide +kernel
theorem dX11_together_25 : decode cX11_together 25 = .ok (.aload 5, 2) := by decide +kernel
theorem dX11_together_27 : decode cX11_together 27 = .ok (.ifnull 17, 3) := by decide +kernel
theorem dX11_together_30 : decode cX11_together 30 = .ok (.iload_n 1, 1) := by decide +kernel
theorem dX11_together_31 : decode cX11_together 31 = .ok (.iload_n 2, 1) := by decide +kernel
theorem dX11_together_32 : decode cX11_together 32 = .ok (.if_icmp .eq 12, 3) := by decide +kernel
theorem dX11_together_35 : decode cX11_together 35 = .ok (.iload_n 3, 1) := by decide +kernel
theorem dX11_together_36 : decode cX11_together 36 = .ok (.bipush 26, 2) := by decide +kernel
theorem dX11_together_38 : decode cX11_together 38 = .ok (.invokestatic 88, 3) := by decide +kernel
theorem dX11_together_41 : decode cX11_together 41 = .ok (.ifCond .ne 5, 3) := by decide +kernel
theorem dX11_together_44 : decode cX11_together 44 = .ok (.iconst (-1), 1) := by decide +kernel
theorem dX11_together_45 : decode cX11_together 45 = .ok (.ireturn, 1) := by decide +kernel
theorem dX11_together_46 : decode cX11_together 46 = .ok (.aload_n 0, 1) := by decide +kernel
theorem dX11_together_47 : decode cX11_together 47 = .ok (.getfield 67, 3) := by decide +kernel
theorem dX11_together_50 : decode cX11_together 50 = .ok (.aload 4, 2) := by decide +kernel
theorem dX11_together_52 : decode cX11_together 52 = .ok (.aload 5, 2) := by decide +kernel
theorem dX11_together_54 : decode cX11_together 54 = .ok (.iload_n 3, 1) := by decide +kernel
theorem dX11_together_55 : decode cX11_together 55 = .ok (.invokevirtual 240, 3) := by decide +kernel
theorem dX11_together_58 : decode cX11_together 58 = .ok (.ireturn, 1) := by decide +kernel
theorem dX11_crowd_0 : decode cX11_crowd 0 = .ok (.iload_n 1, 1) := by decide +kernel
theorem dX11_crowd_1 : decode cX11_crowd 1 = .ok (.sipush 20000, 3) := by decide +kernel
theorem dX11_crowd_4 : decode cX11_crowd 4 = .ok (.invokestatic 88, 3) := by decide +kernel
theorem dX11_crowd_7 : decode cX11_crowd 7 = .ok (.ifCond .eq 11, 3) := by decide +kernel
theorem dX11_crowd_10 : decode cX11_crowd 10 = .ok (.iload_n 2, 1) := by decide +kernel
theorem dX11_crowd_11 : decode cX11_crowd 11 = .ok (.iconst 1, 1) := by decide +kernel
theorem dX11_crowd_12 : decode cX11_crowd 12 = .ok (.invokestatic 88, 3) := by decide +kernel
theorem dX11_crowd_15 : decode cX11_crowd 15 = .ok (.ifCond .ne 5, 3) := by decide +kernel
theorem dX11_crowd_18 : decode cX11_crowd 18 = .ok (.iconst (-1), 1) := by decide +kernel
theorem dX11_crowd_19 : decode cX11_crowd 19 = .ok (.ireturn, 1) := by decide +kernel
theorem dX11_crowd_20 : decode cX11_crowd 20 = .ok (.aload_n 0, 1) := by decide +kernel
theorem dX11_crowd_21 : decode cX11_crowd 21 = .ok (.getfield 67, 3) := by decide +kernel
theorem dX11_crowd_24 : decode cX11_crowd 24 = .ok (.iload_n 1, 1) := by decide +kernel
theorem dX11_crowd_25 : decode cX11_crowd 25 = .ok (.invokevirtual 243, 3) := by decide +kernel
theorem dX11_crowd_28 : decode cX11_crowd 28 = .ok (.istore_n 3, 1) := by decide +kernel
theorem dX11_crowd_29 : decode cX11_crowd 29 = .ok (.iload_n 2, 1) := by decide +kernel
theorem dX11_crowd_30 : decode cX11_crowd 30 = .ok (.ifCond .ne 5, 3) := by decide +kernel
theorem dX11_crowd_33 : decode cX11_crowd 33 = .ok (.iload_n 3, 1) := by decide +kernel
theorem dX11_crowd_34 : decode cX11_crowd 34 = .ok (.ireturn, 1) := by decide +kernel
theorem dX11_crowd_35 : decode cX11_crowd 35 = .ok (.aload_n 0, 1) := by decide +kernel
theorem dX11_crowd_36 : decode cX11_crowd 36 = .ok (.getfield 19, 3) := by decide +kernel
theorem dX11_crowd_39 : decode cX11_crowd 39 = .ok (.iload_n 3, 1) := by decide +kernel
theorem dX11_crowd_40 : decode cX11_crowd 40 = .ok (.iload_n 1, 1) := by decide +kernel
theorem dX11_crowd_41 : decode cX11_crowd 41 = .ok (.invokevirtual 246, 3) := by decide +kernel
theorem dX11_crowd_44 : decode cX11_crowd 44 = .ok (.ireturn, 1) := by decide +kernel
theorem dX11_stayed_0 : decode cX11_stayed 0 = .ok (.aload_n 0, 1) := by decide +kernel
theorem dX11_stayed_1 : decode cX11_stayed 1 = .ok (.getfield 19, 3) := by decide +kernel
theorem dX11_stayed_4 : decode cX11_stayed 4 = .ok (.iload_n 1, 1) := by decide +kernel
theorem dX11_stayed_5 : decode cX11_stayed 5 = .ok (.invokevirtual 211, 3) := by decide +kernel
theorem dX11_stayed_8 : decode cX11_stayed 8 = .ok (.astore_n 3, 1) := by decide +kernel
theorem dX11_stayed_9 : decode cX11_stayed 9 = .ok (.aload_n 3, 1) := by decide +kernel
theorem dX11_stayed_10 : decode cX11_stayed 10 = .ok (.ifnonnull 5, 3) := by decide +kernel
theorem dX11_stayed_13 : decode cX11_stayed 13 = .ok (.iconst (-1), 1) := by decide +kernel
theorem dX11_stayed_14 : decode cX11_stayed 14 = .ok (.ireturn, 1) := by decide +kernel
theorem dX11_stayed_15 : decode cX11_stayed 15 = .ok (.iload_n 2, 1) := by decide +kernel
theorem dX11_stayed_16 : decode cX11_stayed 16 = .ok (.tableswitch 59 0 2 #[28, 37, 50], 28) := by decide +kernel
theorem dX11_stayed_44 : decode cX11_stayed 44 = .ok (.aload_n 0, 1) := by decide +kernel
theorem dX11_stayed_45 : decode cX11_stayed 45 = .ok (.getfield 67, 3) := by decide +kernel
theorem dX11_stayed_48 : decode cX11_stayed 48 = .ok (.aload_n 3, 1) := by decide +kernel
theorem dX11_stayed_49 : decode cX11_stayed 49 = .ok (.invokevirtual 249, 3) := by decide +kernel
theorem dX11_stayed_52 : decode cX11_stayed 52 = .ok (.ireturn, 1) := by decide +kernel
theorem dX11_stayed_53 : decode cX11_stayed 53 = .ok (.aload_n 3, 1) := by decide +kernel
theorem dX11_stayed_54 : decode cX11_stayed 54 = .ok (.aload_n 0, 1) := by decide +kernel
theorem dX11_stayed_55 : decode cX11_stayed 55 = .ok (.getfield 67, 3) := by decide +kernel
theorem dX11_stayed_58 : decode cX11_stayed 58 = .ok (.aload_n 3, 1) := by decide +kernel
theorem dX11_stayed_59 : decode cX11_stayed 59 = .ok (.invokevirtual 249, 3) := by decide +kernel
theorem dX11_stayed_62 : decode cX11_stayed 62 = .ok (.invokevirtual 253, 3) := by decide +kernel
theorem dX11_stayed_65 : decode cX11_stayed 65 = .ok (.ireturn, 1) := by decide +kernel
theorem dX11_stayed_66 : decode cX11_stayed 66 = .ok (.aload_n 0, 1) := by decide +kernel
theorem dX11_stayed_67 : decode cX11_stayed 67 = .ok (.getfield 67, 3) := by decide +kernel
theorem dX11_stayed_70 : decode cX11_stayed 70 = .ok (.aload_n 3, 1) := by decide +kernel
theorem dX11_stayed_71 : decode cX11_stayed 71 = .ok (.invokevirtual 256, 3) := by decide +kernel
theorem dX11_stayed_74 : decode cX11_stayed 74 = .ok (.ireturn, 1) := by decide +kernel
theorem dX11_stayed_75 : decode cX11_stayed 75 = .ok (.iconst (-1), 1) := by decide +kernel
theorem dX11_stayed_76 : decode cX11_stayed 76 = .ok (.ireturn, 1) := by decide +kernel
theorem dX11_unlooped_0 : decode cX11_unlooped 0 = .ok (.aload_n 0, 1) := by decide +kernel
theorem dX11_unlooped_1 : decode cX11_unlooped 1 = .ok (.getfield 19, 3) := by decide +kernel
theorem dX11_unlooped_4 : decode cX11_unlooped 4 = .ok (.iload_n 1, 1) := by decide +kernel
theorem dX11_unlooped_5 : decode cX11_unlooped 5 = .ok (.invokevirtual 211, 3) := by decide +kernel
theorem dX11_unlooped_8 : decode cX11_unlooped 8 = .ok (.astore_n 3, 1) := by decide +kernel
theorem dX11_unlooped_9 : decode cX11_unlooped 9 = .ok (.aload_n 3, 1) := by decide +kernel
theorem dX11_unlooped_10 : decode cX11_unlooped 10 = .ok (.ifnull 18, 3) := by decide +kernel
theorem dX11_unlooped_13 : decode cX11_unlooped 13 = .ok (.iload_n 2, 1) := by decide +kernel
theorem dX11_unlooped_14 : decode cX11_unlooped 14 = .ok (.bipush 96, 2) := by decide +kernel
theorem dX11_unlooped_16 : decode cX11_unlooped 16 = .ok (.invokestatic 88, 3) := by decide +kernel
theorem dX11_unlooped_19 : decode cX11_unlooped 19 = .ok (.ifCond .ne 11, 3) := by decide +kernel
theorem dX11_unlooped_22 : decode cX11_unlooped 22 = .ok (.iload_n 2, 1) := by decide +kernel
theorem dX11_unlooped_23 : decode cX11_unlooped 23 = .ok (.bipush 100, 2) := by decide +kernel
theorem dX11_unlooped_25 : decode cX11_unlooped 25 = .ok (.if_icmp .eq 5, 3) := by decide +kernel
theorem dX11_unlooped_28 : decode cX11_unlooped 28 = .ok (.iconst (-1), 1) := by decide +kernel
theorem dX11_unlooped_29 : decode cX11_unlooped 29 = .ok (.ireturn, 1) := by decide +kernel
theorem dX11_unlooped_30 : decode cX11_unlooped 30 = .ok (.aload_n 0, 1) := by decide +kernel
theorem dX11_unlooped_31 : decode cX11_unlooped 31 = .ok (.getfield 67, 3) := by decide +kernel
theorem dX11_unlooped_34 : decode cX11_unlooped 34 = .ok (.aload_n 3, 1) := by decide +kernel
theorem dX11_unlooped_35 : decode cX11_unlooped 35 = .ok (.invokevirtual 259, 3) := by decide +kernel
theorem dX11_unlooped_38 : decode cX11_unlooped 38 = .ok (.istore 4, 2) := by decide +kernel
theorem dX11_unlooped_40 : decode cX11_unlooped 40 = .ok (.iload_n 2, 1) := by decide +kernel
theorem dX11_unlooped_41 : decode cX11_unlooped 41 = .ok (.bipush 100, 2) := by decide +kernel
theorem dX11_unlooped_43 : decode cX11_unlooped 43 = .ok (.if_icmp .ne 6, 3) := by decide +kernel
theorem dX11_unlooped_46 : decode cX11_unlooped 46 = .ok (.iload 4, 2) := by decide +kernel
theorem dX11_unlooped_48 : decode cX11_unlooped 48 = .ok (.ireturn, 1) := by decide +kernel
theorem dX11_unlooped_49 : decode cX11_unlooped 49 = .ok (.iload_n 2, 1) := by decide +kernel
theorem dX11_unlooped_50 : decode cX11_unlooped 50 = .ok (.iload 4, 2) := by decide +kernel
theorem dX11_unlooped_52 : decode cX11_unlooped 52 = .ok (.if_icmp .ge 14, 3) := by decide +kernel
theorem dX11_unlooped_55 : decode cX11_unlooped 55 = .ok (.aload_n 0, 1) := by decide +kernel
theorem dX11_unlooped_56 : decode cX11_unlooped 56 = .ok (.getfield 67, 3) := by decide +kernel
theorem dX11_unlooped_59 : decode cX11_unlooped 59 = .ok (.iload_n 2, 1) := by decide +kernel
theorem dX11_unlooped_60 : decode cX11_unlooped 60 = .ok (.invokevirtual 262, 3) := by decide +kernel
theorem dX11_unlooped_63 : decode cX11_unlooped 63 = .ok (.goto 5, 3) := by decide +kernel
theorem dX11_unlooped_66 : decode cX11_unlooped 66 = .ok (.bipush (-4), 2) := by decide +kernel
theorem dX11_unlooped_68 : decode cX11_unlooped 68 = .ok (.ireturn, 1) := by decide +kernel
theorem dX11_charges_0 : decode cX11_charges 0 = .ok (.aload_n 0, 1) := by decide +kernel
theorem dX11_charges_1 : decode cX11_charges 1 = .ok (.getfield 19, 3) := by decide +kernel
theorem dX11_charges_4 : decode cX11_charges 4 = .ok (.iload_n 1, 1) := by decide +kernel
theorem dX11_charges_5 : decode cX11_charges 5 = .ok (.invokevirtual 211, 3) := by decide +kernel
theorem dX11_charges_8 : decode cX11_charges 8 = .ok (.astore_n 3, 1) := by decide +kernel
theorem dX11_charges_9 : decode cX11_charges 9 = .ok (.aload_n 3, 1) := by decide +kernel
theorem dX11_charges_10 : decode cX11_charges 10 = .ok (.ifnonnull 5, 3) := by decide +kernel
theorem dX11_charges_13 : decode cX11_charges 13 = .ok (.iconst (-1), 1) := by decide +kernel
theorem dX11_charges_14 : decode cX11_charges 14 = .ok (.ireturn, 1) := by decide +kernel
theorem dX11_charges_15 : decode cX11_charges 15 = .ok (.iload_n 2, 1) := by decide +kernel
theorem dX11_charges_16 : decode cX11_charges 16 = .ok (.tableswitch 63 0 2 #[28, 37, 46], 28) := by decide +kernel
theorem dX11_charges_44 : decode cX11_charges 44 = .ok (.aload_n 0, 1) := by decide +kernel
theorem dX11_charges_45 : decode cX11_charges 45 = .ok (.getfield 67, 3) := by decide +kernel
theorem dX11_charges_48 : decode cX11_charges 48 = .ok (.aload_n 3, 1) := by decide +kernel
theorem dX11_charges_49 : decode cX11_charges 49 = .ok (.invokevirtual 265, 3) := by decide +kernel
theorem dX11_charges_52 : decode cX11_charges 52 = .ok (.ireturn, 1) := by decide +kernel
theorem dX11_charges_53 : decode cX11_charges 53 = .ok (.aload_n 0, 1) := by decide +kernel
theorem dX11_charges_54 : decode cX11_charges 54 = .ok (.getfield 67, 3) := by decide +kernel
theorem dX11_charges_57 : decode cX11_charges 57 = .ok (.aload_n 3, 1) := by decide +kernel
theorem dX11_charges_58 : decode cX11_charges 58 = .ok (.invokevirtual 268, 3) := by decide +kernel
theorem dX11_charges_61 : decode cX11_charges 61 = .ok (.ireturn, 1) := by decide +kernel
theorem dX11_charges_62 : decode cX11_charges 62 = .ok (.aload_n 0, 1) := by decide +kernel
theorem dX11_charges_63 : decode cX11_charges 63 = .ok (.getfield 67, 3) := by decide +kernel
theorem dX11_charges_66 : decode cX11_charges 66 = .ok (.aload_n 3, 1) := by decide +kernel
theorem dX11_charges_67 : decode cX11_charges 67 = .ok (.aload_n 0, 1) := by decide +kernel
theorem dX11_charges_68 : decode cX11_charges 68 = .ok (.getfield 67, 3) := by decide +kernel
theorem dX11_charges_71 : decode cX11_charges 71 = .ok (.aload_n 3, 1) := by decide +kernel
theorem dX11_charges_72 : decode cX11_charges 72 = .ok (.invokevirtual 268, 3) := by decide +kernel
theorem dX11_charges_75 : decode cX11_charges 75 = .ok (.invokevirtual 271, 3) := by decide +kernel
theorem dX11_charges_78 : decode cX11_charges 78 = .ok (.ireturn, 1) := by decide +kernel
theorem dX11_charges_79 : decode cX11_charges 79 = .ok (.iconst (-1), 1) := by decide +kernel
theorem dX11_charges_80 : decode cX11_charges 80 = .ok (.ireturn, 1) := by decide +kernel
theorem dX11_round_0 : decode cX11_round 0 = .ok (.iload_n 1, 1) := by decide +kernel
theorem dX11_round_1 : decode cX11_round 1 = .ok (.invokestatic 275, 3) := by decide +kernel
theorem dX11_round_4 : decode cX11_round 4 = .ok (.ifCond .eq 10, 3) := by decide +kernel
theorem dX11_round_7 : decode cX11_round 7 = .ok (.iload_n 2, 1) := by decide +kernel
theorem dX11_round_8 : decode cX11_round 8 = .ok (.invokestatic 275, 3) := by decide +kernel
theorem dX11_round_11 : decode cX11_round 11 = .ok (.ifCond .ne 5, 3) := by decide +kernel
theorem dX11_round_14 : decode cX11_round 14 = .ok (.iconst (-1), 1) := by decide +kernel
theorem dX11_round_15 : decode cX11_round 15 = .ok (.ireturn, 1) := by decide +kernel
theorem dX11_round_16 : decode cX11_round 16 = .ok (.aload_n 0, 1) := by decide +kernel
theorem dX11_round_17 : decode cX11_round 17 = .ok (.getfield 67, 3) := by decide +kernel
theorem dX11_round_20 : decode cX11_round 20 = .ok (.iload_n 1, 1) := by decide +kernel
theorem dX11_round_21 : decode cX11_round 21 = .ok (.iload_n 2, 1) := by decide +kernel
theorem dX11_round_22 : decode cX11_round 22 = .ok (.invokevirtual 278, 3) := by decide +kernel
theorem dX11_round_25 : decode cX11_round 25 = .ok (.ireturn, 1) := by decide +kernel
theorem dX11_cast_0 : decode cX11_cast 0 = .ok (.aload_n 0, 1) := by decide +kernel
theorem dX11_cast_1 : decode cX11_cast 1 = .ok (.getfield 74, 3) := by decide +kernel
theorem dX11_cast_4 : decode cX11_cast 4 = .ok (.iload_n 1, 1) := by decide +kernel
theorem dX11_cast_5 : decode cX11_cast 5 = .ok (.invokevirtual 205, 3) := by decide +kernel
theorem dX11_cast_8 : decode cX11_cast 8 = .ok (.ifCond .ne 5, 3) := by decide +kernel
theorem dX11_cast_11 : decode cX11_cast 11 = .ok (.iconst (-1), 1) := by decide +kernel
theorem dX11_cast_12 : decode cX11_cast 12 = .ok (.ireturn, 1) := by decide +kernel
theorem dX11_cast_13 : decode cX11_cast 13 = .ok (.aload_n 0, 1) := by decide +kernel
theorem dX11_cast_14 : decode cX11_cast 14 = .ok (.getfield 19, 3) := by decide +kernel
theorem dX11_cast_17 : decode cX11_cast 17 = .ok (.aload_n 0, 1) := by decide +kernel
theorem dX11_cast_18 : decode cX11_cast 18 = .ok (.getfield 74, 3) := by decide +kernel
theorem dX11_cast_21 : decode cX11_cast 21 = .ok (.iload_n 1, 1) := by decide +kernel
theorem dX11_cast_22 : decode cX11_cast 22 = .ok (.invokevirtual 196, 3) := by decide +kernel
theorem dX11_cast_25 : decode cX11_cast 25 = .ok (.aload_n 0, 1) := by decide +kernel
theorem dX11_cast_26 : decode cX11_cast 26 = .ok (.getfield 74, 3) := by decide +kernel
theorem dX11_cast_29 : decode cX11_cast 29 = .ok (.iload_n 1, 1) := by decide +kernel
theorem dX11_cast_30 : decode cX11_cast 30 = .ok (.invokevirtual 199, 3) := by decide +kernel
theorem dX11_cast_33 : decode cX11_cast 33 = .ok (.aload_n 0, 1) := by decide +kernel
theorem dX11_cast_34 : decode cX11_cast 34 = .ok (.getfield 74, 3) := by decide +kernel
theorem dX11_cast_37 : decode cX11_cast 37 = .ok (.getfield 107, 3) := by decide +kernel
theorem dX11_cast_40 : decode cX11_cast 40 = .ok (.invokevirtual 281, 3) := by decide +kernel
theorem dX11_cast_43 : decode cX11_cast 43 = .ok (.ireturn, 1) := by decide +kernel
theorem dX11_huntable_0 : decode cX11_huntable 0 = .ok (.iload_n 1, 1) := by decide +kernel
theorem dX11_huntable_1 : decode cX11_huntable 1 = .ok (.iconst 1, 1) := by decide +kernel
theorem dX11_huntable_2 : decode cX11_huntable 2 = .ok (.if_icmp .lt 9, 3) := by decide +kernel
theorem dX11_huntable_5 : decode cX11_huntable 5 = .ok (.iload_n 1, 1) := by decide +kernel
theorem dX11_huntable_6 : decode cX11_huntable 6 = .ok (.bipush 99, 2) := by decide +kernel
theorem dX11_huntable_8 : decode cX11_huntable 8 = .ok (.if_icmp .le 5, 3) := by decide +kernel
theorem dX11_huntable_11 : decode cX11_huntable 11 = .ok (.iconst (-1), 1) := by decide +kernel
theorem dX11_huntable_12 : decode cX11_huntable 12 = .ok (.ireturn, 1) := by decide +kernel
theorem dX11_huntable_13 : decode cX11_huntable 13 = .ok (.aload_n 0, 1) := by decide +kernel
theorem dX11_huntable_14 : decode cX11_huntable 14 = .ok (.getfield 67, 3) := by decide +kernel
theorem dX11_huntable_17 : decode cX11_huntable 17 = .ok (.iload_n 1, 1) := by decide +kernel
theorem dX11_huntable_18 : decode cX11_huntable 18 = .ok (.aload_n 0, 1) := by decide +kernel
theorem dX11_huntable_19 : decode cX11_huntable 19 = .ok (.getfield 74, 3) := by decide +kernel
theorem dX11_huntable_22 : decode cX11_huntable 22 = .ok (.getfield 107, 3) := by decide +kernel
theorem dX11_huntable_25 : decode cX11_huntable 25 = .ok (.invokevirtual 285, 3) := by decide +kernel
theorem dX11_huntable_28 : decode cX11_huntable 28 = .ok (.ireturn, 1) := by decide +kernel
theorem dX11_couldBe_0 : decode cX11_couldBe 0 = .ok (.iload_n 1, 1) := by decide +kernel
theorem dX11_couldBe_1 : decode cX11_couldBe 1 = .ok (.iconst 1, 1) := by decide +kernel
theorem dX11_couldBe_2 : decode cX11_couldBe 2 = .ok (.if_icmp .lt 31, 3) := by decide +kernel
theorem dX11_couldBe_5 : decode cX11_couldBe 5 = .ok (.iload_n 1, 1) := by decide +kernel
theorem dX11_couldBe_6 : decode cX11_couldBe 6 = .ok (.bipush 10, 2) := by decide +kernel
theorem dX11_couldBe_8 : decode cX11_couldBe 8 = .ok (.if_icmp .gt 25, 3) := by decide +kernel
theorem dX11_couldBe_11 : decode cX11_couldBe 11 = .ok (.iload_n 2, 1) := by decide +kernel
theorem dX11_couldBe_12 : decode cX11_couldBe 12 = .ok (.bipush 99, 2) := by decide +kernel
theorem dX11_couldBe_14 : decode cX11_couldBe 14 = .ok (.invokestatic 88, 3) := by decide +kernel
theorem dX11_couldBe_17 : decode cX11_couldBe 17 = .ok (.ifCond .eq 16, 3) := by decide +kernel
theorem dX11_couldBe_20 : decode cX11_couldBe 20 = .ok (.aload_n 0, 1) := by decide +kernel
theorem dX11_couldBe_21 : decode cX11_couldBe 21 = .ok (.getfield 10, 3) := by decide +kernel
theorem dX11_couldBe_24 : decode cX11_couldBe 24 = .ok (.iconst 3, 1) := by decide +kernel
theorem dX11_couldBe_25 : decode cX11_couldBe 25 = .ok (.iload_n 1, 1) := by decide +kernel
theorem dX11_couldBe_26 : decode cX11_couldBe 26 = .ok (.imul, 1) := by decide +kernel
theorem dX11_couldBe_27 : decode cX11_couldBe 27 = .ok (.invokevirtual 288, 3) := by decide +kernel
theorem dX11_couldBe_30 : decode cX11_couldBe 30 = .ok (.ifCond .ne 5, 3) := by decide +kernel
theorem dX11_couldBe_33 : decode cX11_couldBe 33 = .ok (.iconst (-1), 1) := by decide +kernel
theorem dX11_couldBe_34 : decode cX11_couldBe 34 = .ok (.ireturn, 1) := by decide +kernel
theorem dX11_couldBe_35 : decode cX11_couldBe 35 = .ok (.iconst 0, 1) := by decide +kernel
theorem dX11_couldBe_36 : decode cX11_couldBe 36 = .ok (.istore_n 3, 1) := by decide +kernel
theorem dX11_couldBe_37 : decode cX11_couldBe 37 = .ok (.iconst 0, 1) := by decide +kernel
theorem dX11_couldBe_38 : decode cX11_couldBe 38 = .ok (.istore 4, 2) := by decide +kernel
theorem dX11_couldBe_40 : decode cX11_couldBe 40 = .ok (.iload 4, 2) := by decide +kernel
theorem dX11_couldBe_42 : decode cX11_couldBe 42 = .ok (.iload_n 1, 1) := by decide +kernel
theorem dX11_couldBe_43 : decode cX11_couldBe 43 = .ok (.if_icmp .ge 29, 3) := by decide +kernel
theorem dX11_couldBe_46 : decode cX11_couldBe 46 = .ok (.aload_n 0, 1) := by decide +kernel
theorem dX11_couldBe_47 : decode cX11_couldBe 47 = .ok (.getfield 10, 3) := by decide +kernel
theorem dX11_couldBe_50 : decode cX11_couldBe 50 = .ok (.iconst 3, 1) := by decide +kernel
theorem dX11_couldBe_51 : decode cX11_couldBe 51 = .ok (.iload 4, 2) := by decide +kernel
theorem dX11_couldBe_53 : decode cX11_couldBe 53 = .ok (.imul, 1) := by decide +kernel
theorem dX11_couldBe_54 : decode cX11_couldBe 54 = .ok (.invokevirtual 291, 3) := by decide +kernel
theorem dX11_couldBe_57 : decode cX11_couldBe 57 = .ok (.invokestatic 275, 3) := by decide +kernel
theorem dX11_couldBe_60 : decode cX11_couldBe 60 = .ok (.ifCond .ne 6, 3) := by decide +kernel
theorem dX11_couldBe_63 : decode cX11_couldBe 63 = .ok (.bipush (-2), 2) := by decide +kernel
theorem dX11_couldBe_65 : decode cX11_couldBe 65 = .ok (.istore_n 3, 1) := by decide +kernel
theorem dX11_couldBe_66 : decode cX11_couldBe 66 = .ok (.iinc 4 1, 3) := by decide +kernel
theorem dX11_couldBe_69 : decode cX11_couldBe 69 = .ok (.goto (-29), 3) := by decide +kernel
theorem dX11_couldBe_72 : decode cX11_couldBe 72 = .ok (.iconst 0, 1) := by decide +kernel
theorem dX11_couldBe_73 : decode cX11_couldBe 73 = .ok (.istore 4, 2) := by decide +kernel
theorem dX11_couldBe_75 : decode cX11_couldBe 75 = .ok (.iload 4, 2) := by decide +kernel
theorem dX11_couldBe_77 : decode cX11_couldBe 77 = .ok (.bipush 8, 2) := by decide +kernel
theorem dX11_couldBe_79 : decode cX11_couldBe 79 = .ok (.if_icmp .ge 33, 3) := by decide +kernel
theorem dX11_couldBe_82 : decode cX11_couldBe 82 = .ok (.iload_n 3, 1) := by decide +kernel
theorem dX11_couldBe_83 : decode cX11_couldBe 83 = .ok (.bipush (-2), 2) := by decide +kernel
theorem dX11_couldBe_85 : decode cX11_couldBe 85 = .ok (.if_icmp .eq 27, 3) := by decide +kernel
theorem dX11_couldBe_88 : decode cX11_couldBe 88 = .ok (.aload_n 0, 1) := by decide +kernel
theorem dX11_couldBe_89 : decode cX11_couldBe 89 = .ok (.iload 4, 2) := by decide +kernel
theorem dX11_couldBe_91 : decode cX11_couldBe 91 = .ok (.iload_n 1, 1) := by decide +kernel
theorem dX11_couldBe_92 : decode cX11_couldBe 92 = .ok (.iload_n 2, 1) := by decide +kernel
theorem dX11_couldBe_93 : decode cX11_couldBe 93 = .ok (.invokevirtual 294, 3) := by decide +kernel
theorem dX11_couldBe_96 : decode cX11_couldBe 96 = .ok (.ifCond .eq 10, 3) := by decide +kernel
theorem dX11_couldBe_99 : decode cX11_couldBe 99 = .ok (.iload_n 3, 1) := by decide +kernel
theorem dX11_couldBe_100 : decode cX11_couldBe 100 = .ok (.iconst 1, 1) := by decide +kernel
theorem dX11_couldBe_101 : decode cX11_couldBe 101 = .ok (.iload 4, 2) := by decide +kernel
theorem dX11_couldBe_103 : decode cX11_couldBe 103 = .ok (.ishl, 1) := by decide +kernel
theorem dX11_couldBe_104 : decode cX11_couldBe 104 = .ok (.ior, 1) := by decide +kernel
theorem dX11_couldBe_105 : decode cX11_couldBe 105 = .ok (.istore_n 3, 1) := by decide +kernel
theorem dX11_couldBe_106 : decode cX11_couldBe 106 = .ok (.iinc 4 1, 3) := by decide +kernel
theorem dX11_couldBe_109 : decode cX11_couldBe 109 = .ok (.goto (-34), 3) := by decide +kernel
theorem dX11_couldBe_112 : decode cX11_couldBe 112 = .ok (.aload_n 0, 1) := by decide +kernel
theorem dX11_couldBe_113 : decode cX11_couldBe 113 = .ok (.getfield 10, 3) := by decide +kernel
theorem dX11_couldBe_116 : decode cX11_couldBe 116 = .ok (.invokevirtual 130, 3) := by decide +kernel
theorem dX11_couldBe_119 : decode cX11_couldBe 119 = .ok (.iload_n 3, 1) := by decide +kernel
theorem dX11_couldBe_120 : decode cX11_couldBe 120 = .ok (.ireturn, 1) := by decide +kernel
theorem dX11_heldIn_0 : decode cX11_heldIn 0 = .ok (.aload_n 0, 1) := by decide +kernel
theorem dX11_heldIn_1 : decode cX11_heldIn 1 = .ok (.getfield 19, 3) := by decide +kernel
theorem dX11_heldIn_4 : decode cX11_heldIn 4 = .ok (.iload_n 1, 1) := by decide +kernel
theorem dX11_heldIn_5 : decode cX11_heldIn 5 = .ok (.invokevirtual 211, 3) := by decide +kernel
theorem dX11_heldIn_8 : decode cX11_heldIn 8 = .ok (.astore_n 2, 1) := by decide +kernel
theorem dX11_heldIn_9 : decode cX11_heldIn 9 = .ok (.aload_n 2, 1) := by decide +kernel
theorem dX11_heldIn_10 : decode cX11_heldIn 10 = .ok (.ifnonnull 7, 3) := by decide +kernel
theorem dX11_heldIn_13 : decode cX11_heldIn 13 = .ok (.iconst (-1), 1) := by decide +kernel
theorem dX11_heldIn_14 : decode cX11_heldIn 14 = .ok (.goto 11, 3) := by decide +kernel
theorem dX11_heldIn_17 : decode cX11_heldIn 17 = .ok (.aload_n 0, 1) := by decide +kernel
theorem dX11_heldIn_18 : decode cX11_heldIn 18 = .ok (.getfield 67, 3) := by decide +kernel
theorem dX11_heldIn_21 : decode cX11_heldIn 21 = .ok (.aload_n 2, 1) := by decide +kernel
theorem dX11_heldIn_22 : decode cX11_heldIn 22 = .ok (.invokevirtual 298, 3) := by decide +kernel
theorem dX11_heldIn_25 : decode cX11_heldIn 25 = .ok (.ireturn, 1) := by decide +kernel
theorem dX11_lineIs_0 : decode cX11_lineIs 0 = .ok (.aload_n 0, 1) := by decide +kernel
theorem dX11_lineIs_1 : decode cX11_lineIs 1 = .ok (.getfield 19, 3) := by decide +kernel
theorem dX11_lineIs_4 : decode cX11_lineIs 4 = .ok (.iload_n 1, 1) := by decide +kernel
theorem dX11_lineIs_5 : decode cX11_lineIs 5 = .ok (.invokevirtual 211, 3) := by decide +kernel
theorem dX11_lineIs_8 : decode cX11_lineIs 8 = .ok (.astore_n 3, 1) := by decide +kernel
theorem dX11_lineIs_9 : decode cX11_lineIs 9 = .ok (.aload_n 3, 1) := by decide +kernel
theorem dX11_lineIs_10 : decode cX11_lineIs 10 = .ok (.ifnonnull 5, 3) := by decide +kernel
theorem dX11_lineIs_13 : decode cX11_lineIs 13 = .ok (.iconst (-1), 1) := by decide +kernel
theorem dX11_lineIs_14 : decode cX11_lineIs 14 = .ok (.ireturn, 1) := by decide +kernel
theorem dX11_lineIs_15 : decode cX11_lineIs 15 = .ok (.iload_n 2, 1) := by decide +kernel
theorem dX11_lineIs_16 : decode cX11_lineIs 16 = .ok (.tableswitch 96 0 7 #[48, 53, 58, 63, 68, 73, 82, 87], 48) := by decide +kernel
theorem dX11_lineIs_64 : decode cX11_lineIs 64 = .ok (.aload_n 3, 1) := by decide +kernel
theorem dX11_lineIs_65 : decode cX11_lineIs 65 = .ok (.getfield 162, 3) := by decide +kernel
theorem dX11_lineIs_68 : decode cX11_lineIs 68 = .ok (.ireturn, 1) := by decide +kernel
theorem dX11_lineIs_69 : decode cX11_lineIs 69 = .ok (.aload_n 3, 1) := by decide +kernel
theorem dX11_lineIs_70 : decode cX11_lineIs 70 = .ok (.invokevirtual 301, 3) := by decide +kernel
theorem dX11_lineIs_73 : decode cX11_lineIs 73 = .ok (.ireturn, 1) := by decide +kernel
theorem dX11_lineIs_74 : decode cX11_lineIs 74 = .ok (.aload_n 3, 1) := by decide +kernel
theorem dX11_lineIs_75 : decode cX11_lineIs 75 = .ok (.invokevirtual 304, 3) := by decide +kernel
theorem dX11_lineIs_78 : decode cX11_lineIs 78 = .ok (.ireturn, 1) := by decide +kernel
theorem dX11_lineIs_79 : decode cX11_lineIs 79 = .ok (.aload_n 3, 1) := by decide +kernel
theorem dX11_lineIs_80 : decode cX11_lineIs 80 = .ok (.invokevirtual 307, 3) := by decide +kernel
theorem dX11_lineIs_83 : decode cX11_lineIs 83 = .ok (.ireturn, 1) := by decide +kernel
theorem dX11_lineIs_84 : decode cX11_lineIs 84 = .ok (.aload_n 3, 1) := by decide +kernel
theorem dX11_lineIs_85 : decode cX11_lineIs 85 = .ok (.getfield 310, 3) := by decide +kernel
theorem dX11_lineIs_88 : decode cX11_lineIs 88 = .ok (.ireturn, 1) := by decide +kernel
theorem dX11_lineIs_89 : decode cX11_lineIs 89 = .ok (.aload_n 0, 1) := by decide +kernel
theorem dX11_lineIs_90 : decode cX11_lineIs 90 = .ok (.getfield 67, 3) := by decide +kernel
theorem dX11_lineIs_93 : decode cX11_lineIs 93 = .ok (.aload_n 3, 1) := by decide +kernel
theorem dX11_lineIs_94 : decode cX11_lineIs 94 = .ok (.invokevirtual 313, 3) := by decide +kernel
theorem dX11_lineIs_97 : decode cX11_lineIs 97 = .ok (.ireturn, 1) := by decide +kernel
theorem dX11_lineIs_98 : decode cX11_lineIs 98 = .ok (.aload_n 3, 1) := by decide +kernel
theorem dX11_lineIs_99 : decode cX11_lineIs 99 = .ok (.invokevirtual 316, 3) := by decide +kernel
theorem dX11_lineIs_102 : decode cX11_lineIs 102 = .ok (.ireturn, 1) := by decide +kernel
theorem dX11_lineIs_103 : decode cX11_lineIs 103 = .ok (.aload_n 3, 1) := by decide +kernel
theorem dX11_lineIs_104 : decode cX11_lineIs 104 = .ok (.aload_n 3, 1) := by decide +kernel
theorem dX11_lineIs_105 : decode cX11_lineIs 105 = .ok (.invokevirtual 316, 3) := by decide +kernel
theorem dX11_lineIs_108 : decode cX11_lineIs 108 = .ok (.invokevirtual 214, 3) := by decide +kernel
theorem dX11_lineIs_111 : decode cX11_lineIs 111 = .ok (.ireturn, 1) := by decide +kernel
theorem dX11_lineIs_112 : decode cX11_lineIs 112 = .ok (.iconst (-1), 1) := by decide +kernel
theorem dX11_lineIs_113 : decode cX11_lineIs 113 = .ok (.ireturn, 1) := by decide +kernel
theorem dX11_landAt_0 : decode cX11_landAt 0 = .ok (.iload_n 1, 1) := by decide +kernel
theorem dX11_landAt_1 : decode cX11_landAt 1 = .ok (.iload_n 2, 1) := by decide +kernel
theorem dX11_landAt_2 : decode cX11_landAt 2 = .ok (.invokestatic 92, 3) := by decide +kernel
theorem dX11_landAt_5 : decode cX11_landAt 5 = .ok (.ifCond .eq 21, 3) := by decide +kernel
theorem dX11_landAt_8 : decode cX11_landAt 8 = .ok (.aload_n 0, 1) := by decide +kernel
theorem dX11_landAt_9 : decode cX11_landAt 9 = .ok (.getfield 19, 3) := by decide +kernel
theorem dX11_landAt_12 : decode cX11_landAt 12 = .ok (.getfield 166, 3) := by decide +kernel
theorem dX11_landAt_15 : decode cX11_landAt 15 = .ok (.iload_n 1, 1) := by decide +kernel
theorem dX11_landAt_16 : decode cX11_landAt 16 = .ok (.iload_n 2, 1) := by decide +kernel
theorem dX11_landAt_17 : decode cX11_landAt 17 = .ok (.invokestatic 95, 3) := by decide +kernel
theorem dX11_landAt_20 : decode cX11_landAt 20 = .ok (.invokevirtual 319, 3) := by decide +kernel
theorem dX11_landAt_23 : decode cX11_landAt 23 = .ok (.goto 4, 3) := by decide +kernel
theorem dX11_landAt_26 : decode cX11_landAt 26 = .ok (.iconst (-1), 1) := by decide +kernel
theorem dX11_landAt_27 : decode cX11_landAt 27 = .ok (.ireturn, 1) := by decide +kernel
theorem dX11_seed_0 : decode cX11_seed 0 = .ok (.iload_n 1, 1) := by decide +kernel
theorem dX11_seed_1 : decode cX11_seed 1 = .ok (.ldc_w 322, 3) := by decide +kernel
theorem dX11_seed_4 : decode cX11_seed 4 = .ok (.invokestatic 88, 3) := by decide +kernel
theorem dX11_seed_7 : decode cX11_seed 7 = .ok (.ifCond .ne 5, 3) := by decide +kernel
theorem dX11_seed_10 : decode cX11_seed 10 = .ok (.iconst 0, 1) := by decide +kernel
theorem dX11_seed_11 : decode cX11_seed 11 = .ok (.ireturn, 1) := by decide +kernel
theorem dX11_seed_12 : decode cX11_seed 12 = .ok (.aload_n 0, 1) := by decide +kernel
theorem dX11_seed_13 : decode cX11_seed 13 = .ok (.getfield 74, 3) := by decide +kernel
theorem dX11_seed_16 : decode cX11_seed 16 = .ok (.iload_n 1, 1) := by decide +kernel
theorem dX11_seed_17 : decode cX11_seed 17 = .ok (.putfield 323, 3) := by decide +kernel
theorem dX11_seed_20 : decode cX11_seed 20 = .ok (.iconst 1, 1) := by decide +kernel
theorem dX11_seed_21 : decode cX11_seed 21 = .ok (.ireturn, 1) := by decide +kernel
theorem dX11_keep_0 : decode cX11_keep 0 = .ok (.aload_n 0, 1) := by decide +kernel
theorem dX11_keep_1 : decode cX11_keep 1 = .ok (.getfield 78, 3) := by decide +kernel
theorem dX11_keep_4 : decode cX11_keep 4 = .ok (.aload_n 0, 1) := by decide +kernel
theorem dX11_keep_5 : decode cX11_keep 5 = .ok (.getfield 74, 3) := by decide +kernel
theorem dX11_keep_8 : decode cX11_keep 8 = .ok (.invokevirtual 194, 3) := by decide +kernel
theorem dX11_keep_11 : decode cX11_keep 11 = .ok (.aload_n 0, 1) := by decide +kernel
theorem dX11_keep_12 : decode cX11_keep 12 = .ok (.iconst 1, 1) := by decide +kernel
theorem dX11_keep_13 : decode cX11_keep 13 = .ok (.putfield 84, 3) := by decide +kernel
theorem dX11_keep_16 : decode cX11_keep 16 = .ok (.aload_n 0, 1) := by decide +kernel
theorem dX11_keep_17 : decode cX11_keep 17 = .ok (.getfield 74, 3) := by decide +kernel
theorem dX11_keep_20 : decode cX11_keep 20 = .ok (.getfield 107, 3) := by decide +kernel
theorem dX11_keep_23 : decode cX11_keep 23 = .ok (.ireturn, 1) := by decide +kernel
theorem dX11_undo_0 : decode cX11_undo 0 = .ok (.aload_n 0, 1) := by decide +kernel
theorem dX11_undo_1 : decode cX11_undo 1 = .ok (.getfield 84, 3) := by decide +kernel
theorem dX11_undo_4 : decode cX11_undo 4 = .ok (.ifCond .ne 5, 3) := by decide +kernel
theorem dX11_undo_7 : decode cX11_undo 7 = .ok (.iconst 0, 1) := by decide +kernel
theorem dX11_undo_8 : decode cX11_undo 8 = .ok (.ireturn, 1) := by decide +kernel
theorem dX11_undo_9 : decode cX11_undo 9 = .ok (.aload_n 0, 1) := by decide +kernel
theorem dX11_undo_10 : decode cX11_undo 10 = .ok (.getfield 74, 3) := by decide +kernel
theorem dX11_undo_13 : decode cX11_undo 13 = .ok (.aload_n 0, 1) := by decide +kernel
theorem dX11_undo_14 : decode cX11_undo 14 = .ok (.getfield 78, 3) := by decide +kernel
theorem dX11_undo_17 : decode cX11_undo 17 = .ok (.invokevirtual 194, 3) := by decide +kernel
theorem dX11_undo_20 : decode cX11_undo 20 = .ok (.iconst 1, 1) := by decide +kernel
theorem dX11_undo_21 : decode cX11_undo 21 = .ok (.ireturn, 1) := by decide +kernel
theorem dX11_check_0 : decode cX11_check 0 = .ok (.iload_n 1, 1) := by decide +kernel
theorem dX11_check_1 : decode cX11_check 1 = .ok (.bipush 6, 2) := by decide +kernel
theorem dX11_check_3 : decode cX11_check 3 = .ok (.invokestatic 88, 3) := by decide +kernel
theorem dX11_check_6 : decode cX11_check 6 = .ok (.ifCond .eq 14, 3) := by decide +kernel
theorem dX11_check_9 : decode cX11_check 9 = .ok (.aload_n 0, 1) := by decide +kernel
theorem dX11_check_10 : decode cX11_check 10 = .ok (.getfield 10, 3) := by decide +kernel
theorem dX11_check_13 : decode cX11_check 13 = .ok (.iload_n 1, 1) := by decide +kernel
theorem dX11_check_14 : decode cX11_check 14 = .ok (.invokevirtual 288, 3) := by decide +kernel
theorem dX11_check_17 : decode cX11_check 17 = .ok (.ifCond .ne 6, 3) := by decide +kernel
theorem dX11_check_20 : decode cX11_check 20 = .ok (.bipush (-2), 2) := by decide +kernel
theorem dX11_check_22 : decode cX11_check 22 = .ok (.ireturn, 1) := by decide +kernel
theorem dX11_check_23 : decode cX11_check 23 = .ok (.iconst (-1), 1) := by decide +kernel
theorem dX11_check_24 : decode cX11_check 24 = .ok (.istore_n 2, 1) := by decide +kernel
theorem dX11_check_25 : decode cX11_check 25 = .ok (.iconst 0, 1) := by decide +kernel
theorem dX11_check_26 : decode cX11_check 26 = .ok (.istore_n 3, 1) := by decide +kernel
theorem dX11_check_27 : decode cX11_check 27 = .ok (.iload_n 3, 1) := by decide +kernel
theorem dX11_check_28 : decode cX11_check 28 = .ok (.iload_n 1, 1) := by decide +kernel
theorem dX11_check_29 : decode cX11_check 29 = .ok (.if_icmp .ge 56, 3) := by decide +kernel
theorem dX11_check_32 : decode cX11_check 32 = .ok (.iload_n 2, 1) := by decide +kernel
theorem dX11_check_33 : decode cX11_check 33 = .ok (.iconst (-1), 1) := by decide +kernel
theorem dX11_check_34 : decode cX11_check 34 = .ok (.if_icmp .ne 51, 3) := by decide +kernel
theorem dX11_check_37 : decode cX11_check 37 = .ok (.aload_n 0, 1) := by decide +kernel
theorem dX11_check_38 : decode cX11_check 38 = .ok (.getfield 74, 3) := by decide +kernel
theorem dX11_check_41 : decode cX11_check 41 = .ok (.iload_n 3, 1) := by decide +kernel
theorem dX11_check_42 : decode cX11_check 42 = .ok (.invokevirtual 205, 3) := by decide +kernel
theorem dX11_check_45 : decode cX11_check 45 = .ok (.ifCond .eq 14, 3) := by decide +kernel
theorem dX11_check_48 : decode cX11_check 48 = .ok (.aload_n 0, 1) := by decide +kernel
theorem dX11_check_49 : decode cX11_check 49 = .ok (.getfield 74, 3) := by decide +kernel
theorem dX11_check_52 : decode cX11_check 52 = .ok (.iload_n 3, 1) := by decide +kernel
theorem dX11_check_53 : decode cX11_check 53 = .ok (.invokevirtual 202, 3) := by decide +kernel
theorem dX11_check_56 : decode cX11_check 56 = .ok (.goto 6, 3) := by decide +kernel
theorem dX11_check_59 : decode cX11_check 59 = .ok (.sipush 255, 3) := by decide +kernel
theorem dX11_check_62 : decode cX11_check 62 = .ok (.istore 4, 2) := by decide +kernel
theorem dX11_check_64 : decode cX11_check 64 = .ok (.aload_n 0, 1) := by decide +kernel
theorem dX11_check_65 : decode cX11_check 65 = .ok (.getfield 10, 3) := by decide +kernel
theorem dX11_check_68 : decode cX11_check 68 = .ok (.iload_n 3, 1) := by decide +kernel
theorem dX11_check_69 : decode cX11_check 69 = .ok (.invokevirtual 291, 3) := by decide +kernel
theorem dX11_check_72 : decode cX11_check 72 = .ok (.iload 4, 2) := by decide +kernel
theorem dX11_check_74 : decode cX11_check 74 = .ok (.if_icmp .eq 5, 3) := by decide +kernel
theorem dX11_check_77 : decode cX11_check 77 = .ok (.iload_n 3, 1) := by decide +kernel
theorem dX11_check_78 : decode cX11_check 78 = .ok (.istore_n 2, 1) := by decide +kernel
theorem dX11_check_79 : decode cX11_check 79 = .ok (.iinc 3 1, 3) := by decide +kernel
theorem dX11_check_82 : decode cX11_check 82 = .ok (.goto (-55), 3) := by decide +kernel
theorem dX11_check_85 : decode cX11_check 85 = .ok (.aload_n 0, 1) := by decide +kernel
theorem dX11_check_86 : decode cX11_check 86 = .ok (.getfield 10, 3) := by decide +kernel
theorem dX11_check_89 : decode cX11_check 89 = .ok (.invokevirtual 130, 3) := by decide +kernel
theorem dX11_check_92 : decode cX11_check 92 = .ok (.iload_n 2, 1) := by decide +kernel
theorem dX11_check_93 : decode cX11_check 93 = .ok (.ireturn, 1) := by decide +kernel
theorem dX11_count_0 : decode cX11_count 0 = .ok (.iload_n 1, 1) := by decide +kernel
theorem dX11_count_1 : decode cX11_count 1 = .ok (.tableswitch 127 0 8 #[51, 59, 67, 76, 84, 92, 103, 111, 119], 51) := by decide +kernel
theorem dX11_count_52 : decode cX11_count 52 = .ok (.aload_n 0, 1) := by decide +kernel
theorem dX11_count_53 : decode cX11_count 53 = .ok (.getfield 74, 3) := by decide +kernel
theorem dX11_count_56 : decode cX11_count 56 = .ok (.getfield 107, 3) := by decide +kernel
theorem dX11_count_59 : decode cX11_count 59 = .ok (.ireturn, 1) := by decide +kernel
theorem dX11_count_60 : decode cX11_count 60 = .ok (.aload_n 0, 1) := by decide +kernel
theorem dX11_count_61 : decode cX11_count 61 = .ok (.getfield 74, 3) := by decide +kernel
theorem dX11_count_64 : decode cX11_count 64 = .ok (.invokevirtual 326, 3) := by decide +kernel
theorem dX11_count_67 : decode cX11_count 67 = .ok (.ireturn, 1) := by decide +kernel
theorem dX11_count_68 : decode cX11_count 68 = .ok (.aload_n 0, 1) := by decide +kernel
theorem dX11_count_69 : decode cX11_count 69 = .ok (.getfield 74, 3) := by decide +kernel
theorem dX11_count_72 : decode cX11_count 72 = .ok (.iconst 0, 1) := by decide +kernel
theorem dX11_count_73 : decode cX11_count 73 = .ok (.invokevirtual 182, 3) := by decide +kernel
theorem dX11_count_76 : decode cX11_count 76 = .ok (.ireturn, 1) := by decide +kernel
theorem dX11_count_77 : decode cX11_count 77 = .ok (.aload_n 0, 1) := by decide +kernel
theorem dX11_count_78 : decode cX11_count 78 = .ok (.getfield 19, 3) := by decide +kernel
theorem dX11_count_81 : decode cX11_count 81 = .ok (.invokevirtual 329, 3) := by decide +kernel
theorem dX11_count_84 : decode cX11_count 84 = .ok (.ireturn, 1) := by decide +kernel
theorem dX11_count_85 : decode cX11_count 85 = .ok (.aload_n 0, 1) := by decide +kernel
theorem dX11_count_86 : decode cX11_count 86 = .ok (.getfield 19, 3) := by decide +kernel
theorem dX11_count_89 : decode cX11_count 89 = .ok (.getfield 103, 3) := by decide +kernel
theorem dX11_count_92 : decode cX11_count 92 = .ok (.ireturn, 1) := by decide +kernel
theorem dX11_count_93 : decode cX11_count 93 = .ok (.aload_n 0, 1) := by decide +kernel
theorem dX11_count_94 : decode cX11_count 94 = .ok (.getfield 19, 3) := by decide +kernel
theorem dX11_count_97 : decode cX11_count 97 = .ok (.getfield 166, 3) := by decide +kernel
theorem dX11_count_100 : decode cX11_count 100 = .ok (.getfield 177, 3) := by decide +kernel
theorem dX11_count_103 : decode cX11_count 103 = .ok (.ireturn, 1) := by decide +kernel
theorem dX11_count_104 : decode cX11_count 104 = .ok (.aload_n 0, 1) := by decide +kernel
theorem dX11_count_105 : decode cX11_count 105 = .ok (.getfield 49, 3) := by decide +kernel
theorem dX11_count_108 : decode cX11_count 108 = .ok (.getfield 148, 3) := by decide +kernel
theorem dX11_count_111 : decode cX11_count 111 = .ok (.ireturn, 1) := by decide +kernel
theorem dX11_count_112 : decode cX11_count 112 = .ok (.aload_n 0, 1) := by decide +kernel
theorem dX11_count_113 : decode cX11_count 113 = .ok (.getfield 10, 3) := by decide +kernel
theorem dX11_count_116 : decode cX11_count 116 = .ok (.getfield 118, 3) := by decide +kernel
theorem dX11_count_119 : decode cX11_count 119 = .ok (.ireturn, 1) := by decide +kernel
theorem dX11_count_120 : decode cX11_count 120 = .ok (.aload_n 0, 1) := by decide +kernel
theorem dX11_count_121 : decode cX11_count 121 = .ok (.getfield 74, 3) := by decide +kernel
theorem dX11_count_124 : decode cX11_count 124 = .ok (.getfield 323, 3) := by decide +kernel
theorem dX11_count_127 : decode cX11_count 127 = .ok (.ireturn, 1) := by decide +kernel
theorem dX11_count_128 : decode cX11_count 128 = .ok (.iconst (-1), 1) := by decide +kernel
theorem dX11_count_129 : decode cX11_count 129 = .ok (.ireturn, 1) := by decide +kernel
theorem dX11_isTriable_0 : decode cX11_isTriable 0 = .ok (.iload_n 1, 1) := by decide +kernel
theorem dX11_isTriable_1 : decode cX11_isTriable 1 = .ok (.ifCond .lt 10, 3) := by decide +kernel
theorem dX11_isTriable_4 : decode cX11_isTriable 4 = .ok (.iload_n 1, 1) := by decide +kernel
theorem dX11_isTriable_5 : decode cX11_isTriable 5 = .ok (.iconst 2, 1) := by decide +kernel
theorem dX11_isTriable_6 : decode cX11_isTriable 6 = .ok (.if_icmp .gt 5, 3) := by decide +kernel
theorem dX11_isTriable_9 : decode cX11_isTriable 9 = .ok (.iconst 1, 1) := by decide +kernel
theorem dX11_isTriable_10 : decode cX11_isTriable 10 = .ok (.ireturn, 1) := by decide +kernel
theorem dX11_isTriable_11 : decode cX11_isTriable 11 = .ok (.iload_n 1, 1) := by decide +kernel
theorem dX11_isTriable_12 : decode cX11_isTriable 12 = .ok (.bipush 10, 2) := by decide +kernel
theorem dX11_isTriable_14 : decode cX11_isTriable 14 = .ok (.if_icmp .lt 27, 3) := by decide +kernel
theorem dX11_isTriable_17 : decode cX11_isTriable 17 = .ok (.iload_n 1, 1) := by decide +kernel
theorem dX11_isTriable_18 : decode cX11_isTriable 18 = .ok (.bipush 40, 2) := by decide +kernel
theorem dX11_isTriable_20 : decode cX11_isTriable 20 = .ok (.if_icmp .ge 21, 3) := by decide +kernel
theorem dX11_isTriable_23 : decode cX11_isTriable 23 = .ok (.aload_n 0, 1) := by decide +kernel
theorem dX11_isTriable_24 : decode cX11_isTriable 24 = .ok (.getfield 74, 3) := by decide +kernel
theorem dX11_isTriable_27 : decode cX11_isTriable 27 = .ok (.iload_n 1, 1) := by decide +kernel
theorem dX11_isTriable_28 : decode cX11_isTriable 28 = .ok (.bipush 10, 2) := by decide +kernel
theorem dX11_isTriable_30 : decode cX11_isTriable 30 = .ok (.irem, 1) := by decide +kernel
theorem dX11_isTriable_31 : decode cX11_isTriable 31 = .ok (.invokevirtual 205, 3) := by decide +kernel
theorem dX11_isTriable_34 : decode cX11_isTriable 34 = .ok (.ifCond .eq 7, 3) := by decide +kernel
theorem dX11_isTriable_37 : decode cX11_isTriable 37 = .ok (.iconst 1, 1) := by decide +kernel
theorem dX11_isTriable_38 : decode cX11_isTriable 38 = .ok (.goto 4, 3) := by decide +kernel
theorem dX11_isTriable_41 : decode cX11_isTriable 41 = .ok (.iconst 0, 1) := by decide +kernel
theorem dX11_isTriable_42 : decode cX11_isTriable 42 = .ok (.ireturn, 1) := by decide +kernel
theorem dX11_fitsFinds_0 : decode cX11_fitsFinds 0 = .ok (.aload_n 0, 1) := by decide +kernel
theorem dX11_fitsFinds_1 : decode cX11_fitsFinds 1 = .ok (.getfield 19, 3) := by decide +kernel
theorem dX11_fitsFinds_4 : decode cX11_fitsFinds 4 = .ok (.iload_n 1, 1) := by decide +kernel
theorem dX11_fitsFinds_5 : decode cX11_fitsFinds 5 = .ok (.invokevirtual 211, 3) := by decide +kernel
theorem dX11_fitsFinds_8 : decode cX11_fitsFinds 8 = .ok (.astore 4, 2) := by decide +kernel
theorem dX11_fitsFinds_10 : decode cX11_fitsFinds 10 = .ok (.aload 4, 2) := by decide +kernel
theorem dX11_fitsFinds_12 : decode cX11_fitsFinds 12 = .ok (.ifnonnull 5, 3) := by decide +kernel
theorem dX11_fitsFinds_15 : decode cX11_fitsFinds 15 = .ok (.iconst 0, 1) := by decide +kernel
theorem dX11_fitsFinds_16 : decode cX11_fitsFinds 16 = .ok (.ireturn, 1) := by decide +kernel
theorem dX11_fitsFinds_17 : decode cX11_fitsFinds 17 = .ok (.iconst 0, 1) := by decide +kernel
theorem dX11_fitsFinds_18 : decode cX11_fitsFinds 18 = .ok (.istore 5, 2) := by decide +kernel
theorem dX11_fitsFinds_20 : decode cX11_fitsFinds 20 = .ok (.iload 5, 2) := by decide +kernel
theorem dX11_fitsFinds_22 : decode cX11_fitsFinds 22 = .ok (.iload_n 2, 1) := by decide +kernel
theorem dX11_fitsFinds_23 : decode cX11_fitsFinds 23 = .ok (.if_icmp .ge 71, 3) := by decide +kernel
theorem dX11_fitsFinds_26 : decode cX11_fitsFinds 26 = .ok (.aload_n 0, 1) := by decide +kernel
theorem dX11_fitsFinds_27 : decode cX11_fitsFinds 27 = .ok (.getfield 10, 3) := by decide +kernel
theorem dX11_fitsFinds_30 : decode cX11_fitsFinds 30 = .ok (.iconst 3, 1) := by decide +kernel
theorem dX11_fitsFinds_31 : decode cX11_fitsFinds 31 = .ok (.iload 5, 2) := by decide +kernel
theorem dX11_fitsFinds_33 : decode cX11_fitsFinds 33 = .ok (.imul, 1) := by decide +kernel
theorem dX11_fitsFinds_34 : decode cX11_fitsFinds 34 = .ok (.iconst 1, 1) := by decide +kernel
theorem dX11_fitsFinds_35 : decode cX11_fitsFinds 35 = .ok (.iadd, 1) := by decide +kernel
theorem dX11_fitsFinds_36 : decode cX11_fitsFinds 36 = .ok (.invokevirtual 291, 3) := by decide +kernel
theorem dX11_fitsFinds_39 : decode cX11_fitsFinds 39 = .ok (.sipush 256, 3) := by decide +kernel
theorem dX11_fitsFinds_42 : decode cX11_fitsFinds 42 = .ok (.aload_n 0, 1) := by decide +kernel
theorem dX11_fitsFinds_43 : decode cX11_fitsFinds 43 = .ok (.getfield 10, 3) := by decide +kernel
theorem dX11_fitsFinds_46 : decode cX11_fitsFinds 46 = .ok (.iconst 3, 1) := by decide +kernel
theorem dX11_fitsFinds_47 : decode cX11_fitsFinds 47 = .ok (.iload 5, 2) := by decide +kernel
theorem dX11_fitsFinds_49 : decode cX11_fitsFinds 49 = .ok (.imul, 1) := by decide +kernel
theorem dX11_fitsFinds_50 : decode cX11_fitsFinds 50 = .ok (.iconst 2, 1) := by decide +kernel
theorem dX11_fitsFinds_51 : decode cX11_fitsFinds 51 = .ok (.iadd, 1) := by decide +kernel
theorem dX11_fitsFinds_52 : decode cX11_fitsFinds 52 = .ok (.invokevirtual 291, 3) := by decide +kernel
theorem dX11_fitsFinds_55 : decode cX11_fitsFinds 55 = .ok (.imul, 1) := by decide +kernel
theorem dX11_fitsFinds_56 : decode cX11_fitsFinds 56 = .ok (.iadd, 1) := by decide +kernel
theorem dX11_fitsFinds_57 : decode cX11_fitsFinds 57 = .ok (.istore 6, 2) := by decide +kernel
theorem dX11_fitsFinds_59 : decode cX11_fitsFinds 59 = .ok (.aload 4, 2) := by decide +kernel
theorem dX11_fitsFinds_61 : decode cX11_fitsFinds 61 = .ok (.aload_n 0, 1) := by decide +kernel
theorem dX11_fitsFinds_62 : decode cX11_fitsFinds 62 = .ok (.getfield 10, 3) := by decide +kernel
theorem dX11_fitsFinds_65 : decode cX11_fitsFinds 65 = .ok (.iconst 3, 1) := by decide +kernel
theorem dX11_fitsFinds_66 : decode cX11_fitsFinds 66 = .ok (.iload 5, 2) := by decide +kernel
theorem dX11_fitsFinds_68 : decode cX11_fitsFinds 68 = .ok (.imul, 1) := by decide +kernel
theorem dX11_fitsFinds_69 : decode cX11_fitsFinds 69 = .ok (.invokevirtual 291, 3) := by decide +kernel
theorem dX11_fitsFinds_72 : decode cX11_fitsFinds 72 = .ok (.iload 6, 2) := by decide +kernel
theorem dX11_fitsFinds_74 : decode cX11_fitsFinds 74 = .ok (.iload_n 3, 1) := by decide +kernel
theorem dX11_fitsFinds_75 : decode cX11_fitsFinds 75 = .ok (.isub, 1) := by decide +kernel
theorem dX11_fitsFinds_76 : decode cX11_fitsFinds 76 = .ok (.iload 6, 2) := by decide +kernel
theorem dX11_fitsFinds_78 : decode cX11_fitsFinds 78 = .ok (.iload_n 3, 1) := by decide +kernel
theorem dX11_fitsFinds_79 : decode cX11_fitsFinds 79 = .ok (.iadd, 1) := by decide +kernel
theorem dX11_fitsFinds_80 : decode cX11_fitsFinds 80 = .ok (.invokevirtual 332, 3) := by decide +kernel
theorem dX11_fitsFinds_83 : decode cX11_fitsFinds 83 = .ok (.ifCond .ne 5, 3) := by decide +kernel
theorem dX11_fitsFinds_86 : decode cX11_fitsFinds 86 = .ok (.iconst 0, 1) := by decide +kernel
theorem dX11_fitsFinds_87 : decode cX11_fitsFinds 87 = .ok (.ireturn, 1) := by decide +kernel
theorem dX11_fitsFinds_88 : decode cX11_fitsFinds 88 = .ok (.iinc 5 1, 3) := by decide +kernel
theorem dX11_fitsFinds_91 : decode cX11_fitsFinds 91 = .ok (.goto (-71), 3) := by decide +kernel
theorem dX11_fitsFinds_94 : decode cX11_fitsFinds 94 = .ok (.iconst 1, 1) := by decide +kernel
theorem dX11_fitsFinds_95 : decode cX11_fitsFinds 95 = .ok (.ireturn, 1) := by decide +kernel
theorem dX11_isWithin_0 : decode cX11_isWithin 0 = .ok (.iload_n 0, 1) := by decide +kernel
theorem dX11_isWithin_1 : decode cX11_isWithin 1 = .ok (.ifCond .lt 12, 3) := by decide +kernel
theorem dX11_isWithin_4 : decode cX11_isWithin 4 = .ok (.iload_n 0, 1) := by decide +kernel
theorem dX11_isWithin_5 : decode cX11_isWithin 5 = .ok (.iload_n 1, 1) := by decide +kernel
theorem dX11_isWithin_6 : decode cX11_isWithin 6 = .ok (.if_icmp .gt 7, 3) := by decide +kernel
theorem dX11_isWithin_9 : decode cX11_isWithin 9 = .ok (.iconst 1, 1) := by decide +kernel
theorem dX11_isWithin_10 : decode cX11_isWithin 10 = .ok (.goto 4, 3) := by decide +kernel
theorem dX11_isWithin_13 : decode cX11_isWithin 13 = .ok (.iconst 0, 1) := by decide +kernel
theorem dX11_isWithin_14 : decode cX11_isWithin 14 = .ok (.ireturn, 1) := by decide +kernel
theorem dX11_isPlace_0 : decode cX11_isPlace 0 = .ok (.iload_n 0, 1) := by decide +kernel
theorem dX11_isPlace_1 : decode cX11_isPlace 1 = .ok (.ifCond .lt 14, 3) := by decide +kernel
theorem dX11_isPlace_4 : decode cX11_isPlace 4 = .ok (.iload_n 0, 1) := by decide +kernel
theorem dX11_isPlace_5 : decode cX11_isPlace 5 = .ok (.sipush 192, 3) := by decide +kernel
theorem dX11_isPlace_8 : decode cX11_isPlace 8 = .ok (.if_icmp .ge 7, 3) := by decide +kernel
theorem dX11_isPlace_11 : decode cX11_isPlace 11 = .ok (.iconst 1, 1) := by decide +kernel
theorem dX11_isPlace_12 : decode cX11_isPlace 12 = .ok (.goto 4, 3) := by decide +kernel
theorem dX11_isPlace_15 : decode cX11_isPlace 15 = .ok (.iconst 0, 1) := by decide +kernel
theorem dX11_isPlace_16 : decode cX11_isPlace 16 = .ok (.ireturn, 1) := by decide +kernel
theorem dX11_isOnLand_0 : decode cX11_isOnLand 0 = .ok (.iload_n 0, 1) := by decide +kernel
theorem dX11_isOnLand_1 : decode cX11_isOnLand 1 = .ok (.ifCond .lt 23, 3) := by decide +kernel
theorem dX11_isOnLand_4 : decode cX11_isOnLand 4 = .ok (.iload_n 0, 1) := by decide +kernel
theorem dX11_isOnLand_5 : decode cX11_isOnLand 5 = .ok (.bipush 16, 2) := by decide +kernel
theorem dX11_isOnLand_7 : decode cX11_isOnLand 7 = .ok (.if_icmp .ge 17, 3) := by decide +kernel
theorem dX11_isOnLand_10 : decode cX11_isOnLand 10 = .ok (.iload_n 1, 1) := by decide +kernel
theorem dX11_isOnLand_11 : decode cX11_isOnLand 11 = .ok (.ifCond .lt 13, 3) := by decide +kernel
theorem dX11_isOnLand_14 : decode cX11_isOnLand 14 = .ok (.iload_n 1, 1) := by decide +kernel
theorem dX11_isOnLand_15 : decode cX11_isOnLand 15 = .ok (.bipush 12, 2) := by decide +kernel
theorem dX11_isOnLand_17 : decode cX11_isOnLand 17 = .ok (.if_icmp .ge 7, 3) := by decide +kernel
theorem dX11_isOnLand_20 : decode cX11_isOnLand 20 = .ok (.iconst 1, 1) := by decide +kernel
theorem dX11_isOnLand_21 : decode cX11_isOnLand 21 = .ok (.goto 4, 3) := by decide +kernel
theorem dX11_isOnLand_24 : decode cX11_isOnLand 24 = .ok (.iconst 0, 1) := by decide +kernel
theorem dX11_isOnLand_25 : decode cX11_isOnLand 25 = .ok (.ireturn, 1) := by decide +kernel
theorem dX11_placeOf_0 : decode cX11_placeOf 0 = .ok (.bipush 16, 2) := by decide +kernel
theorem dX11_placeOf_2 : decode cX11_placeOf 2 = .ok (.iload_n 1, 1) := by decide +kernel
theorem dX11_placeOf_3 : decode cX11_placeOf 3 = .ok (.imul, 1) := by decide +kernel
theorem dX11_placeOf_4 : decode cX11_placeOf 4 = .ok (.iload_n 0, 1) := by decide +kernel
theorem dX11_placeOf_5 : decode cX11_placeOf 5 = .ok (.iadd, 1) := by decide +kernel
theorem dX11_placeOf_6 : decode cX11_placeOf 6 = .ok (.ireturn, 1) := by decide +kernel
theorem dX11_across_0 : decode cX11_across 0 = .ok (.iload_n 0, 1) := by decide +kernel
theorem dX11_across_1 : decode cX11_across 1 = .ok (.bipush 15, 2) := by decide +kernel
theorem dX11_across_3 : decode cX11_across 3 = .ok (.iand, 1) := by decide +kernel
theorem dX11_across_4 : decode cX11_across 4 = .ok (.iload_n 1, 1) := by decide +kernel
theorem dX11_across_5 : decode cX11_across 5 = .ok (.bipush 15, 2) := by decide +kernel
theorem dX11_across_7 : decode cX11_across 7 = .ok (.iand, 1) := by decide +kernel
theorem dX11_across_8 : decode cX11_across 8 = .ok (.isub, 1) := by decide +kernel
theorem dX11_across_9 : decode cX11_across 9 = .ok (.invokestatic 335, 3) := by decide +kernel
theorem dX11_across_12 : decode cX11_across 12 = .ok (.ireturn, 1) := by decide +kernel
theorem dX11_along_0 : decode cX11_along 0 = .ok (.iload_n 0, 1) := by decide +kernel
theorem dX11_along_1 : decode cX11_along 1 = .ok (.iconst 4, 1) := by decide +kernel
theorem dX11_along_2 : decode cX11_along 2 = .ok (.ishr, 1) := by decide +kernel
theorem dX11_along_3 : decode cX11_along 3 = .ok (.iload_n 1, 1) := by decide +kernel
theorem dX11_along_4 : decode cX11_along 4 = .ok (.iconst 4, 1) := by decide +kernel
theorem dX11_along_5 : decode cX11_along 5 = .ok (.ishr, 1) := by decide +kernel
theorem dX11_along_6 : decode cX11_along 6 = .ok (.isub, 1) := by decide +kernel
theorem dX11_along_7 : decode cX11_along 7 = .ok (.invokestatic 335, 3) := by decide +kernel
theorem dX11_along_10 : decode cX11_along 10 = .ok (.ireturn, 1) := by decide +kernel
theorem dX11_beside_0 : decode cX11_beside 0 = .ok (.iload_n 0, 1) := by decide +kernel
theorem dX11_beside_1 : decode cX11_beside 1 = .ok (.bipush 15, 2) := by decide +kernel
theorem dX11_beside_3 : decode cX11_beside 3 = .ok (.iand, 1) := by decide +kernel
theorem dX11_beside_4 : decode cX11_beside 4 = .ok (.istore_n 2, 1) := by decide +kernel
theorem dX11_beside_5 : decode cX11_beside 5 = .ok (.iload_n 0, 1) := by decide +kernel
theorem dX11_beside_6 : decode cX11_beside 6 = .ok (.iconst 4, 1) := by decide +kernel
theorem dX11_beside_7 : decode cX11_beside 7 = .ok (.ishr, 1) := by decide +kernel
theorem dX11_beside_8 : decode cX11_beside 8 = .ok (.istore_n 3, 1) := by decide +kernel
theorem dX11_beside_9 : decode cX11_beside 9 = .ok (.iload_n 1, 1) := by decide +kernel
theorem dX11_beside_10 : decode cX11_beside 10 = .ok (.tableswitch 54 1 4 #[30, 36, 42, 48], 30) := by decide +kernel
theorem dX11_beside_40 : decode cX11_beside 40 = .ok (.iinc 3 (-1), 3) := by decide +kernel
theorem dX11_beside_43 : decode cX11_beside 43 = .ok (.goto 21, 3) := by decide +kernel
theorem dX11_beside_46 : decode cX11_beside 46 = .ok (.iinc 2 1, 3) := by decide +kernel
theorem dX11_beside_49 : decode cX11_beside 49 = .ok (.goto 15, 3) := by decide +kernel
theorem dX11_beside_52 : decode cX11_beside 52 = .ok (.iinc 3 1, 3) := by decide +kernel
theorem dX11_beside_55 : decode cX11_beside 55 = .ok (.goto 9, 3) := by decide +kernel
theorem dX11_beside_58 : decode cX11_beside 58 = .ok (.iinc 2 (-1), 3) := by decide +kernel
theorem dX11_beside_61 : decode cX11_beside 61 = .ok (.goto 3, 3) := by decide +kernel
theorem dX11_beside_64 : decode cX11_beside 64 = .ok (.iload_n 2, 1) := by decide +kernel
theorem dX11_beside_65 : decode cX11_beside 65 = .ok (.iload_n 3, 1) := by decide +kernel
theorem dX11_beside_66 : decode cX11_beside 66 = .ok (.invokestatic 92, 3) := by decide +kernel
theorem dX11_beside_69 : decode cX11_beside 69 = .ok (.ifCond .eq 11, 3) := by decide +kernel
theorem dX11_beside_72 : decode cX11_beside 72 = .ok (.iload_n 2, 1) := by decide +kernel
theorem dX11_beside_73 : decode cX11_beside 73 = .ok (.iload_n 3, 1) := by decide +kernel
theorem dX11_beside_74 : decode cX11_beside 74 = .ok (.invokestatic 95, 3) := by decide +kernel
theorem dX11_beside_77 : decode cX11_beside 77 = .ok (.goto 4, 3) := by decide +kernel
theorem dX11_beside_80 : decode cX11_beside 80 = .ok (.iconst (-1), 1) := by decide +kernel
theorem dX11_beside_81 : decode cX11_beside 81 = .ok (.ireturn, 1) := by decide +kernel
theorem dX11_wayTo_0 : decode cX11_wayTo 0 = .ok (.iload_n 1, 1) := by decide +kernel
theorem dX11_wayTo_1 : decode cX11_wayTo 1 = .ok (.iload_n 0, 1) := by decide +kernel
theorem dX11_wayTo_2 : decode cX11_wayTo 2 = .ok (.isub, 1) := by decide +kernel
theorem dX11_wayTo_3 : decode cX11_wayTo 3 = .ok (.lookupswitch 83 #[(-16, 51), (-1, 70), (0, 49), (1, 53), (16, 68)], 49) := by decide +kernel
theorem dX11_wayTo_52 : decode cX11_wayTo 52 = .ok (.iconst 0, 1) := by decide +kernel
theorem dX11_wayTo_53 : decode cX11_wayTo 53 = .ok (.ireturn, 1) := by decide +kernel
theorem dX11_wayTo_54 : decode cX11_wayTo 54 = .ok (.iconst 1, 1) := by decide +kernel
theorem dX11_wayTo_55 : decode cX11_wayTo 55 = .ok (.ireturn, 1) := by decide +kernel
theorem dX11_wayTo_56 : decode cX11_wayTo 56 = .ok (.iload_n 0, 1) := by decide +kernel
theorem dX11_wayTo_57 : decode cX11_wayTo 57 = .ok (.bipush 15, 2) := by decide +kernel
theorem dX11_wayTo_59 : decode cX11_wayTo 59 = .ok (.iand, 1) := by decide +kernel
theorem dX11_wayTo_60 : decode cX11_wayTo 60 = .ok (.bipush 15, 2) := by decide +kernel
theorem dX11_wayTo_62 : decode cX11_wayTo 62 = .ok (.if_icmp .ge 7, 3) := by decide +kernel
theorem dX11_wayTo_65 : decode cX11_wayTo 65 = .ok (.iconst 2, 1) := by decide +kernel
theorem dX11_wayTo_66 : decode cX11_wayTo 66 = .ok (.goto 4, 3) := by decide +kernel
theorem dX11_wayTo_69 : decode cX11_wayTo 69 = .ok (.iconst (-1), 1) := by decide +kernel
theorem dX11_wayTo_70 : decode cX11_wayTo 70 = .ok (.ireturn, 1) := by decide +kernel
theorem dX11_wayTo_71 : decode cX11_wayTo 71 = .ok (.iconst 3, 1) := by decide +kernel
theorem dX11_wayTo_72 : decode cX11_wayTo 72 = .ok (.ireturn, 1) := by decide +kernel
theorem dX11_wayTo_73 : decode cX11_wayTo 73 = .ok (.iload_n 0, 1) := by decide +kernel
theorem dX11_wayTo_74 : decode cX11_wayTo 74 = .ok (.bipush 15, 2) := by decide +kernel
theorem dX11_wayTo_76 : decode cX11_wayTo 76 = .ok (.iand, 1) := by decide +kernel
theorem dX11_wayTo_77 : decode cX11_wayTo 77 = .ok (.ifCond .le 7, 3) := by decide +kernel
theorem dX11_wayTo_80 : decode cX11_wayTo 80 = .ok (.iconst 4, 1) := by decide +kernel
theorem dX11_wayTo_81 : decode cX11_wayTo 81 = .ok (.goto 4, 3) := by decide +kernel
theorem dX11_wayTo_84 : decode cX11_wayTo 84 = .ok (.iconst (-1), 1) := by decide +kernel
theorem dX11_wayTo_85 : decode cX11_wayTo 85 = .ok (.ireturn, 1) := by decide +kernel
theorem dX11_wayTo_86 : decode cX11_wayTo 86 = .ok (.iconst (-1), 1) := by decide +kernel
theorem dX11_wayTo_87 : decode cX11_wayTo 87 = .ok (.ireturn, 1) := by decide +kernel
theorem dX12_init_0 : decode cX12_init 0 = .ok (.aload_n 0, 1) := by decide +kernel
theorem dX12_init_1 : decode cX12_init 1 = .ok (.invokespecial 1, 3) := by decide +kernel
theorem dX12_init_4 : decode cX12_init 4 = .ok (.aload_n 0, 1) := by decide +kernel
theorem dX12_init_5 : decode cX12_init 5 = .ok (.bipush 32, 2) := by decide +kernel
theorem dX12_init_7 : decode cX12_init 7 = .ok (.newarray .int, 2) := by decide +kernel
theorem dX12_init_9 : decode cX12_init 9 = .ok (.putfield 7, 3) := by decide +kernel
theorem dX12_init_12 : decode cX12_init 12 = .ok (.aload_n 0, 1) := by decide +kernel
theorem dX12_init_13 : decode cX12_init 13 = .ok (.bipush 32, 2) := by decide +kernel
theorem dX12_init_15 : decode cX12_init 15 = .ok (.newarray .int, 2) := by decide +kernel
theorem dX12_init_17 : decode cX12_init 17 = .ok (.putfield 13, 3) := by decide +kernel
theorem dX12_init_20 : decode cX12_init 20 = .ok (.aload_n 0, 1) := by decide +kernel
theorem dX12_init_21 : decode cX12_init 21 = .ok (.bipush 32, 2) := by decide +kernel
theorem dX12_init_23 : decode cX12_init 23 = .ok (.newarray .int, 2) := by decide +kernel
theorem dX12_init_25 : decode cX12_init 25 = .ok (.putfield 16, 3) := by decide +kernel
theorem dX12_init_28 : decode cX12_init 28 = .ok (.aload_n 0, 1) := by decide +kernel
theorem dX12_init_29 : decode cX12_init 29 = .ok (.bipush 8, 2) := by decide +kernel
theorem dX12_init_31 : decode cX12_init 31 = .ok (.newarray .int, 2) := by decide +kernel
theorem dX12_init_33 : decode cX12_init 33 = .ok (.putfield 19, 3) := by decide +kernel
theorem dX12_init_36 : decode cX12_init 36 = .ok (.aload_n 0, 1) := by decide +kernel
theorem dX12_init_37 : decode cX12_init 37 = .ok (.bipush 8, 2) := by decide +kernel
theorem dX12_init_39 : decode cX12_init 39 = .ok (.newarray .int, 2) := by decide +kernel
theorem dX12_init_41 : decode cX12_init 41 = .ok (.putfield 22, 3) := by decide +kernel
theorem dX12_init_44 : decode cX12_init 44 = .ok (.aload_n 0, 1) := by decide +kernel
theorem dX12_init_45 : decode cX12_init 45 = .ok (.sipush 768, 3) := by decide +kernel
theorem dX12_init_48 : decode cX12_init 48 = .ok (.newarray .int, 2) := by decide +kernel
theorem dX12_init_50 : decode cX12_init 50 = .ok (.putfield 25, 3) := by decide +kernel
theorem dX12_init_53 : decode cX12_init 53 = .ok (.aload_n 0, 1) := by decide +kernel
theorem dX12_init_54 : decode cX12_init 54 = .ok (.sipush 776, 3) := by decide +kernel
theorem dX12_init_57 : decode cX12_init 57 = .ok (.newarray .int, 2) := by decide +kernel
theorem dX12_init_59 : decode cX12_init 59 = .ok (.putfield 28, 3) := by decide +kernel
theorem dX12_init_62 : decode cX12_init 62 = .ok (.aload_n 0, 1) := by decide +kernel
theorem dX12_init_63 : decode cX12_init 63 = .ok (.sipush 192, 3) := by decide +kernel
theorem dX12_init_66 : decode cX12_init 66 = .ok (.newarray .int, 2) := by decide +kernel
theorem dX12_init_68 : decode cX12_init 68 = .ok (.putfield 31, 3) := by decide +kernel
theorem dX12_init_71 : decode cX12_init 71 = .ok (.aload_n 0, 1) := by decide +kernel
theorem dX12_init_72 : decode cX12_init 72 = .ok (.sipush 192, 3) := by decide +kernel
theorem dX12_init_75 : decode cX12_init 75 = .ok (.newarray .int, 2) := by decide +kernel
