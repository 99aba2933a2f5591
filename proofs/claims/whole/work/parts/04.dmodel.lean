theorem dX10_init_0 : decode cX10_init 0 = .ok (.aload_n 0, 1) := by decide +kernel
theorem dX10_init_1 : decode cX10_init 1 = .ok (.invokespecial 1, 3) := by decide +kernel
theorem dX10_init_4 : decode cX10_init 4 = .ok (.aload_n 0, 1) := by decide +kernel
theorem dX10_init_5 : decode cX10_init 5 = .ok (.sipush 355, 3) := by decide +kernel
theorem dX10_init_8 : decode cX10_init 8 = .ok (.newarray .int, 2) := by decide +kernel
theorem dX10_init_10 : decode cX10_init 10 = .ok (.putfield 9, 3) := by decide +kernel
theorem dX10_init_13 : decode cX10_init 13 = .ok (.aload_n 0, 1) := by decide +kernel
theorem dX10_init_14 : decode cX10_init 14 = .ok (.sipush 355, 3) := by decide +kernel
theorem dX10_init_17 : decode cX10_init 17 = .ok (.newarray .int, 2) := by decide +kernel
theorem dX10_init_19 : decode cX10_init 19 = .ok (.putfield 13, 3) := by decide +kernel
theorem dX10_init_22 : decode cX10_init 22 = .ok (.aload_n 0, 1) := by decide +kernel
theorem dX10_init_23 : decode cX10_init 23 = .ok (.sipush 2840, 3) := by decide +kernel
theorem dX10_init_26 : decode cX10_init 26 = .ok (.newarray .int, 2) := by decide +kernel
theorem dX10_init_28 : decode cX10_init 28 = .ok (.putfield 16, 3) := by decide +kernel
theorem dX10_init_31 : decode cX10_init 31 = .ok (.aload_n 0, 1) := by decide +kernel
theorem dX10_init_32 : decode cX10_init 32 = .ok (.sipush 710, 3) := by decide +kernel
theorem dX10_init_35 : decode cX10_init 35 = .ok (.newarray .int, 2) := by decide +kernel
theorem dX10_init_37 : decode cX10_init 37 = .ok (.putfield 19, 3) := by decide +kernel
theorem dX10_init_40 : decode cX10_init 40 = .ok (.aload_n 0, 1) := by decide +kernel
theorem dX10_init_41 : decode cX10_init 41 = .ok (.iconst 2, 1) := by decide +kernel
theorem dX10_init_42 : decode cX10_init 42 = .ok (.newarray .boolean, 2) := by decide +kernel
theorem dX10_init_44 : decode cX10_init 44 = .ok (.putfield 22, 3) := by decide +kernel
theorem dX10_init_47 : decode cX10_init 47 = .ok (.aload_n 0, 1) := by decide +kernel
theorem dX10_init_48 : decode cX10_init 48 = .ok (.sipush 500, 3) := by decide +kernel
theorem dX10_init_51 : decode cX10_init 51 = .ok (.newarray .byte, 2) := by decide +kernel
theorem dX10_init_53 : decode cX10_init 53 = .ok (.putfield 26, 3) := by decide +kernel
theorem dX10_init_56 : decode cX10_init 56 = .ok (.aload_n 0, 1) := by decide +kernel
theorem dX10_init_57 : decode cX10_init 57 = .ok (.iconst (-1), 1) := by decide +kernel
theorem dX10_init_58 : decode cX10_init 58 = .ok (.putfield 30, 3) := by decide +kernel
theorem dX10_init_61 : decode cX10_init 61 = .ok (.aload_n 0, 1) := by decide +kernel
theorem dX10_init_62 : decode cX10_init 62 = .ok (.sipush 200, 3) := by decide +kernel
theorem dX10_init_65 : decode cX10_init 65 = .ok (.newarray .byte, 2) := by decide +kernel
theorem dX10_init_67 : decode cX10_init 67 = .ok (.putfield 34, 3) := by decide +kernel
theorem dX10_init_70 : decode cX10_init 70 = .ok (.return_, 1) := by decide +kernel
theorem dX10_thrown_0 : decode cX10_thrown 0 = .ok (.aload_n 0, 1) := by decide +kernel
theorem dX10_thrown_1 : decode cX10_thrown 1 = .ok (.getfield 37, 3) := by decide +kernel
theorem dX10_thrown_4 : decode cX10_thrown 4 = .ok (.ireturn, 1) := by decide +kernel
theorem dX10_in_0 : decode cX10_in 0 = .ok (.iload_n 1, 1) := by decide +kernel
theorem dX10_in_1 : decode cX10_in 1 = .ok (.iload_n 0, 1) := by decide +kernel
theorem dX10_in_2 : decode cX10_in 2 = .ok (.if_icmp .gt 12, 3) := by decide +kernel
theorem dX10_in_5 : decode cX10_in 5 = .ok (.iload_n 0, 1) := by decide +kernel
theorem dX10_in_6 : decode cX10_in 6 = .ok (.iload_n 2, 1) := by decide +kernel
theorem dX10_in_7 : decode cX10_in 7 = .ok (.if_icmp .gt 7, 3) := by decide +kernel
theorem dX10_in_10 : decode cX10_in 10 = .ok (.iconst 1, 1) := by decide +kernel
theorem dX10_in_11 : decode cX10_in 11 = .ok (.goto 4, 3) := by decide +kernel
theorem dX10_in_14 : decode cX10_in 14 = .ok (.iconst 0, 1) := by decide +kernel
theorem dX10_in_15 : decode cX10_in 15 = .ok (.ireturn, 1) := by decide +kernel
theorem dX10_one_0 : decode cX10_one 0 = .ok (.iload_n 0, 1) := by decide +kernel
theorem dX10_one_1 : decode cX10_one 1 = .ok (.ifCond .eq 7, 3) := by decide +kernel
theorem dX10_one_4 : decode cX10_one 4 = .ok (.iconst 1, 1) := by decide +kernel
theorem dX10_one_5 : decode cX10_one 5 = .ok (.goto 4, 3) := by decide +kernel
theorem dX10_one_8 : decode cX10_one 8 = .ok (.iconst 0, 1) := by decide +kernel
theorem dX10_one_9 : decode cX10_one 9 = .ok (.ireturn, 1) := by decide +kernel
theorem dX10_may_0 : decode cX10_may 0 = .ok (.aload_n 0, 1) := by decide +kernel
theorem dX10_may_1 : decode cX10_may 1 = .ok (.iload_n 1, 1) := by decide +kernel
theorem dX10_may_2 : decode cX10_may 2 = .ok (.ifCond .ne 7, 3) := by decide +kernel
theorem dX10_may_5 : decode cX10_may 5 = .ok (.iconst 1, 1) := by decide +kernel
theorem dX10_may_6 : decode cX10_may 6 = .ok (.goto 20, 3) := by decide +kernel
theorem dX10_may_9 : decode cX10_may 9 = .ok (.iload_n 2, 1) := by decide +kernel
theorem dX10_may_10 : decode cX10_may 10 = .ok (.ifCond .ne 7, 3) := by decide +kernel
theorem dX10_may_13 : decode cX10_may 13 = .ok (.iconst 2, 1) := by decide +kernel
theorem dX10_may_14 : decode cX10_may 14 = .ok (.goto 12, 3) := by decide +kernel
theorem dX10_may_17 : decode cX10_may 17 = .ok (.iload_n 3, 1) := by decide +kernel
theorem dX10_may_18 : decode cX10_may 18 = .ok (.ifCond .eq 7, 3) := by decide +kernel
theorem dX10_may_21 : decode cX10_may 21 = .ok (.iconst 0, 1) := by decide +kernel
theorem dX10_may_22 : decode cX10_may 22 = .ok (.goto 4, 3) := by decide +kernel
theorem dX10_may_25 : decode cX10_may 25 = .ok (.iconst 3, 1) := by decide +kernel
theorem dX10_may_26 : decode cX10_may 26 = .ok (.putfield 37, 3) := by decide +kernel
theorem dX10_may_29 : decode cX10_may 29 = .ok (.aload_n 0, 1) := by decide +kernel
theorem dX10_may_30 : decode cX10_may 30 = .ok (.getfield 37, 3) := by decide +kernel
theorem dX10_may_33 : decode cX10_may 33 = .ok (.ifCond .ne 7, 3) := by decide +kernel
theorem dX10_may_36 : decode cX10_may 36 = .ok (.iconst 1, 1) := by decide +kernel
theorem dX10_may_37 : decode cX10_may 37 = .ok (.goto 4, 3) := by decide +kernel
theorem dX10_may_40 : decode cX10_may 40 = .ok (.iconst 0, 1) := by decide +kernel
theorem dX10_may_41 : decode cX10_may 41 = .ok (.ireturn, 1) := by decide +kernel
theorem dX10_mayTwo_0 : decode cX10_mayTwo 0 = .ok (.aload_n 0, 1) := by decide +kernel
theorem dX10_mayTwo_1 : decode cX10_mayTwo 1 = .ok (.iload_n 1, 1) := by decide +kernel
theorem dX10_mayTwo_2 : decode cX10_mayTwo 2 = .ok (.iload_n 2, 1) := by decide +kernel
theorem dX10_mayTwo_3 : decode cX10_mayTwo 3 = .ok (.iconst 1, 1) := by decide +kernel
theorem dX10_mayTwo_4 : decode cX10_mayTwo 4 = .ok (.invokevirtual 40, 3) := by decide +kernel
theorem dX10_mayTwo_7 : decode cX10_mayTwo 7 = .ok (.ireturn, 1) := by decide +kernel
theorem dX10_mayLook_0 : decode cX10_mayLook 0 = .ok (.aload_n 0, 1) := by decide +kernel
theorem dX10_mayLook_1 : decode cX10_mayLook 1 = .ok (.aload_n 0, 1) := by decide +kernel
theorem dX10_mayLook_2 : decode cX10_mayLook 2 = .ok (.getfield 44, 3) := by decide +kernel
theorem dX10_mayLook_5 : decode cX10_mayLook 5 = .ok (.iconst 1, 1) := by decide +kernel
theorem dX10_mayLook_6 : decode cX10_mayLook 6 = .ok (.iconst 1, 1) := by decide +kernel
theorem dX10_mayLook_7 : decode cX10_mayLook 7 = .ok (.invokevirtual 40, 3) := by decide +kernel
theorem dX10_mayLook_10 : decode cX10_mayLook 10 = .ok (.ireturn, 1) := by decide +kernel
theorem dX10_lays_0 : decode cX10_lays 0 = .ok (.iconst 0, 1) := by decide +kernel
theorem dX10_lays_1 : decode cX10_lays 1 = .ok (.istore 4, 2) := by decide +kernel
theorem dX10_lays_3 : decode cX10_lays 3 = .ok (.iload 4, 2) := by decide +kernel
theorem dX10_lays_5 : decode cX10_lays 5 = .ok (.sipush 355, 3) := by decide +kernel
theorem dX10_lays_8 : decode cX10_lays 8 = .ok (.if_icmp .ge 21, 3) := by decide +kernel
theorem dX10_lays_11 : decode cX10_lays 11 = .ok (.aload_n 2, 1) := by decide +kernel
theorem dX10_lays_12 : decode cX10_lays 12 = .ok (.iload_n 3, 1) := by decide +kernel
theorem dX10_lays_13 : decode cX10_lays 13 = .ok (.iload 4, 2) := by decide +kernel
theorem dX10_lays_15 : decode cX10_lays 15 = .ok (.iadd, 1) := by decide +kernel
theorem dX10_lays_16 : decode cX10_lays 16 = .ok (.aload_n 0, 1) := by decide +kernel
theorem dX10_lays_17 : decode cX10_lays 17 = .ok (.iload_n 1, 1) := by decide +kernel
theorem dX10_lays_18 : decode cX10_lays 18 = .ok (.iload 4, 2) := by decide +kernel
theorem dX10_lays_20 : decode cX10_lays 20 = .ok (.iadd, 1) := by decide +kernel
theorem dX10_lays_21 : decode cX10_lays 21 = .ok (.iaload, 1) := by decide +kernel
theorem dX10_lays_22 : decode cX10_lays 22 = .ok (.iastore, 1) := by decide +kernel
theorem dX10_lays_23 : decode cX10_lays 23 = .ok (.iinc 4 1, 3) := by decide +kernel
theorem dX10_lays_26 : decode cX10_lays 26 = .ok (.goto (-23), 3) := by decide +kernel
theorem dX10_lays_29 : decode cX10_lays 29 = .ok (.return_, 1) := by decide +kernel
theorem dX10_thinks_0 : decode cX10_thinks 0 = .ok (.aload_n 0, 1) := by decide +kernel
theorem dX10_thinks_1 : decode cX10_thinks 1 = .ok (.getfield 9, 3) := by decide +kernel
theorem dX10_thinks_4 : decode cX10_thinks 4 = .ok (.iconst 0, 1) := by decide +kernel
theorem dX10_thinks_5 : decode cX10_thinks 5 = .ok (.aload_n 0, 1) := by decide +kernel
theorem dX10_thinks_6 : decode cX10_thinks 6 = .ok (.getfield 13, 3) := by decide +kernel
theorem dX10_thinks_9 : decode cX10_thinks 9 = .ok (.iconst 0, 1) := by decide +kernel
theorem dX10_thinks_10 : decode cX10_thinks 10 = .ok (.invokestatic 48, 3) := by decide +kernel
theorem dX10_thinks_13 : decode cX10_thinks 13 = .ok (.return_, 1) := by decide +kernel
theorem dX10_back_0 : decode cX10_back 0 = .ok (.aload_n 0, 1) := by decide +kernel
theorem dX10_back_1 : decode cX10_back 1 = .ok (.getfield 13, 3) := by decide +kernel
theorem dX10_back_4 : decode cX10_back 4 = .ok (.iconst 0, 1) := by decide +kernel
theorem dX10_back_5 : decode cX10_back 5 = .ok (.aload_n 0, 1) := by decide +kernel
theorem dX10_back_6 : decode cX10_back 6 = .ok (.getfield 9, 3) := by decide +kernel
theorem dX10_back_9 : decode cX10_back 9 = .ok (.iconst 0, 1) := by decide +kernel
theorem dX10_back_10 : decode cX10_back 10 = .ok (.invokestatic 48, 3) := by decide +kernel
theorem dX10_back_13 : decode cX10_back 13 = .ok (.iload_n 1, 1) := by decide +kernel
theorem dX10_back_14 : decode cX10_back 14 = .ok (.ireturn, 1) := by decide +kernel
theorem dX10_append_0 : decode cX10_append 0 = .ok (.aload_n 0, 1) := by decide +kernel
theorem dX10_append_1 : decode cX10_append 1 = .ok (.iconst 0, 1) := by decide +kernel
theorem dX10_append_2 : decode cX10_append 2 = .ok (.putfield 37, 3) := by decide +kernel
theorem dX10_append_5 : decode cX10_append 5 = .ok (.aload_n 0, 1) := by decide +kernel
theorem dX10_append_6 : decode cX10_append 6 = .ok (.getfield 52, 3) := by decide +kernel
theorem dX10_append_9 : decode cX10_append 9 = .ok (.sipush 480, 3) := by decide +kernel
theorem dX10_append_12 : decode cX10_append 12 = .ok (.if_icmp .le 5, 3) := by decide +kernel
theorem dX10_append_15 : decode cX10_append 15 = .ok (.iconst (-1), 1) := by decide +kernel
theorem dX10_append_16 : decode cX10_append 16 = .ok (.ireturn, 1) := by decide +kernel
theorem dX10_append_17 : decode cX10_append 17 = .ok (.aload_n 0, 1) := by decide +kernel
theorem dX10_append_18 : decode cX10_append 18 = .ok (.iload_n 1, 1) := by decide +kernel
theorem dX10_append_19 : decode cX10_append 19 = .ok (.invokevirtual 55, 3) := by decide +kernel
theorem dX10_append_22 : decode cX10_append 22 = .ok (.aload_n 0, 1) := by decide +kernel
theorem dX10_append_23 : decode cX10_append 23 = .ok (.iload_n 2, 1) := by decide +kernel
theorem dX10_append_24 : decode cX10_append 24 = .ok (.invokevirtual 55, 3) := by decide +kernel
theorem dX10_append_27 : decode cX10_append 27 = .ok (.aload_n 0, 1) := by decide +kernel
theorem dX10_append_28 : decode cX10_append 28 = .ok (.iload_n 3, 1) := by decide +kernel
theorem dX10_append_29 : decode cX10_append 29 = .ok (.invokevirtual 55, 3) := by decide +kernel
theorem dX10_append_32 : decode cX10_append 32 = .ok (.aload_n 0, 1) := by decide +kernel
theorem dX10_append_33 : decode cX10_append 33 = .ok (.iload 4, 2) := by decide +kernel
theorem dX10_append_35 : decode cX10_append 35 = .ok (.invokevirtual 55, 3) := by decide +kernel
theorem dX10_append_38 : decode cX10_append 38 = .ok (.aload_n 0, 1) := by decide +kernel
theorem dX10_append_39 : decode cX10_append 39 = .ok (.iload 5, 2) := by decide +kernel
theorem dX10_append_41 : decode cX10_append 41 = .ok (.invokevirtual 55, 3) := by decide +kernel
theorem dX10_append_44 : decode cX10_append 44 = .ok (.aload_n 0, 1) := by decide +kernel
theorem dX10_append_45 : decode cX10_append 45 = .ok (.getfield 52, 3) := by decide +kernel
theorem dX10_append_48 : decode cX10_append 48 = .ok (.ireturn, 1) := by decide +kernel
theorem dX10_four_0 : decode cX10_four 0 = .ok (.iconst 3, 1) := by decide +kernel
theorem dX10_four_1 : decode cX10_four 1 = .ok (.istore_n 2, 1) := by decide +kernel
theorem dX10_four_2 : decode cX10_four 2 = .ok (.iload_n 2, 1) := by decide +kernel
theorem dX10_four_3 : decode cX10_four 3 = .ok (.ifCond .lt 35, 3) := by decide +kernel
theorem dX10_four_6 : decode cX10_four 6 = .ok (.aload_n 0, 1) := by decide +kernel
theorem dX10_four_7 : decode cX10_four 7 = .ok (.getfield 26, 3) := by decide +kernel
theorem dX10_four_10 : decode cX10_four 10 = .ok (.aload_n 0, 1) := by decide +kernel
theorem dX10_four_11 : decode cX10_four 11 = .ok (.getfield 52, 3) := by decide +kernel
theorem dX10_four_14 : decode cX10_four 14 = .ok (.iload_n 1, 1) := by decide +kernel
theorem dX10_four_15 : decode cX10_four 15 = .ok (.bipush 8, 2) := by decide +kernel
theorem dX10_four_17 : decode cX10_four 17 = .ok (.iload_n 2, 1) := by decide +kernel
theorem dX10_four_18 : decode cX10_four 18 = .ok (.imul, 1) := by decide +kernel
theorem dX10_four_19 : decode cX10_four 19 = .ok (.ishr, 1) := by decide +kernel
theorem dX10_four_20 : decode cX10_four 20 = .ok (.i2b, 1) := by decide +kernel
theorem dX10_four_21 : decode cX10_four 21 = .ok (.bastore, 1) := by decide +kernel
theorem dX10_four_22 : decode cX10_four 22 = .ok (.aload_n 0, 1) := by decide +kernel
theorem dX10_four_23 : decode cX10_four 23 = .ok (.dup, 1) := by decide +kernel
theorem dX10_four_24 : decode cX10_four 24 = .ok (.getfield 52, 3) := by decide +kernel
theorem dX10_four_27 : decode cX10_four 27 = .ok (.iconst 1, 1) := by decide +kernel
theorem dX10_four_28 : decode cX10_four 28 = .ok (.iadd, 1) := by decide +kernel
theorem dX10_four_29 : decode cX10_four 29 = .ok (.putfield 52, 3) := by decide +kernel
theorem dX10_four_32 : decode cX10_four 32 = .ok (.iinc 2 (-1), 3) := by decide +kernel
theorem dX10_four_35 : decode cX10_four 35 = .ok (.goto (-33), 3) := by decide +kernel
theorem dX10_four_38 : decode cX10_four 38 = .ok (.return_, 1) := by decide +kernel
theorem dX10_told_0 : decode cX10_told 0 = .ok (.aload_n 0, 1) := by decide +kernel
theorem dX10_told_1 : decode cX10_told 1 = .ok (.iconst 0, 1) := by decide +kernel
theorem dX10_told_2 : decode cX10_told 2 = .ok (.putfield 37, 3) := by decide +kernel
theorem dX10_told_5 : decode cX10_told 5 = .ok (.iload_n 1, 1) := by decide +kernel
theorem dX10_told_6 : decode cX10_told 6 = .ok (.ireturn, 1) := by decide +kernel
theorem dX10_parseErrorCode_0 : decode cX10_parseErrorCode 0 = .ok (.aload_n 0, 1) := by decide +kernel
theorem dX10_parseErrorCode_1 : decode cX10_parseErrorCode 1 = .ok (.aload_n 0, 1) := by decide +kernel
theorem dX10_parseErrorCode_2 : decode cX10_parseErrorCode 2 = .ok (.getfield 59, 3) := by decide +kernel
theorem dX10_parseErrorCode_5 : decode cX10_parseErrorCode 5 = .ok (.invokevirtual 62, 3) := by decide +kernel
theorem dX10_parseErrorCode_8 : decode cX10_parseErrorCode 8 = .ok (.ireturn, 1) := by decide +kernel
theorem dX10_parseErrorPosition_0 : decode cX10_parseErrorPosition 0 = .ok (.aload_n 0, 1) := by decide +kernel
theorem dX10_parseErrorPosition_1 : decode cX10_parseErrorPosition 1 = .ok (.aload_n 0, 1) := by decide +kernel
theorem dX10_parseErrorPosition_2 : decode cX10_parseErrorPosition 2 = .ok (.getfield 30, 3) := by decide +kernel
theorem dX10_parseErrorPosition_5 : decode cX10_parseErrorPosition 5 = .ok (.invokevirtual 62, 3) := by decide +kernel
theorem dX10_parseErrorPosition_8 : decode cX10_parseErrorPosition 8 = .ok (.ireturn, 1) := by decide +kernel
theorem dX10_bufferLength_0 : decode cX10_bufferLength 0 = .ok (.aload_n 0, 1) := by decide +kernel
theorem dX10_bufferLength_1 : decode cX10_bufferLength 1 = .ok (.aload_n 0, 1) := by decide +kernel
theorem dX10_bufferLength_2 : decode cX10_bufferLength 2 = .ok (.getfield 52, 3) := by decide +kernel
theorem dX10_bufferLength_5 : decode cX10_bufferLength 5 = .ok (.invokevirtual 62, 3) := by decide +kernel
theorem dX10_bufferLength_8 : decode cX10_bufferLength 8 = .ok (.ireturn, 1) := by decide +kernel
theorem dX10_isLetter_0 : decode cX10_isLetter 0 = .ok (.iload_n 1, 1) := by decide +kernel
theorem dX10_isLetter_1 : decode cX10_isLetter 1 = .ok (.aload_n 0, 1) := by decide +kernel
theorem dX10_isLetter_2 : decode cX10_isLetter 2 = .ok (.getfield 66, 3) := by decide +kernel
theorem dX10_isLetter_5 : decode cX10_isLetter 5 = .ok (.if_icmp .ge 23, 3) := by decide +kernel
theorem dX10_isLetter_8 : decode cX10_isLetter 8 = .ok (.aload_n 0, 1) := by decide +kernel
theorem dX10_isLetter_9 : decode cX10_isLetter 9 = .ok (.getfield 26, 3) := by decide +kernel
theorem dX10_isLetter_12 : decode cX10_isLetter 12 = .ok (.iload_n 1, 1) := by decide +kernel
theorem dX10_isLetter_13 : decode cX10_isLetter 13 = .ok (.baload, 1) := by decide +kernel
theorem dX10_isLetter_14 : decode cX10_isLetter 14 = .ok (.bipush 97, 2) := by decide +kernel
theorem dX10_isLetter_16 : decode cX10_isLetter 16 = .ok (.bipush 122, 2) := by decide +kernel
theorem dX10_isLetter_18 : decode cX10_isLetter 18 = .ok (.invokestatic 69, 3) := by decide +kernel
theorem dX10_isLetter_21 : decode cX10_isLetter 21 = .ok (.ifCond .eq 7, 3) := by decide +kernel
theorem dX10_isLetter_24 : decode cX10_isLetter 24 = .ok (.iconst 1, 1) := by decide +kernel
theorem dX10_isLetter_25 : decode cX10_isLetter 25 = .ok (.goto 4, 3) := by decide +kernel
theorem dX10_isLetter_28 : decode cX10_isLetter 28 = .ok (.iconst 0, 1) := by decide +kernel
theorem dX10_isLetter_29 : decode cX10_isLetter 29 = .ok (.ireturn, 1) := by decide +kernel
theorem dX10_isDigit_0 : decode cX10_isDigit 0 = .ok (.iload_n 1, 1) := by decide +kernel
theorem dX10_isDigit_1 : decode cX10_isDigit 1 = .ok (.aload_n 0, 1) := by decide +kernel
theorem dX10_isDigit_2 : decode cX10_isDigit 2 = .ok (.getfield 66, 3) := by decide +kernel
theorem dX10_isDigit_5 : decode cX10_isDigit 5 = .ok (.if_icmp .ge 23, 3) := by decide +kernel
theorem dX10_isDigit_8 : decode cX10_isDigit 8 = .ok (.aload_n 0, 1) := by decide +kernel
theorem dX10_isDigit_9 : decode cX10_isDigit 9 = .ok (.getfield 26, 3) := by decide +kernel
theorem dX10_isDigit_12 : decode cX10_isDigit 12 = .ok (.iload_n 1, 1) := by decide +kernel
theorem dX10_isDigit_13 : decode cX10_isDigit 13 = .ok (.baload, 1) := by decide +kernel
theorem dX10_isDigit_14 : decode cX10_isDigit 14 = .ok (.bipush 48, 2) := by decide +kernel
theorem dX10_isDigit_16 : decode cX10_isDigit 16 = .ok (.bipush 57, 2) := by decide +kernel
theorem dX10_isDigit_18 : decode cX10_isDigit 18 = .ok (.invokestatic 69, 3) := by decide +kernel
theorem dX10_isDigit_21 : decode cX10_isDigit 21 = .ok (.ifCond .eq 7, 3) := by decide +kernel
theorem dX10_isDigit_24 : decode cX10_isDigit 24 = .ok (.iconst 1, 1) := by decide +kernel
theorem dX10_isDigit_25 : decode cX10_isDigit 25 = .ok (.goto 4, 3) := by decide +kernel
theorem dX10_isDigit_28 : decode cX10_isDigit 28 = .ok (.iconst 0, 1) := by decide +kernel
theorem dX10_isDigit_29 : decode cX10_isDigit 29 = .ok (.ireturn, 1) := by decide +kernel
theorem dX10_goes_0 : decode cX10_goes 0 = .ok (.aload_n 0, 1) := by decide +kernel
theorem dX10_goes_1 : decode cX10_goes 1 = .ok (.getfield 59, 3) := by decide +kernel
theorem dX10_goes_4 : decode cX10_goes 4 = .ok (.ifCond .le 4, 3) := by decide +kernel
theorem dX10_goes_7 : decode cX10_goes 7 = .ok (.return_, 1) := by decide +kernel
theorem dX10_goes_8 : decode cX10_goes 8 = .ok (.aload_n 0, 1) := by decide +kernel
theorem dX10_goes_9 : decode cX10_goes 9 = .ok (.getfield 73, 3) := by decide +kernel
theorem dX10_goes_12 : decode cX10_goes 12 = .ok (.aload_n 0, 1) := by decide +kernel
theorem dX10_goes_13 : decode cX10_goes 13 = .ok (.getfield 66, 3) := by decide +kernel
theorem dX10_goes_16 : decode cX10_goes 16 = .ok (.if_icmp .ge 30, 3) := by decide +kernel
theorem dX10_goes_19 : decode cX10_goes 19 = .ok (.aload_n 0, 1) := by decide +kernel
theorem dX10_goes_20 : decode cX10_goes 20 = .ok (.getfield 26, 3) := by decide +kernel
theorem dX10_goes_23 : decode cX10_goes 23 = .ok (.aload_n 0, 1) := by decide +kernel
theorem dX10_goes_24 : decode cX10_goes 24 = .ok (.getfield 73, 3) := by decide +kernel
theorem dX10_goes_27 : decode cX10_goes 27 = .ok (.baload, 1) := by decide +kernel
theorem dX10_goes_28 : decode cX10_goes 28 = .ok (.bipush 32, 2) := by decide +kernel
theorem dX10_goes_30 : decode cX10_goes 30 = .ok (.if_icmp .ne 16, 3) := by decide +kernel
theorem dX10_goes_33 : decode cX10_goes 33 = .ok (.aload_n 0, 1) := by decide +kernel
theorem dX10_goes_34 : decode cX10_goes 34 = .ok (.dup, 1) := by decide +kernel
theorem dX10_goes_35 : decode cX10_goes 35 = .ok (.getfield 73, 3) := by decide +kernel
theorem dX10_goes_38 : decode cX10_goes 38 = .ok (.iconst 1, 1) := by decide +kernel
theorem dX10_goes_39 : decode cX10_goes 39 = .ok (.iadd, 1) := by decide +kernel
theorem dX10_goes_40 : decode cX10_goes 40 = .ok (.putfield 73, 3) := by decide +kernel
theorem dX10_goes_43 : decode cX10_goes 43 = .ok (.goto (-35), 3) := by decide +kernel
theorem dX10_goes_46 : decode cX10_goes 46 = .ok (.aload_n 0, 1) := by decide +kernel
theorem dX10_goes_47 : decode cX10_goes 47 = .ok (.aload_n 0, 1) := by decide +kernel
theorem dX10_goes_48 : decode cX10_goes 48 = .ok (.getfield 73, 3) := by decide +kernel
theorem dX10_goes_51 : decode cX10_goes 51 = .ok (.putfield 76, 3) := by decide +kernel
theorem dX10_goes_54 : decode cX10_goes 54 = .ok (.aload_n 0, 1) := by decide +kernel
theorem dX10_goes_55 : decode cX10_goes 55 = .ok (.aload_n 0, 1) := by decide +kernel
theorem dX10_goes_56 : decode cX10_goes 56 = .ok (.getfield 73, 3) := by decide +kernel
theorem dX10_goes_59 : decode cX10_goes 59 = .ok (.aload_n 0, 1) := by decide +kernel
theorem dX10_goes_60 : decode cX10_goes 60 = .ok (.getfield 66, 3) := by decide +kernel
theorem dX10_goes_63 : decode cX10_goes 63 = .ok (.if_icmp .ne 7, 3) := by decide +kernel
theorem dX10_goes_66 : decode cX10_goes 66 = .ok (.iconst 1, 1) := by decide +kernel
theorem dX10_goes_67 : decode cX10_goes 67 = .ok (.goto 4, 3) := by decide +kernel
theorem dX10_goes_70 : decode cX10_goes 70 = .ok (.iconst 0, 1) := by decide +kernel
theorem dX10_goes_71 : decode cX10_goes 71 = .ok (.putfield 79, 3) := by decide +kernel
theorem dX10_goes_74 : decode cX10_goes 74 = .ok (.aload_n 0, 1) := by decide +kernel
theorem dX10_goes_75 : decode cX10_goes 75 = .ok (.getfield 79, 3) := by decide +kernel
theorem dX10_goes_78 : decode cX10_goes 78 = .ok (.iconst 1, 1) := by decide +kernel
theorem dX10_goes_79 : decode cX10_goes 79 = .ok (.if_icmp .ne 4, 3) := by decide +kernel
theorem dX10_goes_82 : decode cX10_goes 82 = .ok (.return_, 1) := by decide +kernel
theorem dX10_goes_83 : decode cX10_goes 83 = .ok (.aload_n 0, 1) := by decide +kernel
theorem dX10_goes_84 : decode cX10_goes 84 = .ok (.aload_n 0, 1) := by decide +kernel
theorem dX10_goes_85 : decode cX10_goes 85 = .ok (.getfield 73, 3) := by decide +kernel
theorem dX10_goes_88 : decode cX10_goes 88 = .ok (.invokevirtual 82, 3) := by decide +kernel
theorem dX10_goes_91 : decode cX10_goes 91 = .ok (.ifCond .eq 51, 3) := by decide +kernel
theorem dX10_goes_94 : decode cX10_goes 94 = .ok (.aload_n 0, 1) := by decide +kernel
theorem dX10_goes_95 : decode cX10_goes 95 = .ok (.aload_n 0, 1) := by decide +kernel
theorem dX10_goes_96 : decode cX10_goes 96 = .ok (.getfield 73, 3) := by decide +kernel
theorem dX10_goes_99 : decode cX10_goes 99 = .ok (.invokevirtual 82, 3) := by decide +kernel
theorem dX10_goes_102 : decode cX10_goes 102 = .ok (.ifCond .eq 16, 3) := by decide +kernel
theorem dX10_goes_105 : decode cX10_goes 105 = .ok (.aload_n 0, 1) := by decide +kernel
theorem dX10_goes_106 : decode cX10_goes 106 = .ok (.dup, 1) := by decide +kernel
theorem dX10_goes_107 : decode cX10_goes 107 = .ok (.getfield 73, 3) := by decide +kernel
theorem dX10_goes_110 : decode cX10_goes 110 = .ok (.iconst 1, 1) := by decide +kernel
theorem dX10_goes_111 : decode cX10_goes 111 = .ok (.iadd, 1) := by decide +kernel
theorem dX10_goes_112 : decode cX10_goes 112 = .ok (.putfield 73, 3) := by decide +kernel
theorem dX10_goes_115 : decode cX10_goes 115 = .ok (.goto (-21), 3) := by decide +kernel
theorem dX10_goes_118 : decode cX10_goes 118 = .ok (.aload_n 0, 1) := by decide +kernel
theorem dX10_goes_119 : decode cX10_goes 119 = .ok (.aload_n 0, 1) := by decide +kernel
theorem dX10_goes_120 : decode cX10_goes 120 = .ok (.getfield 73, 3) := by decide +kernel
theorem dX10_goes_123 : decode cX10_goes 123 = .ok (.aload_n 0, 1) := by decide +kernel
theorem dX10_goes_124 : decode cX10_goes 124 = .ok (.getfield 76, 3) := by decide +kernel
theorem dX10_goes_127 : decode cX10_goes 127 = .ok (.isub, 1) := by decide +kernel
theorem dX10_goes_128 : decode cX10_goes 128 = .ok (.bipush 7, 2) := by decide +kernel
theorem dX10_goes_130 : decode cX10_goes 130 = .ok (.if_icmp .gt 7, 3) := by decide +kernel
theorem dX10_goes_133 : decode cX10_goes 133 = .ok (.iconst 2, 1) := by decide +kernel
theorem dX10_goes_134 : decode cX10_goes 134 = .ok (.goto 4, 3) := by decide +kernel
theorem dX10_goes_137 : decode cX10_goes 137 = .ok (.iconst 0, 1) := by decide +kernel
theorem dX10_goes_138 : decode cX10_goes 138 = .ok (.putfield 79, 3) := by decide +kernel
theorem dX10_goes_141 : decode cX10_goes 141 = .ok (.return_, 1) := by decide +kernel
theorem dX10_goes_142 : decode cX10_goes 142 = .ok (.aload_n 0, 1) := by decide +kernel
theorem dX10_goes_143 : decode cX10_goes 143 = .ok (.aload_n 0, 1) := by decide +kernel
theorem dX10_goes_144 : decode cX10_goes 144 = .ok (.getfield 73, 3) := by decide +kernel
theorem dX10_goes_147 : decode cX10_goes 147 = .ok (.invokevirtual 86, 3) := by decide +kernel
theorem dX10_goes_150 : decode cX10_goes 150 = .ok (.ifCond .eq 92, 3) := by decide +kernel
theorem dX10_goes_153 : decode cX10_goes 153 = .ok (.aload_n 0, 1) := by decide +kernel
theorem dX10_goes_154 : decode cX10_goes 154 = .ok (.iconst 0, 1) := by decide +kernel
theorem dX10_goes_155 : decode cX10_goes 155 = .ok (.putfield 89, 3) := by decide +kernel
theorem dX10_goes_158 : decode cX10_goes 158 = .ok (.aload_n 0, 1) := by decide +kernel
theorem dX10_goes_159 : decode cX10_goes 159 = .ok (.aload_n 0, 1) := by decide +kernel
theorem dX10_goes_160 : decode cX10_goes 160 = .ok (.getfield 73, 3) := by decide +kernel
theorem dX10_goes_163 : decode cX10_goes 163 = .ok (.invokevirtual 86, 3) := by decide +kernel
theorem dX10_goes_166 : decode cX10_goes 166 = .ok (.ifCond .eq 53, 3) := by decide +kernel
theorem dX10_goes_169 : decode cX10_goes 169 = .ok (.aload_n 0, 1) := by decide +kernel
theorem dX10_goes_170 : decode cX10_goes 170 = .ok (.getfield 73, 3) := by decide +kernel
theorem dX10_goes_173 : decode cX10_goes 173 = .ok (.aload_n 0, 1) := by decide +kernel
theorem dX10_goes_174 : decode cX10_goes 174 = .ok (.getfield 76, 3) := by decide +kernel
theorem dX10_goes_177 : decode cX10_goes 177 = .ok (.isub, 1) := by decide +kernel
theorem dX10_goes_178 : decode cX10_goes 178 = .ok (.iconst 3, 1) := by decide +kernel
theorem dX10_goes_179 : decode cX10_goes 179 = .ok (.if_icmp .ge 27, 3) := by decide +kernel
theorem dX10_goes_182 : decode cX10_goes 182 = .ok (.aload_n 0, 1) := by decide +kernel
theorem dX10_goes_183 : decode cX10_goes 183 = .ok (.bipush 10, 2) := by decide +kernel
theorem dX10_goes_185 : decode cX10_goes 185 = .ok (.aload_n 0, 1) := by decide +kernel
theorem dX10_goes_186 : decode cX10_goes 186 = .ok (.getfield 89, 3) := by decide +kernel
theorem dX10_goes_189 : decode cX10_goes 189 = .ok (.imul, 1) := by decide +kernel
theorem dX10_goes_190 : decode cX10_goes 190 = .ok (.aload_n 0, 1) := by decide +kernel
theorem dX10_goes_191 : decode cX10_goes 191 = .ok (.getfield 26, 3) := by decide +kernel
theorem dX10_goes_194 : decode cX10_goes 194 = .ok (.aload_n 0, 1) := by decide +kernel
theorem dX10_goes_195 : decode cX10_goes 195 = .ok (.getfield 73, 3) := by decide +kernel
theorem dX10_goes_198 : decode cX10_goes 198 = .ok (.baload, 1) := by decide +kernel
theorem dX10_goes_199 : decode cX10_goes 199 = .ok (.iadd, 1) := by decide +kernel
theorem dX10_goes_200 : decode cX10_goes 200 = .ok (.bipush 48, 2) := by decide +kernel
theorem dX10_goes_202 : decode cX10_goes 202 = .ok (.isub, 1) := by decide +kernel
theorem dX10_goes_203 : decode cX10_goes 203 = .ok (.putfield 89, 3) := by decide +kernel
theorem dX10_goes_206 : decode cX10_goes 206 = .ok (.aload_n 0, 1) := by decide +kernel
theorem dX10_goes_207 : decode cX10_goes 207 = .ok (.dup, 1) := by decide +kernel
theorem dX10_goes_208 : decode cX10_goes 208 = .ok (.getfield 73, 3) := by decide +kernel
theorem dX10_goes_211 : decode cX10_goes 211 = .ok (.iconst 1, 1) := by decide +kernel
theorem dX10_goes_212 : decode cX10_goes 212 = .ok (.iadd, 1) := by decide +kernel
theorem dX10_goes_213 : decode cX10_goes 213 = .ok (.putfield 73, 3) := by decide +kernel
theorem dX10_goes_216 : decode cX10_goes 216 = .ok (.goto (-58), 3) := by decide +kernel
theorem dX10_goes_219 : decode cX10_goes 219 = .ok (.aload_n 0, 1) := by decide +kernel
theorem dX10_goes_220 : decode cX10_goes 220 = .ok (.aload_n 0, 1) := by decide +kernel
theorem dX10_goes_221 : decode cX10_goes 221 = .ok (.getfield 73, 3) := by decide +kernel
theorem dX10_goes_224 : decode cX10_goes 224 = .ok (.aload_n 0, 1) := by decide +kernel
theorem dX10_goes_225 : decode cX10_goes 225 = .ok (.getfield 76, 3) := by decide +kernel
theorem dX10_goes_228 : decode cX10_goes 228 = .ok (.isub, 1) := by decide +kernel
theorem dX10_goes_229 : decode cX10_goes 229 = .ok (.iconst 3, 1) := by decide +kernel
theorem dX10_goes_230 : decode cX10_goes 230 = .ok (.if_icmp .gt 7, 3) := by decide +kernel
theorem dX10_goes_233 : decode cX10_goes 233 = .ok (.iconst 3, 1) := by decide +kernel
theorem dX10_goes_234 : decode cX10_goes 234 = .ok (.goto 4, 3) := by decide +kernel
theorem dX10_goes_237 : decode cX10_goes 237 = .ok (.iconst 0, 1) := by decide +kernel
theorem dX10_goes_238 : decode cX10_goes 238 = .ok (.putfield 79, 3) := by decide +kernel
theorem dX10_goes_241 : decode cX10_goes 241 = .ok (.return_, 1) := by decide +kernel
theorem dX10_goes_242 : decode cX10_goes 242 = .ok (.aload_n 0, 1) := by decide +kernel
theorem dX10_goes_243 : decode cX10_goes 243 = .ok (.aload_n 0, 1) := by decide +kernel
theorem dX10_goes_244 : decode cX10_goes 244 = .ok (.getfield 26, 3) := by decide +kernel
theorem dX10_goes_247 : decode cX10_goes 247 = .ok (.aload_n 0, 1) := by decide +kernel
theorem dX10_goes_248 : decode cX10_goes 248 = .ok (.getfield 73, 3) := by decide +kernel
theorem dX10_goes_251 : decode cX10_goes 251 = .ok (.baload, 1) := by decide +kernel
theorem dX10_goes_252 : decode cX10_goes 252 = .ok (.invokestatic 92, 3) := by decide +kernel
theorem dX10_goes_255 : decode cX10_goes 255 = .ok (.putfield 79, 3) := by decide +kernel
theorem dX10_goes_258 : decode cX10_goes 258 = .ok (.aload_n 0, 1) := by decide +kernel
theorem dX10_goes_259 : decode cX10_goes 259 = .ok (.dup, 1) := by decide +kernel
theorem dX10_goes_260 : decode cX10_goes 260 = .ok (.getfield 73, 3) := by decide +kernel
theorem dX10_goes_263 : decode cX10_goes 263 = .ok (.iconst 1, 1) := by decide +kernel
theorem dX10_goes_264 : decode cX10_goes 264 = .ok (.iadd, 1) := by decide +kernel
theorem dX10_goes_265 : decode cX10_goes 265 = .ok (.putfield 73, 3) := by decide +kernel
theorem dX10_goes_268 : decode cX10_goes 268 = .ok (.return_, 1) := by decide +kernel
theorem dX10_signOf_0 : decode cX10_signOf 0 = .ok (.iload_n 0, 1) := by decide +kernel
theorem dX10_signOf_1 : decode cX10_signOf 1 = .ok (.bipush 59, 2) := by decide +kernel
theorem dX10_signOf_3 : decode cX10_signOf 3 = .ok (.if_icmp .ne 7, 3) := by decide +kernel
theorem dX10_signOf_6 : decode cX10_signOf 6 = .ok (.iconst 4, 1) := by decide +kernel
theorem dX10_signOf_7 : decode cX10_signOf 7 = .ok (.goto 25, 3) := by decide +kernel
theorem dX10_signOf_10 : decode cX10_signOf 10 = .ok (.iload_n 0, 1) := by decide +kernel
theorem dX10_signOf_11 : decode cX10_signOf 11 = .ok (.bipush 40, 2) := by decide +kernel
theorem dX10_signOf_13 : decode cX10_signOf 13 = .ok (.if_icmp .ne 7, 3) := by decide +kernel
theorem dX10_signOf_16 : decode cX10_signOf 16 = .ok (.iconst 5, 1) := by decide +kernel
theorem dX10_signOf_17 : decode cX10_signOf 17 = .ok (.goto 15, 3) := by decide +kernel
theorem dX10_signOf_20 : decode cX10_signOf 20 = .ok (.iload_n 0, 1) := by decide +kernel
theorem dX10_signOf_21 : decode cX10_signOf 21 = .ok (.bipush 41, 2) := by decide +kernel
theorem dX10_signOf_23 : decode cX10_signOf 23 = .ok (.if_icmp .ne 8, 3) := by decide +kernel
theorem dX10_signOf_26 : decode cX10_signOf 26 = .ok (.bipush 6, 2) := by decide +kernel
theorem dX10_signOf_28 : decode cX10_signOf 28 = .ok (.goto 4, 3) := by decide +kernel
theorem dX10_signOf_31 : decode cX10_signOf 31 = .ok (.iconst 0, 1) := by decide +kernel
theorem dX10_signOf_32 : decode cX10_signOf 32 = .ok (.ireturn, 1) := by decide +kernel
theorem dX10_faults_0 : decode cX10_faults 0 = .ok (.aload_n 0, 1) := by decide +kernel
theorem dX10_faults_1 : decode cX10_faults 1 = .ok (.getfield 59, 3) := by decide +kernel
theorem dX10_faults_4 : decode cX10_faults 4 = .ok (.ifCond .le 4, 3) := by decide +kernel
theorem dX10_faults_7 : decode cX10_faults 7 = .ok (.return_, 1) := by decide +kernel
theorem dX10_faults_8 : decode cX10_faults 8 = .ok (.aload_n 0, 1) := by decide +kernel
theorem dX10_faults_9 : decode cX10_faults 9 = .ok (.iload_n 1, 1) := by decide +kernel
theorem dX10_faults_10 : decode cX10_faults 10 = .ok (.putfield 59, 3) := by decide +kernel
theorem dX10_faults_13 : decode cX10_faults 13 = .ok (.aload_n 0, 1) := by decide +kernel
theorem dX10_faults_14 : decode cX10_faults 14 = .ok (.aload_n 0, 1) := by decide +kernel
theorem dX10_faults_15 : decode cX10_faults 15 = .ok (.getfield 76, 3) := by decide +kernel
theorem dX10_faults_18 : decode cX10_faults 18 = .ok (.putfield 30, 3) := by decide +kernel
theorem dX10_faults_21 : decode cX10_faults 21 = .ok (.return_, 1) := by decide +kernel
theorem dX10_refuses_0 : decode cX10_refuses 0 = .ok (.aload_n 0, 1) := by decide +kernel
theorem dX10_refuses_1 : decode cX10_refuses 1 = .ok (.getfield 59, 3) := by decide +kernel
theorem dX10_refuses_4 : decode cX10_refuses 4 = .ok (.ifCond .ne 12, 3) := by decide +kernel
theorem dX10_refuses_7 : decode cX10_refuses 7 = .ok (.iload_n 1, 1) := by decide +kernel
theorem dX10_refuses_8 : decode cX10_refuses 8 = .ok (.ifCond .eq 8, 3) := by decide +kernel
theorem dX10_refuses_11 : decode cX10_refuses 11 = .ok (.aload_n 0, 1) := by decide +kernel
theorem dX10_refuses_12 : decode cX10_refuses 12 = .ok (.iconst 3, 1) := by decide +kernel
theorem dX10_refuses_13 : decode cX10_refuses 13 = .ok (.invokevirtual 95, 3) := by decide +kernel
theorem dX10_refuses_16 : decode cX10_refuses 16 = .ok (.return_, 1) := by decide +kernel
theorem dX10_is_0 : decode cX10_is 0 = .ok (.aload_n 0, 1) := by decide +kernel
theorem dX10_is_1 : decode cX10_is 1 = .ok (.getfield 59, 3) := by decide +kernel
theorem dX10_is_4 : decode cX10_is 4 = .ok (.ifCond .ne 15, 3) := by decide +kernel
theorem dX10_is_7 : decode cX10_is 7 = .ok (.aload_n 0, 1) := by decide +kernel
theorem dX10_is_8 : decode cX10_is 8 = .ok (.getfield 79, 3) := by decide +kernel
theorem dX10_is_11 : decode cX10_is 11 = .ok (.iload_n 1, 1) := by decide +kernel
theorem dX10_is_12 : decode cX10_is 12 = .ok (.if_icmp .ne 7, 3) := by decide +kernel
theorem dX10_is_15 : decode cX10_is 15 = .ok (.iconst 1, 1) := by decide +kernel
theorem dX10_is_16 : decode cX10_is 16 = .ok (.goto 4, 3) := by decide +kernel
theorem dX10_is_19 : decode cX10_is 19 = .ok (.iconst 0, 1) := by decide +kernel
theorem dX10_is_20 : decode cX10_is 20 = .ok (.ireturn, 1) := by decide +kernel
theorem dX10_isWord_0 : decode cX10_isWord 0 = .ok (.aload_n 0, 1) := by decide +kernel
theorem dX10_isWord_1 : decode cX10_isWord 1 = .ok (.iconst 2, 1) := by decide +kernel
theorem dX10_isWord_2 : decode cX10_isWord 2 = .ok (.invokevirtual 98, 3) := by decide +kernel
theorem dX10_isWord_5 : decode cX10_isWord 5 = .ok (.ifCond .eq 19, 3) := by decide +kernel
theorem dX10_isWord_8 : decode cX10_isWord 8 = .ok (.aload_n 0, 1) := by decide +kernel
theorem dX10_isWord_9 : decode cX10_isWord 9 = .ok (.getfield 73, 3) := by decide +kernel
theorem dX10_isWord_12 : decode cX10_isWord 12 = .ok (.aload_n 0, 1) := by decide +kernel
theorem dX10_isWord_13 : decode cX10_isWord 13 = .ok (.getfield 76, 3) := by decide +kernel
theorem dX10_isWord_16 : decode cX10_isWord 16 = .ok (.isub, 1) := by decide +kernel
theorem dX10_isWord_17 : decode cX10_isWord 17 = .ok (.aload_n 1, 1) := by decide +kernel
theorem dX10_isWord_18 : decode cX10_isWord 18 = .ok (.invokevirtual 101, 3) := by decide +kernel
theorem dX10_isWord_21 : decode cX10_isWord 21 = .ok (.if_icmp .eq 5, 3) := by decide +kernel
theorem dX10_isWord_24 : decode cX10_isWord 24 = .ok (.iconst 0, 1) := by decide +kernel
theorem dX10_isWord_25 : decode cX10_isWord 25 = .ok (.ireturn, 1) := by decide +kernel
theorem dX10_isWord_26 : decode cX10_isWord 26 = .ok (.iconst 0, 1) := by decide +kernel
theorem dX10_isWord_27 : decode cX10_isWord 27 = .ok (.istore_n 2, 1) := by decide +kernel
theorem dX10_isWord_28 : decode cX10_isWord 28 = .ok (.iload_n 2, 1) := by decide +kernel
theorem dX10_isWord_29 : decode cX10_isWord 29 = .ok (.aload_n 1, 1) := by decide +kernel
theorem dX10_isWord_30 : decode cX10_isWord 30 = .ok (.invokevirtual 101, 3) := by decide +kernel
theorem dX10_isWord_33 : decode cX10_isWord 33 = .ok (.if_icmp .ge 30, 3) := by decide +kernel
theorem dX10_isWord_36 : decode cX10_isWord 36 = .ok (.aload_n 0, 1) := by decide +kernel
theorem dX10_isWord_37 : decode cX10_isWord 37 = .ok (.getfield 26, 3) := by decide +kernel
theorem dX10_isWord_40 : decode cX10_isWord 40 = .ok (.aload_n 0, 1) := by decide +kernel
theorem dX10_isWord_41 : decode cX10_isWord 41 = .ok (.getfield 76, 3) := by decide +kernel
theorem dX10_isWord_44 : decode cX10_isWord 44 = .ok (.iload_n 2, 1) := by decide +kernel
theorem dX10_isWord_45 : decode cX10_isWord 45 = .ok (.iadd, 1) := by decide +kernel
theorem dX10_isWord_46 : decode cX10_isWord 46 = .ok (.baload, 1) := by decide +kernel
theorem dX10_isWord_47 : decode cX10_isWord 47 = .ok (.aload_n 1, 1) := by decide +kernel
theorem dX10_isWord_48 : decode cX10_isWord 48 = .ok (.iload_n 2, 1) := by decide +kernel
theorem dX10_isWord_49 : decode cX10_isWord 49 = .ok (.invokevirtual 107, 3) := by decide +kernel
theorem dX10_isWord_52 : decode cX10_isWord 52 = .ok (.if_icmp .eq 5, 3) := by decide +kernel
theorem dX10_isWord_55 : decode cX10_isWord 55 = .ok (.iconst 0, 1) := by decide +kernel
theorem dX10_isWord_56 : decode cX10_isWord 56 = .ok (.ireturn, 1) := by decide +kernel
theorem dX10_isWord_57 : decode cX10_isWord 57 = .ok (.iinc 2 1, 3) := by decide +kernel
theorem dX10_isWord_60 : decode cX10_isWord 60 = .ok (.goto (-32), 3) := by decide +kernel
theorem dX10_isWord_63 : decode cX10_isWord 63 = .ok (.iconst 1, 1) := by decide +kernel
theorem dX10_isWord_64 : decode cX10_isWord 64 = .ok (.ireturn, 1) := by decide +kernel
theorem dX10_numberHere_0 : decode cX10_numberHere 0 = .ok (.aload_n 0, 1) := by decide +kernel
theorem dX10_numberHere_1 : decode cX10_numberHere 1 = .ok (.iconst 3, 1) := by decide +kernel
theorem dX10_numberHere_2 : decode cX10_numberHere 2 = .ok (.invokevirtual 98, 3) := by decide +kernel
theorem dX10_numberHere_5 : decode cX10_numberHere 5 = .ok (.ifCond .ne 11, 3) := by decide +kernel
theorem dX10_numberHere_8 : decode cX10_numberHere 8 = .ok (.aload_n 0, 1) := by decide +kernel
theorem dX10_numberHere_9 : decode cX10_numberHere 9 = .ok (.iconst 1, 1) := by decide +kernel
theorem dX10_numberHere_10 : decode cX10_numberHere 10 = .ok (.invokevirtual 95, 3) := by decide +kernel
theorem dX10_numberHere_13 : decode cX10_numberHere 13 = .ok (.goto 20, 3) := by decide +kernel
theorem dX10_numberHere_16 : decode cX10_numberHere 16 = .ok (.aload_n 0, 1) := by decide +kernel
theorem dX10_numberHere_17 : decode cX10_numberHere 17 = .ok (.getfield 89, 3) := by decide +kernel
theorem dX10_numberHere_20 : decode cX10_numberHere 20 = .ok (.iload_n 1, 1) := by decide +kernel
theorem dX10_numberHere_21 : decode cX10_numberHere 21 = .ok (.iload_n 2, 1) := by decide +kernel
theorem dX10_numberHere_22 : decode cX10_numberHere 22 = .ok (.invokestatic 69, 3) := by decide +kernel
theorem dX10_numberHere_25 : decode cX10_numberHere 25 = .ok (.ifCond .ne 8, 3) := by decide +kernel
theorem dX10_numberHere_28 : decode cX10_numberHere 28 = .ok (.aload_n 0, 1) := by decide +kernel
theorem dX10_numberHere_29 : decode cX10_numberHere 29 = .ok (.iconst 2, 1) := by decide +kernel
theorem dX10_numberHere_30 : decode cX10_numberHere 30 = .ok (.invokevirtual 95, 3) := by decide +kernel
theorem dX10_numberHere_33 : decode cX10_numberHere 33 = .ok (.aload_n 0, 1) := by decide +kernel
theorem dX10_numberHere_34 : decode cX10_numberHere 34 = .ok (.getfield 59, 3) := by decide +kernel
theorem dX10_numberHere_37 : decode cX10_numberHere 37 = .ok (.ifCond .le 7, 3) := by decide +kernel
theorem dX10_numberHere_40 : decode cX10_numberHere 40 = .ok (.iload_n 1, 1) := by decide +kernel
theorem dX10_numberHere_41 : decode cX10_numberHere 41 = .ok (.goto 7, 3) := by decide +kernel
theorem dX10_numberHere_44 : decode cX10_numberHere 44 = .ok (.aload_n 0, 1) := by decide +kernel
theorem dX10_numberHere_45 : decode cX10_numberHere 45 = .ok (.getfield 89, 3) := by decide +kernel
theorem dX10_numberHere_48 : decode cX10_numberHere 48 = .ok (.ireturn, 1) := by decide +kernel
theorem dX10_readNumber_0 : decode cX10_readNumber 0 = .ok (.aload_n 0, 1) := by decide +kernel
theorem dX10_readNumber_1 : decode cX10_readNumber 1 = .ok (.iload_n 1, 1) := by decide +kernel
theorem dX10_readNumber_2 : decode cX10_readNumber 2 = .ok (.iload_n 2, 1) := by decide +kernel
theorem dX10_readNumber_3 : decode cX10_readNumber 3 = .ok (.invokevirtual 111, 3) := by decide +kernel
theorem dX10_readNumber_6 : decode cX10_readNumber 6 = .ok (.istore_n 3, 1) := by decide +kernel
theorem dX10_readNumber_7 : decode cX10_readNumber 7 = .ok (.aload_n 0, 1) := by decide +kernel
theorem dX10_readNumber_8 : decode cX10_readNumber 8 = .ok (.invokevirtual 115, 3) := by decide +kernel
theorem dX10_readNumber_11 : decode cX10_readNumber 11 = .ok (.iload_n 3, 1) := by decide +kernel
theorem dX10_readNumber_12 : decode cX10_readNumber 12 = .ok (.ireturn, 1) := by decide +kernel
theorem dX10_begins_0 : decode cX10_begins 0 = .ok (.aload_n 0, 1) := by decide +kernel
theorem dX10_begins_1 : decode cX10_begins 1 = .ok (.getfield 9, 3) := by decide +kernel
theorem dX10_begins_4 : decode cX10_begins 4 = .ok (.iload_n 1, 1) := by decide +kernel
theorem dX10_begins_5 : decode cX10_begins 5 = .ok (.iaload, 1) := by decide +kernel
theorem dX10_begins_6 : decode cX10_begins 6 = .ok (.iload_n 2, 1) := by decide +kernel
theorem dX10_begins_7 : decode cX10_begins 7 = .ok (.if_icmp .ne 8, 3) := by decide +kernel
theorem dX10_begins_10 : decode cX10_begins 10 = .ok (.aload_n 0, 1) := by decide +kernel
theorem dX10_begins_11 : decode cX10_begins 11 = .ok (.iconst 4, 1) := by decide +kernel
theorem dX10_begins_12 : decode cX10_begins 12 = .ok (.invokevirtual 95, 3) := by decide +kernel
theorem dX10_begins_15 : decode cX10_begins 15 = .ok (.aload_n 0, 1) := by decide +kernel
theorem dX10_begins_16 : decode cX10_begins 16 = .ok (.invokevirtual 115, 3) := by decide +kernel
theorem dX10_begins_19 : decode cX10_begins 19 = .ok (.return_, 1) := by decide +kernel
theorem dX10_wishHere_0 : decode cX10_wishHere 0 = .ok (.aload_n 0, 1) := by decide +kernel
theorem dX10_wishHere_1 : decode cX10_wishHere 1 = .ok (.iconst 0, 1) := by decide +kernel
theorem dX10_wishHere_2 : decode cX10_wishHere 2 = .ok (.aload_n 0, 1) := by decide +kernel
theorem dX10_wishHere_3 : decode cX10_wishHere 3 = .ok (.getfield 9, 3) := by decide +kernel
theorem dX10_wishHere_6 : decode cX10_wishHere 6 = .ok (.iconst 4, 1) := by decide +kernel
theorem dX10_wishHere_7 : decode cX10_wishHere 7 = .ok (.iaload, 1) := by decide +kernel
theorem dX10_wishHere_8 : decode cX10_wishHere 8 = .ok (.iconst 1, 1) := by decide +kernel
theorem dX10_wishHere_9 : decode cX10_wishHere 9 = .ok (.isub, 1) := by decide +kernel
theorem dX10_wishHere_10 : decode cX10_wishHere 10 = .ok (.invokevirtual 111, 3) := by decide +kernel
theorem dX10_wishHere_13 : decode cX10_wishHere 13 = .ok (.ireturn, 1) := by decide +kernel
theorem dX10_personHere_0 : decode cX10_personHere 0 = .ok (.aload_n 0, 1) := by decide +kernel
theorem dX10_personHere_1 : decode cX10_personHere 1 = .ok (.iconst 0, 1) := by decide +kernel
theorem dX10_personHere_2 : decode cX10_personHere 2 = .ok (.aload_n 0, 1) := by decide +kernel
theorem dX10_personHere_3 : decode cX10_personHere 3 = .ok (.getfield 9, 3) := by decide +kernel
theorem dX10_personHere_6 : decode cX10_personHere 6 = .ok (.iconst 2, 1) := by decide +kernel
theorem dX10_personHere_7 : decode cX10_personHere 7 = .ok (.iaload, 1) := by decide +kernel
theorem dX10_personHere_8 : decode cX10_personHere 8 = .ok (.iconst 1, 1) := by decide +kernel
theorem dX10_personHere_9 : decode cX10_personHere 9 = .ok (.isub, 1) := by decide +kernel
theorem dX10_personHere_10 : decode cX10_personHere 10 = .ok (.invokevirtual 111, 3) := by decide +kernel
theorem dX10_personHere_13 : decode cX10_personHere 13 = .ok (.ireturn, 1) := by decide +kernel
theorem dX10_stallHere_0 : decode cX10_stallHere 0 = .ok (.aload_n 0, 1) := by decide +kernel
theorem dX10_stallHere_1 : decode cX10_stallHere 1 = .ok (.iconst 0, 1) := by decide +kernel
theorem dX10_stallHere_2 : decode cX10_stallHere 2 = .ok (.aload_n 0, 1) := by decide +kernel
theorem dX10_stallHere_3 : decode cX10_stallHere 3 = .ok (.getfield 9, 3) := by decide +kernel
theorem dX10_stallHere_6 : decode cX10_stallHere 6 = .ok (.iconst 3, 1) := by decide +kernel
theorem dX10_stallHere_7 : decode cX10_stallHere 7 = .ok (.iaload, 1) := by decide +kernel
theorem dX10_stallHere_8 : decode cX10_stallHere 8 = .ok (.iconst 1, 1) := by decide +kernel
theorem dX10_stallHere_9 : decode cX10_stallHere 9 = .ok (.isub, 1) := by decide +kernel
theorem dX10_stallHere_10 : decode cX10_stallHere 10 = .ok (.invokevirtual 111, 3) := by decide +kernel
theorem dX10_stallHere_13 : decode cX10_stallHere 13 = .ok (.ireturn, 1) := by decide +kernel
theorem dX10_isNamed_0 : decode cX10_isNamed 0 = .ok (.aload_n 0, 1) := by decide +kernel
theorem dX10_isNamed_1 : decode cX10_isNamed 1 = .ok (.getfield 9, 3) := by decide +kernel
theorem dX10_isNamed_4 : decode cX10_isNamed 4 = .ok (.iload_n 1, 1) := by decide +kernel
theorem dX10_isNamed_5 : decode cX10_isNamed 5 = .ok (.iaload, 1) := by decide +kernel
theorem dX10_isNamed_6 : decode cX10_isNamed 6 = .ok (.iload_n 2, 1) := by decide +kernel
theorem dX10_isNamed_7 : decode cX10_isNamed 7 = .ok (.if_icmp .eq 5, 3) := by decide +kernel
theorem dX10_isNamed_10 : decode cX10_isNamed 10 = .ok (.iconst 0, 1) := by decide +kernel
theorem dX10_isNamed_11 : decode cX10_isNamed 11 = .ok (.ireturn, 1) := by decide +kernel
theorem dX10_isNamed_12 : decode cX10_isNamed 12 = .ok (.iconst 0, 1) := by decide +kernel
theorem dX10_isNamed_13 : decode cX10_isNamed 13 = .ok (.istore_n 3, 1) := by decide +kernel
theorem dX10_isNamed_14 : decode cX10_isNamed 14 = .ok (.iload_n 3, 1) := by decide +kernel
theorem dX10_isNamed_15 : decode cX10_isNamed 15 = .ok (.iload_n 2, 1) := by decide +kernel
theorem dX10_isNamed_16 : decode cX10_isNamed 16 = .ok (.if_icmp .ge 35, 3) := by decide +kernel
theorem dX10_isNamed_19 : decode cX10_isNamed 19 = .ok (.aload_n 0, 1) := by decide +kernel
theorem dX10_isNamed_20 : decode cX10_isNamed 20 = .ok (.getfield 9, 3) := by decide +kernel
theorem dX10_isNamed_23 : decode cX10_isNamed 23 = .ok (.iload_n 1, 1) := by decide +kernel
theorem dX10_isNamed_24 : decode cX10_isNamed 24 = .ok (.iconst 1, 1) := by decide +kernel
theorem dX10_isNamed_25 : decode cX10_isNamed 25 = .ok (.iadd, 1) := by decide +kernel
theorem dX10_isNamed_26 : decode cX10_isNamed 26 = .ok (.iload_n 3, 1) := by decide +kernel
theorem dX10_isNamed_27 : decode cX10_isNamed 27 = .ok (.iadd, 1) := by decide +kernel
theorem dX10_isNamed_28 : decode cX10_isNamed 28 = .ok (.iaload, 1) := by decide +kernel
theorem dX10_isNamed_29 : decode cX10_isNamed 29 = .ok (.aload_n 0, 1) := by decide +kernel
theorem dX10_isNamed_30 : decode cX10_isNamed 30 = .ok (.getfield 26, 3) := by decide +kernel
theorem dX10_isNamed_33 : decode cX10_isNamed 33 = .ok (.aload_n 0, 1) := by decide +kernel
theorem dX10_isNamed_34 : decode cX10_isNamed 34 = .ok (.getfield 76, 3) := by decide +kernel
theorem dX10_isNamed_37 : decode cX10_isNamed 37 = .ok (.iload_n 3, 1) := by decide +kernel
theorem dX10_isNamed_38 : decode cX10_isNamed 38 = .ok (.iadd, 1) := by decide +kernel
theorem dX10_isNamed_39 : decode cX10_isNamed 39 = .ok (.baload, 1) := by decide +kernel
theorem dX10_isNamed_40 : decode cX10_isNamed 40 = .ok (.if_icmp .eq 5, 3) := by decide +kernel
theorem dX10_isNamed_43 : decode cX10_isNamed 43 = .ok (.iconst 0, 1) := by decide +kernel
theorem dX10_isNamed_44 : decode cX10_isNamed 44 = .ok (.ireturn, 1) := by decide +kernel
theorem dX10_isNamed_45 : decode cX10_isNamed 45 = .ok (.iinc 3 1, 3) := by decide +kernel
theorem dX10_isNamed_48 : decode cX10_isNamed 48 = .ok (.goto (-34), 3) := by decide +kernel
theorem dX10_isNamed_51 : decode cX10_isNamed 51 = .ok (.iconst 1, 1) := by decide +kernel
theorem dX10_isNamed_52 : decode cX10_isNamed 52 = .ok (.ireturn, 1) := by decide +kernel
theorem dX10_isTaken_0 : decode cX10_isTaken 0 = .ok (.iconst 0, 1) := by decide +kernel
theorem dX10_isTaken_1 : decode cX10_isTaken 1 = .ok (.istore 5, 2) := by decide +kernel
theorem dX10_isTaken_3 : decode cX10_isTaken 3 = .ok (.iload 5, 2) := by decide +kernel
theorem dX10_isTaken_5 : decode cX10_isTaken 5 = .ok (.iload_n 1, 1) := by decide +kernel
theorem dX10_isTaken_6 : decode cX10_isTaken 6 = .ok (.if_icmp .ge 40, 3) := by decide +kernel
theorem dX10_isTaken_9 : decode cX10_isTaken 9 = .ok (.iload 5, 2) := by decide +kernel
theorem dX10_isTaken_11 : decode cX10_isTaken 11 = .ok (.iload 4, 2) := by decide +kernel
theorem dX10_isTaken_13 : decode cX10_isTaken 13 = .ok (.if_icmp .eq 27, 3) := by decide +kernel
theorem dX10_isTaken_16 : decode cX10_isTaken 16 = .ok (.aload_n 0, 1) := by decide +kernel
theorem dX10_isTaken_17 : decode cX10_isTaken 17 = .ok (.iload_n 2, 1) := by decide +kernel
theorem dX10_isTaken_18 : decode cX10_isTaken 18 = .ok (.iload_n 3, 1) := by decide +kernel
theorem dX10_isTaken_19 : decode cX10_isTaken 19 = .ok (.iload 5, 2) := by decide +kernel
theorem dX10_isTaken_21 : decode cX10_isTaken 21 = .ok (.imul, 1) := by decide +kernel
theorem dX10_isTaken_22 : decode cX10_isTaken 22 = .ok (.iadd, 1) := by decide +kernel
theorem dX10_isTaken_23 : decode cX10_isTaken 23 = .ok (.aload_n 0, 1) := by decide +kernel
theorem dX10_isTaken_24 : decode cX10_isTaken 24 = .ok (.getfield 73, 3) := by decide +kernel
theorem dX10_isTaken_27 : decode cX10_isTaken 27 = .ok (.aload_n 0, 1) := by decide +kernel
theorem dX10_isTaken_28 : decode cX10_isTaken 28 = .ok (.getfield 76, 3) := by decide +kernel
theorem dX10_isTaken_31 : decode cX10_isTaken 31 = .ok (.isub, 1) := by decide +kernel
theorem dX10_isTaken_32 : decode cX10_isTaken 32 = .ok (.invokevirtual 118, 3) := by decide +kernel
theorem dX10_isTaken_35 : decode cX10_isTaken 35 = .ok (.ifCond .eq 5, 3) := by decide +kernel
theorem dX10_isTaken_38 : decode cX10_isTaken 38 = .ok (.iconst 1, 1) := by decide +kernel
theorem dX10_isTaken_39 : decode cX10_isTaken 39 = .ok (.ireturn, 1) := by decide +kernel
theorem dX10_isTaken_40 : decode cX10_isTaken 40 = .ok (.iinc 5 1, 3) := by decide +kernel
theorem dX10_isTaken_43 : decode cX10_isTaken 43 = .ok (.goto (-40), 3) := by decide +kernel
theorem dX10_isTaken_46 : decode cX10_isTaken 46 = .ok (.iconst 0, 1) := by decide +kernel
theorem dX10_isTaken_47 : decode cX10_isTaken 47 = .ok (.ireturn, 1) := by decide +kernel
theorem dX10_names_0 : decode cX10_names 0 = .ok (.aload_n 0, 1) := by decide +kernel
theorem dX10_names_1 : decode cX10_names 1 = .ok (.getfield 9, 3) := by decide +kernel
theorem dX10_names_4 : decode cX10_names 4 = .ok (.iload_n 1, 1) := by decide +kernel
theorem dX10_names_5 : decode cX10_names 5 = .ok (.aload_n 0, 1) := by decide +kernel
theorem dX10_names_6 : decode cX10_names 6 = .ok (.getfield 73, 3) := by decide +kernel
theorem dX10_names_9 : decode cX10_names 9 = .ok (.aload_n 0, 1) := by decide +kernel
theorem dX10_names_10 : decode cX10_names 10 = .ok (.getfield 76, 3) := by decide +kernel
theorem dX10_names_13 : decode cX10_names 13 = .ok (.isub, 1) := by decide +kernel
theorem dX10_names_14 : decode cX10_names 14 = .ok (.iastore, 1) := by decide +kernel
theorem dX10_names_15 : decode cX10_names 15 = .ok (.iconst 0, 1) := by decide +kernel
theorem dX10_names_16 : decode cX10_names 16 = .ok (.istore_n 2, 1) := by decide +kernel
theorem dX10_names_17 : decode cX10_names 17 = .ok (.iload_n 2, 1) := by decide +kernel
theorem dX10_names_18 : decode cX10_names 18 = .ok (.aload_n 0, 1) := by decide +kernel
theorem dX10_names_19 : decode cX10_names 19 = .ok (.getfield 73, 3) := by decide +kernel
theorem dX10_names_22 : decode cX10_names 22 = .ok (.aload_n 0, 1) := by decide +kernel
theorem dX10_names_23 : decode cX10_names 23 = .ok (.getfield 76, 3) := by decide +kernel
theorem dX10_names_26 : decode cX10_names 26 = .ok (.isub, 1) := by decide +kernel
theorem dX10_names_27 : decode cX10_names 27 = .ok (.if_icmp .ge 30, 3) := by decide +kernel
theorem dX10_names_30 : decode cX10_names 30 = .ok (.aload_n 0, 1) := by decide +kernel
theorem dX10_names_31 : decode cX10_names 31 = .ok (.getfield 9, 3) := by decide +kernel
theorem dX10_names_34 : decode cX10_names 34 = .ok (.iload_n 1, 1) := by decide +kernel
theorem dX10_names_35 : decode cX10_names 35 = .ok (.iconst 1, 1) := by decide +kernel
theorem dX10_names_36 : decode cX10_names 36 = .ok (.iadd, 1) := by decide +kernel
theorem dX10_names_37 : decode cX10_names 37 = .ok (.iload_n 2, 1) := by decide +kernel
theorem dX10_names_38 : decode cX10_names 38 = .ok (.iadd, 1) := by decide +kernel
theorem dX10_names_39 : decode cX10_names 39 = .ok (.aload_n 0, 1) := by decide +kernel
theorem dX10_names_40 : decode cX10_names 40 = .ok (.getfield 26, 3) := by decide +kernel
theorem dX10_names_43 : decode cX10_names 43 = .ok (.aload_n 0, 1) := by decide +kernel
theorem dX10_names_44 : decode cX10_names 44 = .ok (.getfield 76, 3) := by decide +kernel
theorem dX10_names_47 : decode cX10_names 47 = .ok (.iload_n 2, 1) := by decide +kernel
theorem dX10_names_48 : decode cX10_names 48 = .ok (.iadd, 1) := by decide +kernel
theorem dX10_names_49 : decode cX10_names 49 = .ok (.baload, 1) := by decide +kernel
theorem dX10_names_50 : decode cX10_names 50 = .ok (.iastore, 1) := by decide +kernel
theorem dX10_names_51 : decode cX10_names 51 = .ok (.iinc 2 1, 3) := by decide +kernel
theorem dX10_names_54 : decode cX10_names 54 = .ok (.goto (-37), 3) := by decide +kernel
theorem dX10_names_57 : decode cX10_names 57 = .ok (.return_, 1) := by decide +kernel
theorem dX10_looksAtName_0 : decode cX10_looksAtName 0 = .ok (.aload_n 0, 1) := by decide +kernel
theorem dX10_looksAtName_1 : decode cX10_looksAtName 1 = .ok (.iconst 2, 1) := by decide +kernel
theorem dX10_looksAtName_2 : decode cX10_looksAtName 2 = .ok (.invokevirtual 98, 3) := by decide +kernel
theorem dX10_looksAtName_5 : decode cX10_looksAtName 5 = .ok (.ifCond .ne 11, 3) := by decide +kernel
theorem dX10_looksAtName_8 : decode cX10_looksAtName 8 = .ok (.aload_n 0, 1) := by decide +kernel
theorem dX10_looksAtName_9 : decode cX10_looksAtName 9 = .ok (.iconst 1, 1) := by decide +kernel
theorem dX10_looksAtName_10 : decode cX10_looksAtName 10 = .ok (.invokevirtual 95, 3) := by decide +kernel
theorem dX10_looksAtName_13 : decode cX10_looksAtName 13 = .ok (.goto 22, 3) := by decide +kernel
theorem dX10_looksAtName_16 : decode cX10_looksAtName 16 = .ok (.aload_n 0, 1) := by decide +kernel
theorem dX10_looksAtName_17 : decode cX10_looksAtName 17 = .ok (.getfield 73, 3) := by decide +kernel
theorem dX10_looksAtName_20 : decode cX10_looksAtName 20 = .ok (.aload_n 0, 1) := by decide +kernel
theorem dX10_looksAtName_21 : decode cX10_looksAtName 21 = .ok (.getfield 76, 3) := by decide +kernel
theorem dX10_looksAtName_24 : decode cX10_looksAtName 24 = .ok (.isub, 1) := by decide +kernel
theorem dX10_looksAtName_25 : decode cX10_looksAtName 25 = .ok (.bipush 6, 2) := by decide +kernel
theorem dX10_looksAtName_27 : decode cX10_looksAtName 27 = .ok (.if_icmp .le 8, 3) := by decide +kernel
theorem dX10_looksAtName_30 : decode cX10_looksAtName 30 = .ok (.aload_n 0, 1) := by decide +kernel
theorem dX10_looksAtName_31 : decode cX10_looksAtName 31 = .ok (.iconst 2, 1) := by decide +kernel
theorem dX10_looksAtName_32 : decode cX10_looksAtName 32 = .ok (.invokevirtual 95, 3) := by decide +kernel
theorem dX10_looksAtName_35 : decode cX10_looksAtName 35 = .ok (.return_, 1) := by decide +kernel
theorem dX10_readsStall_0 : decode cX10_readsStall 0 = .ok (.aload_n 0, 1) := by decide +kernel
theorem dX10_readsStall_1 : decode cX10_readsStall 1 = .ok (.iconst 3, 1) := by decide +kernel
theorem dX10_readsStall_2 : decode cX10_readsStall 2 = .ok (.iconst 5, 1) := by decide +kernel
theorem dX10_readsStall_3 : decode cX10_readsStall 3 = .ok (.invokevirtual 122, 3) := by decide +kernel
theorem dX10_readsStall_6 : decode cX10_readsStall 6 = .ok (.aload_n 0, 1) := by decide +kernel
theorem dX10_readsStall_7 : decode cX10_readsStall 7 = .ok (.iconst 1, 1) := by decide +kernel
theorem dX10_readsStall_8 : decode cX10_readsStall 8 = .ok (.bipush 8, 2) := by decide +kernel
theorem dX10_readsStall_10 : decode cX10_readsStall 10 = .ok (.invokevirtual 126, 3) := by decide +kernel
theorem dX10_readsStall_13 : decode cX10_readsStall 13 = .ok (.istore_n 1, 1) := by decide +kernel
theorem dX10_readsStall_14 : decode cX10_readsStall 14 = .ok (.aload_n 0, 1) := by decide +kernel
theorem dX10_readsStall_15 : decode cX10_readsStall 15 = .ok (.iconst 0, 1) := by decide +kernel
theorem dX10_readsStall_16 : decode cX10_readsStall 16 = .ok (.sipush 999, 3) := by decide +kernel
theorem dX10_readsStall_19 : decode cX10_readsStall 19 = .ok (.invokevirtual 126, 3) := by decide +kernel
theorem dX10_readsStall_22 : decode cX10_readsStall 22 = .ok (.istore_n 2, 1) := by decide +kernel
theorem dX10_readsStall_23 : decode cX10_readsStall 23 = .ok (.aload_n 0, 1) := by decide +kernel
theorem dX10_readsStall_24 : decode cX10_readsStall 24 = .ok (.iconst 0, 1) := by decide +kernel
theorem dX10_readsStall_25 : decode cX10_readsStall 25 = .ok (.bipush 50, 2) := by decide +kernel
theorem dX10_readsStall_27 : decode cX10_readsStall 27 = .ok (.invokevirtual 126, 3) := by decide +kernel
theorem dX10_readsStall_30 : decode cX10_readsStall 30 = .ok (.istore_n 3, 1) := by decide +kernel
theorem dX10_readsStall_31 : decode cX10_readsStall 31 = .ok (.aload_n 0, 1) := by decide +kernel
theorem dX10_readsStall_32 : decode cX10_readsStall 32 = .ok (.iconst 0, 1) := by decide +kernel
theorem dX10_readsStall_33 : decode cX10_readsStall 33 = .ok (.bipush 100, 2) := by decide +kernel
theorem dX10_readsStall_35 : decode cX10_readsStall 35 = .ok (.invokevirtual 126, 3) := by decide +kernel
theorem dX10_readsStall_38 : decode cX10_readsStall 38 = .ok (.istore 4, 2) := by decide +kernel
theorem dX10_readsStall_40 : decode cX10_readsStall 40 = .ok (.aload_n 0, 1) := by decide +kernel
theorem dX10_readsStall_41 : decode cX10_readsStall 41 = .ok (.getfield 59, 3) := by decide +kernel
theorem dX10_readsStall_44 : decode cX10_readsStall 44 = .ok (.ifCond .le 4, 3) := by decide +kernel
theorem dX10_readsStall_47 : decode cX10_readsStall 47 = .ok (.return_, 1) := by decide +kernel
theorem dX10_readsStall_48 : decode cX10_readsStall 48 = .ok (.aload_n 0, 1) := by decide +kernel
theorem dX10_readsStall_49 : decode cX10_readsStall 49 = .ok (.getfield 9, 3) := by decide +kernel
theorem dX10_readsStall_52 : decode cX10_readsStall 52 = .ok (.iconst 3, 1) := by decide +kernel
theorem dX10_readsStall_53 : decode cX10_readsStall 53 = .ok (.iaload, 1) := by decide +kernel
theorem dX10_readsStall_54 : decode cX10_readsStall 54 = .ok (.istore 5, 2) := by decide +kernel
theorem dX10_readsStall_56 : decode cX10_readsStall 56 = .ok (.aload_n 0, 1) := by decide +kernel
theorem dX10_readsStall_57 : decode cX10_readsStall 57 = .ok (.getfield 9, 3) := by decide +kernel
theorem dX10_readsStall_60 : decode cX10_readsStall 60 = .ok (.iconst 3, 1) := by decide +kernel
theorem dX10_readsStall_61 : decode cX10_readsStall 61 = .ok (.dup2, 1) := by decide +kernel
theorem dX10_readsStall_62 : decode cX10_readsStall 62 = .ok (.iaload, 1) := by decide +kernel
theorem dX10_readsStall_63 : decode cX10_readsStall 63 = .ok (.iconst 1, 1) := by decide +kernel
theorem dX10_readsStall_64 : decode cX10_readsStall 64 = .ok (.iadd, 1) := by decide +kernel
theorem dX10_readsStall_65 : decode cX10_readsStall 65 = .ok (.iastore, 1) := by decide +kernel
theorem dX10_readsStall_66 : decode cX10_readsStall 66 = .ok (.aload_n 0, 1) := by decide +kernel
theorem dX10_readsStall_67 : decode cX10_readsStall 67 = .ok (.iload 5, 2) := by decide +kernel
theorem dX10_readsStall_69 : decode cX10_readsStall 69 = .ok (.iconst 0, 1) := by decide +kernel
theorem dX10_readsStall_70 : decode cX10_readsStall 70 = .ok (.iload_n 1, 1) := by decide +kernel
theorem dX10_readsStall_71 : decode cX10_readsStall 71 = .ok (.invokevirtual 129, 3) := by decide +kernel
theorem dX10_readsStall_74 : decode cX10_readsStall 74 = .ok (.aload_n 0, 1) := by decide +kernel
theorem dX10_readsStall_75 : decode cX10_readsStall 75 = .ok (.iload 5, 2) := by decide +kernel
theorem dX10_readsStall_77 : decode cX10_readsStall 77 = .ok (.iconst 1, 1) := by decide +kernel
theorem dX10_readsStall_78 : decode cX10_readsStall 78 = .ok (.iload_n 2, 1) := by decide +kernel
theorem dX10_readsStall_79 : decode cX10_readsStall 79 = .ok (.invokevirtual 129, 3) := by decide +kernel
theorem dX10_readsStall_82 : decode cX10_readsStall 82 = .ok (.aload_n 0, 1) := by decide +kernel
theorem dX10_readsStall_83 : decode cX10_readsStall 83 = .ok (.iload 5, 2) := by decide +kernel
theorem dX10_readsStall_85 : decode cX10_readsStall 85 = .ok (.iconst 2, 1) := by decide +kernel
theorem dX10_readsStall_86 : decode cX10_readsStall 86 = .ok (.iload_n 3, 1) := by decide +kernel
theorem dX10_readsStall_87 : decode cX10_readsStall 87 = .ok (.invokevirtual 129, 3) := by decide +kernel
theorem dX10_readsStall_90 : decode cX10_readsStall 90 = .ok (.aload_n 0, 1) := by decide +kernel
theorem dX10_readsStall_91 : decode cX10_readsStall 91 = .ok (.iload 5, 2) := by decide +kernel
theorem dX10_readsStall_93 : decode cX10_readsStall 93 = .ok (.iconst 3, 1) := by decide +kernel
theorem dX10_readsStall_94 : decode cX10_readsStall 94 = .ok (.iload 4, 2) := by decide +kernel
theorem dX10_readsStall_96 : decode cX10_readsStall 96 = .ok (.invokevirtual 129, 3) := by decide +kernel
theorem dX10_readsStall_99 : decode cX10_readsStall 99 = .ok (.aload_n 0, 1) := by decide +kernel
theorem dX10_readsStall_100 : decode cX10_readsStall 100 = .ok (.getfield 9, 3) := by decide +kernel
theorem dX10_readsStall_103 : decode cX10_readsStall 103 = .ok (.bipush 7, 2) := by decide +kernel
theorem dX10_readsStall_105 : decode cX10_readsStall 105 = .ok (.dup2, 1) := by decide +kernel
theorem dX10_readsStall_106 : decode cX10_readsStall 106 = .ok (.iaload, 1) := by decide +kernel
theorem dX10_readsStall_107 : decode cX10_readsStall 107 = .ok (.iload_n 2, 1) := by decide +kernel
theorem dX10_readsStall_108 : decode cX10_readsStall 108 = .ok (.iadd, 1) := by decide +kernel
theorem dX10_readsStall_109 : decode cX10_readsStall 109 = .ok (.iastore, 1) := by decide +kernel
theorem dX10_readsStall_110 : decode cX10_readsStall 110 = .ok (.return_, 1) := by decide +kernel
theorem dX10_readsHabits_0 : decode cX10_readsHabits 0 = .ok (.aload_n 0, 1) := by decide +kernel
theorem dX10_readsHabits_1 : decode cX10_readsHabits 1 = .ok (.ldc 133, 2) := by decide +kernel
theorem dX10_readsHabits_3 : decode cX10_readsHabits 3 = .ok (.invokevirtual 135, 3) := by decide +kernel
theorem dX10_readsHabits_6 : decode cX10_readsHabits 6 = .ok (.ifCond .ne 12, 3) := by decide +kernel
theorem dX10_readsHabits_9 : decode cX10_readsHabits 9 = .ok (.aload_n 0, 1) := by decide +kernel
theorem dX10_readsHabits_10 : decode cX10_readsHabits 10 = .ok (.ldc 139, 2) := by decide +kernel
theorem dX10_readsHabits_12 : decode cX10_readsHabits 12 = .ok (.invokevirtual 135, 3) := by decide +kernel
theorem dX10_readsHabits_15 : decode cX10_readsHabits 15 = .ok (.ifCond .eq 48, 3) := by decide +kernel
theorem dX10_readsHabits_18 : decode cX10_readsHabits 18 = .ok (.aload_n 0, 1) := by decide +kernel
theorem dX10_readsHabits_19 : decode cX10_readsHabits 19 = .ok (.ldc 133, 2) := by decide +kernel
theorem dX10_readsHabits_21 : decode cX10_readsHabits 21 = .ok (.invokevirtual 135, 3) := by decide +kernel
theorem dX10_readsHabits_24 : decode cX10_readsHabits 24 = .ok (.ifCond .eq 7, 3) := by decide +kernel
theorem dX10_readsHabits_27 : decode cX10_readsHabits 27 = .ok (.iconst 5, 1) := by decide +kernel
theorem dX10_readsHabits_28 : decode cX10_readsHabits 28 = .ok (.goto 5, 3) := by decide +kernel
theorem dX10_readsHabits_31 : decode cX10_readsHabits 31 = .ok (.bipush 6, 2) := by decide +kernel
theorem dX10_readsHabits_33 : decode cX10_readsHabits 33 = .ok (.istore_n 2, 1) := by decide +kernel
theorem dX10_readsHabits_34 : decode cX10_readsHabits 34 = .ok (.aload_n 0, 1) := by decide +kernel
theorem dX10_readsHabits_35 : decode cX10_readsHabits 35 = .ok (.iload_n 1, 1) := by decide +kernel
theorem dX10_readsHabits_36 : decode cX10_readsHabits 36 = .ok (.iload_n 2, 1) := by decide +kernel
theorem dX10_readsHabits_37 : decode cX10_readsHabits 37 = .ok (.invokevirtual 141, 3) := by decide +kernel
theorem dX10_readsHabits_40 : decode cX10_readsHabits 40 = .ok (.iconst 1, 1) := by decide +kernel
theorem dX10_readsHabits_41 : decode cX10_readsHabits 41 = .ok (.if_icmp .ne 8, 3) := by decide +kernel
theorem dX10_readsHabits_44 : decode cX10_readsHabits 44 = .ok (.aload_n 0, 1) := by decide +kernel
theorem dX10_readsHabits_45 : decode cX10_readsHabits 45 = .ok (.iconst 3, 1) := by decide +kernel
theorem dX10_readsHabits_46 : decode cX10_readsHabits 46 = .ok (.invokevirtual 95, 3) := by decide +kernel
theorem dX10_readsHabits_49 : decode cX10_readsHabits 49 = .ok (.aload_n 0, 1) := by decide +kernel
theorem dX10_readsHabits_50 : decode cX10_readsHabits 50 = .ok (.iload_n 1, 1) := by decide +kernel
theorem dX10_readsHabits_51 : decode cX10_readsHabits 51 = .ok (.iload_n 2, 1) := by decide +kernel
theorem dX10_readsHabits_52 : decode cX10_readsHabits 52 = .ok (.iconst 1, 1) := by decide +kernel
theorem dX10_readsHabits_53 : decode cX10_readsHabits 53 = .ok (.invokevirtual 144, 3) := by decide +kernel
theorem dX10_readsHabits_56 : decode cX10_readsHabits 56 = .ok (.aload_n 0, 1) := by decide +kernel
theorem dX10_readsHabits_57 : decode cX10_readsHabits 57 = .ok (.invokevirtual 115, 3) := by decide +kernel
theorem dX10_readsHabits_60 : decode cX10_readsHabits 60 = .ok (.goto (-60), 3) := by decide +kernel
theorem dX10_readsHabits_63 : decode cX10_readsHabits 63 = .ok (.return_, 1) := by decide +kernel
theorem dX10_readsPerson_0 : decode cX10_readsPerson 0 = .ok (.aload_n 0, 1) := by decide +kernel
theorem dX10_readsPerson_1 : decode cX10_readsPerson 1 = .ok (.iconst 2, 1) := by decide +kernel
theorem dX10_readsPerson_2 : decode cX10_readsPerson 2 = .ok (.bipush 6, 2) := by decide +kernel
theorem dX10_readsPerson_4 : decode cX10_readsPerson 4 = .ok (.invokevirtual 122, 3) := by decide +kernel
theorem dX10_readsPerson_7 : decode cX10_readsPerson 7 = .ok (.aload_n 0, 1) := by decide +kernel
theorem dX10_readsPerson_8 : decode cX10_readsPerson 8 = .ok (.getfield 9, 3) := by decide +kernel
theorem dX10_readsPerson_11 : decode cX10_readsPerson 11 = .ok (.iconst 2, 1) := by decide +kernel
theorem dX10_readsPerson_12 : decode cX10_readsPerson 12 = .ok (.iaload, 1) := by decide +kernel
theorem dX10_readsPerson_13 : decode cX10_readsPerson 13 = .ok (.istore_n 1, 1) := by decide +kernel
theorem dX10_readsPerson_14 : decode cX10_readsPerson 14 = .ok (.aload_n 0, 1) := by decide +kernel
theorem dX10_readsPerson_15 : decode cX10_readsPerson 15 = .ok (.invokevirtual 147, 3) := by decide +kernel
theorem dX10_readsPerson_18 : decode cX10_readsPerson 18 = .ok (.aload_n 0, 1) := by decide +kernel
theorem dX10_readsPerson_19 : decode cX10_readsPerson 19 = .ok (.aload_n 0, 1) := by decide +kernel
theorem dX10_readsPerson_20 : decode cX10_readsPerson 20 = .ok (.iload_n 1, 1) := by decide +kernel
theorem dX10_readsPerson_21 : decode cX10_readsPerson 21 = .ok (.bipush 18, 2) := by decide +kernel
theorem dX10_readsPerson_23 : decode cX10_readsPerson 23 = .ok (.bipush 14, 2) := by decide +kernel
theorem dX10_readsPerson_25 : decode cX10_readsPerson 25 = .ok (.iconst (-1), 1) := by decide +kernel
theorem dX10_readsPerson_26 : decode cX10_readsPerson 26 = .ok (.invokevirtual 150, 3) := by decide +kernel
theorem dX10_readsPerson_29 : decode cX10_readsPerson 29 = .ok (.invokevirtual 154, 3) := by decide +kernel
theorem dX10_readsPerson_32 : decode cX10_readsPerson 32 = .ok (.aload_n 0, 1) := by decide +kernel
theorem dX10_readsPerson_33 : decode cX10_readsPerson 33 = .ok (.getfield 59, 3) := by decide +kernel
theorem dX10_readsPerson_36 : decode cX10_readsPerson 36 = .ok (.ifCond .le 4, 3) := by decide +kernel
theorem dX10_readsPerson_39 : decode cX10_readsPerson 39 = .ok (.return_, 1) := by decide +kernel
theorem dX10_readsPerson_40 : decode cX10_readsPerson 40 = .ok (.iconst 0, 1) := by decide +kernel
theorem dX10_readsPerson_41 : decode cX10_readsPerson 41 = .ok (.istore_n 2, 1) := by decide +kernel
theorem dX10_readsPerson_42 : decode cX10_readsPerson 42 = .ok (.iload_n 2, 1) := by decide +kernel
theorem dX10_readsPerson_43 : decode cX10_readsPerson 43 = .ok (.bipush 14, 2) := by decide +kernel
theorem dX10_readsPerson_45 : decode cX10_readsPerson 45 = .ok (.if_icmp .ge 16, 3) := by decide +kernel
theorem dX10_readsPerson_48 : decode cX10_readsPerson 48 = .ok (.aload_n 0, 1) := by decide +kernel
theorem dX10_readsPerson_49 : decode cX10_readsPerson 49 = .ok (.iload_n 1, 1) := by decide +kernel
theorem dX10_readsPerson_50 : decode cX10_readsPerson 50 = .ok (.iload_n 2, 1) := by decide +kernel
theorem dX10_readsPerson_51 : decode cX10_readsPerson 51 = .ok (.iconst 0, 1) := by decide +kernel
theorem dX10_readsPerson_52 : decode cX10_readsPerson 52 = .ok (.invokevirtual 144, 3) := by decide +kernel
theorem dX10_readsPerson_55 : decode cX10_readsPerson 55 = .ok (.iinc 2 1, 3) := by decide +kernel
theorem dX10_readsPerson_58 : decode cX10_readsPerson 58 = .ok (.goto (-16), 3) := by decide +kernel
theorem dX10_readsPerson_61 : decode cX10_readsPerson 61 = .ok (.aload_n 0, 1) := by decide +kernel
theorem dX10_readsPerson_62 : decode cX10_readsPerson 62 = .ok (.bipush 11, 2) := by decide +kernel
theorem dX10_readsPerson_64 : decode cX10_readsPerson 64 = .ok (.bipush 14, 2) := by decide +kernel
theorem dX10_readsPerson_66 : decode cX10_readsPerson 66 = .ok (.iload_n 1, 1) := by decide +kernel
theorem dX10_readsPerson_67 : decode cX10_readsPerson 67 = .ok (.imul, 1) := by decide +kernel
theorem dX10_readsPerson_68 : decode cX10_readsPerson 68 = .ok (.iadd, 1) := by decide +kernel
theorem dX10_readsPerson_69 : decode cX10_readsPerson 69 = .ok (.bipush 7, 2) := by decide +kernel
theorem dX10_readsPerson_71 : decode cX10_readsPerson 71 = .ok (.iadd, 1) := by decide +kernel
theorem dX10_readsPerson_72 : decode cX10_readsPerson 72 = .ok (.invokevirtual 158, 3) := by decide +kernel
theorem dX10_readsPerson_75 : decode cX10_readsPerson 75 = .ok (.aload_n 0, 1) := by decide +kernel
theorem dX10_readsPerson_76 : decode cX10_readsPerson 76 = .ok (.invokevirtual 115, 3) := by decide +kernel
theorem dX10_readsPerson_79 : decode cX10_readsPerson 79 = .ok (.aload_n 0, 1) := by decide +kernel
theorem dX10_readsPerson_80 : decode cX10_readsPerson 80 = .ok (.iload_n 1, 1) := by decide +kernel
theorem dX10_readsPerson_81 : decode cX10_readsPerson 81 = .ok (.iconst 0, 1) := by decide +kernel
theorem dX10_readsPerson_82 : decode cX10_readsPerson 82 = .ok (.aload_n 0, 1) := by decide +kernel
theorem dX10_readsPerson_83 : decode cX10_readsPerson 83 = .ok (.iconst 0, 1) := by decide +kernel
theorem dX10_readsPerson_84 : decode cX10_readsPerson 84 = .ok (.sipush 999, 3) := by decide +kernel
theorem dX10_readsPerson_87 : decode cX10_readsPerson 87 = .ok (.invokevirtual 126, 3) := by decide +kernel
theorem dX10_readsPerson_90 : decode cX10_readsPerson 90 = .ok (.invokevirtual 144, 3) := by decide +kernel
theorem dX10_readsPerson_93 : decode cX10_readsPerson 93 = .ok (.aload_n 0, 1) := by decide +kernel
theorem dX10_readsPerson_94 : decode cX10_readsPerson 94 = .ok (.iload_n 1, 1) := by decide +kernel
theorem dX10_readsPerson_95 : decode cX10_readsPerson 95 = .ok (.iconst 1, 1) := by decide +kernel
theorem dX10_readsPerson_96 : decode cX10_readsPerson 96 = .ok (.aload_n 0, 1) := by decide +kernel
theorem dX10_readsPerson_97 : decode cX10_readsPerson 97 = .ok (.iconst 0, 1) := by decide +kernel
theorem dX10_readsPerson_98 : decode cX10_readsPerson 98 = .ok (.aload_n 0, 1) := by decide +kernel
theorem dX10_readsPerson_99 : decode cX10_readsPerson 99 = .ok (.getfield 9, 3) := by decide +kernel
theorem dX10_readsPerson_102 : decode cX10_readsPerson 102 = .ok (.iconst 0, 1) := by decide +kernel
theorem dX10_readsPerson_103 : decode cX10_readsPerson 103 = .ok (.iaload, 1) := by decide +kernel
theorem dX10_readsPerson_104 : decode cX10_readsPerson 104 = .ok (.iconst 1, 1) := by decide +kernel
theorem dX10_readsPerson_105 : decode cX10_readsPerson 105 = .ok (.isub, 1) := by decide +kernel
theorem dX10_readsPerson_106 : decode cX10_readsPerson 106 = .ok (.invokevirtual 126, 3) := by decide +kernel
theorem dX10_readsPerson_109 : decode cX10_readsPerson 109 = .ok (.invokevirtual 144, 3) := by decide +kernel
theorem dX10_readsPerson_112 : decode cX10_readsPerson 112 = .ok (.aload_n 0, 1) := by decide +kernel
theorem dX10_readsPerson_113 : decode cX10_readsPerson 113 = .ok (.iload_n 1, 1) := by decide +kernel
theorem dX10_readsPerson_114 : decode cX10_readsPerson 114 = .ok (.iconst 2, 1) := by decide +kernel
theorem dX10_readsPerson_115 : decode cX10_readsPerson 115 = .ok (.aload_n 0, 1) := by decide +kernel
theorem dX10_readsPerson_116 : decode cX10_readsPerson 116 = .ok (.iconst 0, 1) := by decide +kernel
theorem dX10_readsPerson_117 : decode cX10_readsPerson 117 = .ok (.bipush 99, 2) := by decide +kernel
theorem dX10_readsPerson_119 : decode cX10_readsPerson 119 = .ok (.invokevirtual 126, 3) := by decide +kernel
theorem dX10_readsPerson_122 : decode cX10_readsPerson 122 = .ok (.invokevirtual 144, 3) := by decide +kernel
theorem dX10_readsPerson_125 : decode cX10_readsPerson 125 = .ok (.aload_n 0, 1) := by decide +kernel
theorem dX10_readsPerson_126 : decode cX10_readsPerson 126 = .ok (.iload_n 1, 1) := by decide +kernel
theorem dX10_readsPerson_127 : decode cX10_readsPerson 127 = .ok (.invokevirtual 161, 3) := by decide +kernel
theorem dX10_readsPerson_130 : decode cX10_readsPerson 130 = .ok (.aload_n 0, 1) := by decide +kernel
theorem dX10_readsPerson_131 : decode cX10_readsPerson 131 = .ok (.getfield 9, 3) := by decide +kernel
theorem dX10_readsPerson_134 : decode cX10_readsPerson 134 = .ok (.iconst 2, 1) := by decide +kernel
theorem dX10_readsPerson_135 : decode cX10_readsPerson 135 = .ok (.dup2, 1) := by decide +kernel
theorem dX10_readsPerson_136 : decode cX10_readsPerson 136 = .ok (.iaload, 1) := by decide +kernel
theorem dX10_readsPerson_137 : decode cX10_readsPerson 137 = .ok (.iconst 1, 1) := by decide +kernel
theorem dX10_readsPerson_138 : decode cX10_readsPerson 138 = .ok (.iadd, 1) := by decide +kernel
theorem dX10_readsPerson_139 : decode cX10_readsPerson 139 = .ok (.iastore, 1) := by decide +kernel
theorem dX10_readsPerson_140 : decode cX10_readsPerson 140 = .ok (.aload_n 0, 1) := by decide +kernel
theorem dX10_readsPerson_141 : decode cX10_readsPerson 141 = .ok (.getfield 9, 3) := by decide +kernel
theorem dX10_readsPerson_144 : decode cX10_readsPerson 144 = .ok (.bipush 7, 2) := by decide +kernel
theorem dX10_readsPerson_146 : decode cX10_readsPerson 146 = .ok (.dup2, 1) := by decide +kernel
theorem dX10_readsPerson_147 : decode cX10_readsPerson 147 = .ok (.iaload, 1) := by decide +kernel
theorem dX10_readsPerson_148 : decode cX10_readsPerson 148 = .ok (.aload_n 0, 1) := by decide +kernel
theorem dX10_readsPerson_149 : decode cX10_readsPerson 149 = .ok (.iload_n 1, 1) := by decide +kernel
theorem dX10_readsPerson_150 : decode cX10_readsPerson 150 = .ok (.iconst 0, 1) := by decide +kernel
theorem dX10_readsPerson_151 : decode cX10_readsPerson 151 = .ok (.invokevirtual 141, 3) := by decide +kernel
theorem dX10_readsPerson_154 : decode cX10_readsPerson 154 = .ok (.iadd, 1) := by decide +kernel
theorem dX10_readsPerson_155 : decode cX10_readsPerson 155 = .ok (.iastore, 1) := by decide +kernel
theorem dX10_readsPerson_156 : decode cX10_readsPerson 156 = .ok (.return_, 1) := by decide +kernel
theorem dX10_readsPlace_0 : decode cX10_readsPlace 0 = .ok (.aload_n 0, 1) := by decide +kernel
theorem dX10_readsPlace_1 : decode cX10_readsPlace 1 = .ok (.ldc 164, 2) := by decide +kernel
theorem dX10_readsPlace_3 : decode cX10_readsPlace 3 = .ok (.invokevirtual 135, 3) := by decide +kernel
theorem dX10_readsPlace_6 : decode cX10_readsPlace 6 = .ok (.istore_n 2, 1) := by decide +kernel
theorem dX10_readsPlace_7 : decode cX10_readsPlace 7 = .ok (.iload_n 2, 1) := by decide +kernel
theorem dX10_readsPlace_8 : decode cX10_readsPlace 8 = .ok (.ifCond .ne 17, 3) := by decide +kernel
theorem dX10_readsPlace_11 : decode cX10_readsPlace 11 = .ok (.aload_n 0, 1) := by decide +kernel
theorem dX10_readsPlace_12 : decode cX10_readsPlace 12 = .ok (.ldc 166, 2) := by decide +kernel
theorem dX10_readsPlace_14 : decode cX10_readsPlace 14 = .ok (.invokevirtual 135, 3) := by decide +kernel
theorem dX10_readsPlace_17 : decode cX10_readsPlace 17 = .ok (.ifCond .ne 8, 3) := by decide +kernel
theorem dX10_readsPlace_20 : decode cX10_readsPlace 20 = .ok (.aload_n 0, 1) := by decide +kernel
theorem dX10_readsPlace_21 : decode cX10_readsPlace 21 = .ok (.iconst 1, 1) := by decide +kernel
theorem dX10_readsPlace_22 : decode cX10_readsPlace 22 = .ok (.invokevirtual 95, 3) := by decide +kernel
theorem dX10_readsPlace_25 : decode cX10_readsPlace 25 = .ok (.aload_n 0, 1) := by decide +kernel
theorem dX10_readsPlace_26 : decode cX10_readsPlace 26 = .ok (.invokevirtual 115, 3) := by decide +kernel
theorem dX10_readsPlace_29 : decode cX10_readsPlace 29 = .ok (.iload_n 2, 1) := by decide +kernel
theorem dX10_readsPlace_30 : decode cX10_readsPlace 30 = .ok (.ifCond .eq 10, 3) := by decide +kernel
theorem dX10_readsPlace_33 : decode cX10_readsPlace 33 = .ok (.aload_n 0, 1) := by decide +kernel
theorem dX10_readsPlace_34 : decode cX10_readsPlace 34 = .ok (.invokevirtual 168, 3) := by decide +kernel
theorem dX10_readsPlace_37 : decode cX10_readsPlace 37 = .ok (.goto 7, 3) := by decide +kernel
theorem dX10_readsPlace_40 : decode cX10_readsPlace 40 = .ok (.aload_n 0, 1) := by decide +kernel
theorem dX10_readsPlace_41 : decode cX10_readsPlace 41 = .ok (.invokevirtual 171, 3) := by decide +kernel
theorem dX10_readsPlace_44 : decode cX10_readsPlace 44 = .ok (.istore_n 3, 1) := by decide +kernel
theorem dX10_readsPlace_45 : decode cX10_readsPlace 45 = .ok (.aload_n 0, 1) := by decide +kernel
theorem dX10_readsPlace_46 : decode cX10_readsPlace 46 = .ok (.iload_n 2, 1) := by decide +kernel
theorem dX10_readsPlace_47 : decode cX10_readsPlace 47 = .ok (.ifCond .eq 11, 3) := by decide +kernel
theorem dX10_readsPlace_50 : decode cX10_readsPlace 50 = .ok (.aload_n 0, 1) := by decide +kernel
theorem dX10_readsPlace_51 : decode cX10_readsPlace 51 = .ok (.iload_n 3, 1) := by decide +kernel
theorem dX10_readsPlace_52 : decode cX10_readsPlace 52 = .ok (.invokevirtual 174, 3) := by decide +kernel
theorem dX10_readsPlace_55 : decode cX10_readsPlace 55 = .ok (.goto 17, 3) := by decide +kernel
theorem dX10_readsPlace_58 : decode cX10_readsPlace 58 = .ok (.aload_n 0, 1) := by decide +kernel
theorem dX10_readsPlace_59 : decode cX10_readsPlace 59 = .ok (.iload_n 3, 1) := by decide +kernel
theorem dX10_readsPlace_60 : decode cX10_readsPlace 60 = .ok (.invokevirtual 177, 3) := by decide +kernel
theorem dX10_readsPlace_63 : decode cX10_readsPlace 63 = .ok (.iconst 4, 1) := by decide +kernel
theorem dX10_readsPlace_64 : decode cX10_readsPlace 64 = .ok (.if_icmp .ne 7, 3) := by decide +kernel
theorem dX10_readsPlace_67 : decode cX10_readsPlace 67 = .ok (.iconst 1, 1) := by decide +kernel
theorem dX10_readsPlace_68 : decode cX10_readsPlace 68 = .ok (.goto 4, 3) := by decide +kernel
theorem dX10_readsPlace_71 : decode cX10_readsPlace 71 = .ok (.iconst 0, 1) := by decide +kernel
theorem dX10_readsPlace_72 : decode cX10_readsPlace 72 = .ok (.invokevirtual 154, 3) := by decide +kernel
theorem dX10_readsPlace_75 : decode cX10_readsPlace 75 = .ok (.aload_n 0, 1) := by decide +kernel
theorem dX10_readsPlace_76 : decode cX10_readsPlace 76 = .ok (.invokevirtual 115, 3) := by decide +kernel
theorem dX10_readsPlace_79 : decode cX10_readsPlace 79 = .ok (.aload_n 0, 1) := by decide +kernel
theorem dX10_readsPlace_80 : decode cX10_readsPlace 80 = .ok (.iload_n 1, 1) := by decide +kernel
theorem dX10_readsPlace_81 : decode cX10_readsPlace 81 = .ok (.iconst 3, 1) := by decide +kernel
theorem dX10_readsPlace_82 : decode cX10_readsPlace 82 = .ok (.iload_n 2, 1) := by decide +kernel
theorem dX10_readsPlace_83 : decode cX10_readsPlace 83 = .ok (.ifCond .eq 7, 3) := by decide +kernel
theorem dX10_readsPlace_86 : decode cX10_readsPlace 86 = .ok (.iconst 0, 1) := by decide +kernel
theorem dX10_readsPlace_87 : decode cX10_readsPlace 87 = .ok (.goto 4, 3) := by decide +kernel
theorem dX10_readsPlace_90 : decode cX10_readsPlace 90 = .ok (.iconst 1, 1) := by decide +kernel
theorem dX10_readsPlace_91 : decode cX10_readsPlace 91 = .ok (.invokevirtual 180, 3) := by decide +kernel
theorem dX10_readsPlace_94 : decode cX10_readsPlace 94 = .ok (.aload_n 0, 1) := by decide +kernel
theorem dX10_readsPlace_95 : decode cX10_readsPlace 95 = .ok (.iload_n 1, 1) := by decide +kernel
theorem dX10_readsPlace_96 : decode cX10_readsPlace 96 = .ok (.iconst 4, 1) := by decide +kernel
theorem dX10_readsPlace_97 : decode cX10_readsPlace 97 = .ok (.iload_n 3, 1) := by decide +kernel
theorem dX10_readsPlace_98 : decode cX10_readsPlace 98 = .ok (.invokevirtual 180, 3) := by decide +kernel
theorem dX10_readsPlace_101 : decode cX10_readsPlace 101 = .ok (.return_, 1) := by decide +kernel
theorem dX10_readsWear_0 : decode cX10_readsWear 0 = .ok (.aload_n 0, 1) := by decide +kernel
theorem dX10_readsWear_1 : decode cX10_readsWear 1 = .ok (.ldc 183, 2) := by decide +kernel
theorem dX10_readsWear_3 : decode cX10_readsWear 3 = .ok (.invokevirtual 135, 3) := by decide +kernel
theorem dX10_readsWear_6 : decode cX10_readsWear 6 = .ok (.ifCond .ne 4, 3) := by decide +kernel
theorem dX10_readsWear_9 : decode cX10_readsWear 9 = .ok (.return_, 1) := by decide +kernel
theorem dX10_readsWear_10 : decode cX10_readsWear 10 = .ok (.aload_n 0, 1) := by decide +kernel
theorem dX10_readsWear_11 : decode cX10_readsWear 11 = .ok (.invokevirtual 115, 3) := by decide +kernel
theorem dX10_readsWear_14 : decode cX10_readsWear 14 = .ok (.aload_n 0, 1) := by decide +kernel
theorem dX10_readsWear_15 : decode cX10_readsWear 15 = .ok (.iload_n 1, 1) := by decide +kernel
theorem dX10_readsWear_16 : decode cX10_readsWear 16 = .ok (.iconst 2, 1) := by decide +kernel
theorem dX10_readsWear_17 : decode cX10_readsWear 17 = .ok (.aload_n 0, 1) := by decide +kernel
theorem dX10_readsWear_18 : decode cX10_readsWear 18 = .ok (.iconst 0, 1) := by decide +kernel
theorem dX10_readsWear_19 : decode cX10_readsWear 19 = .ok (.bipush 9, 2) := by decide +kernel
theorem dX10_readsWear_21 : decode cX10_readsWear 21 = .ok (.invokevirtual 126, 3) := by decide +kernel
theorem dX10_readsWear_24 : decode cX10_readsWear 24 = .ok (.invokevirtual 180, 3) := by decide +kernel
theorem dX10_readsWear_27 : decode cX10_readsWear 27 = .ok (.return_, 1) := by decide +kernel
theorem dX10_readsWish_0 : decode cX10_readsWish 0 = .ok (.aload_n 0, 1) := by decide +kernel
theorem dX10_readsWish_1 : decode cX10_readsWish 1 = .ok (.iconst 4, 1) := by decide +kernel
theorem dX10_readsWish_2 : decode cX10_readsWish 2 = .ok (.bipush 16, 2) := by decide +kernel
theorem dX10_readsWish_4 : decode cX10_readsWish 4 = .ok (.invokevirtual 122, 3) := by decide +kernel
theorem dX10_readsWish_7 : decode cX10_readsWish 7 = .ok (.aload_n 0, 1) := by decide +kernel
theorem dX10_readsWish_8 : decode cX10_readsWish 8 = .ok (.getfield 9, 3) := by decide +kernel
theorem dX10_readsWish_11 : decode cX10_readsWish 11 = .ok (.iconst 4, 1) := by decide +kernel
theorem dX10_readsWish_12 : decode cX10_readsWish 12 = .ok (.iaload, 1) := by decide +kernel
theorem dX10_readsWish_13 : decode cX10_readsWish 13 = .ok (.istore_n 1, 1) := by decide +kernel
theorem dX10_readsWish_14 : decode cX10_readsWish 14 = .ok (.aload_n 0, 1) := by decide +kernel
theorem dX10_readsWish_15 : decode cX10_readsWish 15 = .ok (.invokevirtual 147, 3) := by decide +kernel
theorem dX10_readsWish_18 : decode cX10_readsWish 18 = .ok (.aload_n 0, 1) := by decide +kernel
theorem dX10_readsWish_19 : decode cX10_readsWish 19 = .ok (.aload_n 0, 1) := by decide +kernel
theorem dX10_readsWish_20 : decode cX10_readsWish 20 = .ok (.iload_n 1, 1) := by decide +kernel
theorem dX10_readsWish_21 : decode cX10_readsWish 21 = .ok (.bipush 123, 2) := by decide +kernel
theorem dX10_readsWish_23 : decode cX10_readsWish 23 = .ok (.bipush 15, 2) := by decide +kernel
theorem dX10_readsWish_25 : decode cX10_readsWish 25 = .ok (.iconst (-1), 1) := by decide +kernel
theorem dX10_readsWish_26 : decode cX10_readsWish 26 = .ok (.invokevirtual 150, 3) := by decide +kernel
theorem dX10_readsWish_29 : decode cX10_readsWish 29 = .ok (.invokevirtual 154, 3) := by decide +kernel
theorem dX10_readsWish_32 : decode cX10_readsWish 32 = .ok (.aload_n 0, 1) := by decide +kernel
theorem dX10_readsWish_33 : decode cX10_readsWish 33 = .ok (.getfield 59, 3) := by decide +kernel
theorem dX10_readsWish_36 : decode cX10_readsWish 36 = .ok (.ifCond .le 4, 3) := by decide +kernel
theorem dX10_readsWish_39 : decode cX10_readsWish 39 = .ok (.return_, 1) := by decide +kernel
theorem dX10_readsWish_40 : decode cX10_readsWish 40 = .ok (.iconst 0, 1) := by decide +kernel
theorem dX10_readsWish_41 : decode cX10_readsWish 41 = .ok (.istore_n 2, 1) := by decide +kernel
theorem dX10_readsWish_42 : decode cX10_readsWish 42 = .ok (.iload_n 2, 1) := by decide +kernel
theorem dX10_readsWish_43 : decode cX10_readsWish 43 = .ok (.bipush 15, 2) := by decide +kernel
theorem dX10_readsWish_45 : decode cX10_readsWish 45 = .ok (.if_icmp .ge 16, 3) := by decide +kernel
theorem dX10_readsWish_48 : decode cX10_readsWish 48 = .ok (.aload_n 0, 1) := by decide +kernel
theorem dX10_readsWish_49 : decode cX10_readsWish 49 = .ok (.iload_n 1, 1) := by decide +kernel
theorem dX10_readsWish_50 : decode cX10_readsWish 50 = .ok (.iload_n 2, 1) := by decide +kernel
theorem dX10_readsWish_51 : decode cX10_readsWish 51 = .ok (.iconst 0, 1) := by decide +kernel
theorem dX10_readsWish_52 : decode cX10_readsWish 52 = .ok (.invokevirtual 180, 3) := by decide +kernel
theorem dX10_readsWish_55 : decode cX10_readsWish 55 = .ok (.iinc 2 1, 3) := by decide +kernel
theorem dX10_readsWish_58 : decode cX10_readsWish 58 = .ok (.goto (-16), 3) := by decide +kernel
theorem dX10_readsWish_61 : decode cX10_readsWish 61 = .ok (.aload_n 0, 1) := by decide +kernel
theorem dX10_readsWish_62 : decode cX10_readsWish 62 = .ok (.bipush 115, 2) := by decide +kernel
theorem dX10_readsWish_64 : decode cX10_readsWish 64 = .ok (.bipush 15, 2) := by decide +kernel
theorem dX10_readsWish_66 : decode cX10_readsWish 66 = .ok (.iload_n 1, 1) := by decide +kernel
theorem dX10_readsWish_67 : decode cX10_readsWish 67 = .ok (.imul, 1) := by decide +kernel
theorem dX10_readsWish_68 : decode cX10_readsWish 68 = .ok (.iadd, 1) := by decide +kernel
theorem dX10_readsWish_69 : decode cX10_readsWish 69 = .ok (.bipush 8, 2) := by decide +kernel
theorem dX10_readsWish_71 : decode cX10_readsWish 71 = .ok (.iadd, 1) := by decide +kernel
theorem dX10_readsWish_72 : decode cX10_readsWish 72 = .ok (.invokevirtual 158, 3) := by decide +kernel
theorem dX10_readsWish_75 : decode cX10_readsWish 75 = .ok (.aload_n 0, 1) := by decide +kernel
theorem dX10_readsWish_76 : decode cX10_readsWish 76 = .ok (.invokevirtual 115, 3) := by decide +kernel
theorem dX10_readsWish_79 : decode cX10_readsWish 79 = .ok (.aload_n 0, 1) := by decide +kernel
theorem dX10_readsWish_80 : decode cX10_readsWish 80 = .ok (.iload_n 1, 1) := by decide +kernel
theorem dX10_readsWish_81 : decode cX10_readsWish 81 = .ok (.iconst 0, 1) := by decide +kernel
theorem dX10_readsWish_82 : decode cX10_readsWish 82 = .ok (.aload_n 0, 1) := by decide +kernel
theorem dX10_readsWish_83 : decode cX10_readsWish 83 = .ok (.iconst 1, 1) := by decide +kernel
theorem dX10_readsWish_84 : decode cX10_readsWish 84 = .ok (.bipush 99, 2) := by decide +kernel
theorem dX10_readsWish_86 : decode cX10_readsWish 86 = .ok (.invokevirtual 126, 3) := by decide +kernel
theorem dX10_readsWish_89 : decode cX10_readsWish 89 = .ok (.invokevirtual 180, 3) := by decide +kernel
theorem dX10_readsWish_92 : decode cX10_readsWish 92 = .ok (.aload_n 0, 1) := by decide +kernel
theorem dX10_readsWish_93 : decode cX10_readsWish 93 = .ok (.iload_n 1, 1) := by decide +kernel
theorem dX10_readsWish_94 : decode cX10_readsWish 94 = .ok (.iconst 1, 1) := by decide +kernel
theorem dX10_readsWish_95 : decode cX10_readsWish 95 = .ok (.aload_n 0, 1) := by decide +kernel
theorem dX10_readsWish_96 : decode cX10_readsWish 96 = .ok (.iconst 0, 1) := by decide +kernel
theorem dX10_readsWish_97 : decode cX10_readsWish 97 = .ok (.bipush 99, 2) := by decide +kernel
theorem dX10_readsWish_99 : decode cX10_readsWish 99 = .ok (.invokevirtual 126, 3) := by decide +kernel
theorem dX10_readsWish_102 : decode cX10_readsWish 102 = .ok (.invokevirtual 180, 3) := by decide +kernel
theorem dX10_readsWish_105 : decode cX10_readsWish 105 = .ok (.aload_n 0, 1) := by decide +kernel
theorem dX10_readsWish_106 : decode cX10_readsWish 106 = .ok (.iload_n 1, 1) := by decide +kernel
theorem dX10_readsWish_107 : decode cX10_readsWish 107 = .ok (.invokevirtual 185, 3) := by decide +kernel
theorem dX10_readsWish_110 : decode cX10_readsWish 110 = .ok (.aload_n 0, 1) := by decide +kernel
theorem dX10_readsWish_111 : decode cX10_readsWish 111 = .ok (.iload_n 1, 1) := by decide +kernel
theorem dX10_readsWish_112 : decode cX10_readsWish 112 = .ok (.invokevirtual 188, 3) := by decide +kernel
theorem dX10_readsWish_115 : decode cX10_readsWish 115 = .ok (.aload_n 0, 1) := by decide +kernel
theorem dX10_readsWish_116 : decode cX10_readsWish 116 = .ok (.iload_n 1, 1) := by decide +kernel
theorem dX10_readsWish_117 : decode cX10_readsWish 117 = .ok (.invokevirtual 191, 3) := by decide +kernel
theorem dX10_readsWish_120 : decode cX10_readsWish 120 = .ok (.aload_n 0, 1) := by decide +kernel
theorem dX10_readsWish_121 : decode cX10_readsWish 121 = .ok (.getfield 9, 3) := by decide +kernel
theorem dX10_readsWish_124 : decode cX10_readsWish 124 = .ok (.iconst 4, 1) := by decide +kernel
theorem dX10_readsWish_125 : decode cX10_readsWish 125 = .ok (.dup2, 1) := by decide +kernel
theorem dX10_readsWish_126 : decode cX10_readsWish 126 = .ok (.iaload, 1) := by decide +kernel
theorem dX10_readsWish_127 : decode cX10_readsWish 127 = .ok (.iconst 1, 1) := by decide +kernel
theorem dX10_readsWish_128 : decode cX10_readsWish 128 = .ok (.iadd, 1) := by decide +kernel
theorem dX10_readsWish_129 : decode cX10_readsWish 129 = .ok (.iastore, 1) := by decide +kernel
theorem dX10_readsWish_130 : decode cX10_readsWish 130 = .ok (.return_, 1) := by decide +kernel
theorem dX10_readsSetting_0 : decode cX10_readsSetting 0 = .ok (.aload_n 0, 1) := by decide +kernel
theorem dX10_readsSetting_1 : decode cX10_readsSetting 1 = .ok (.invokevirtual 115, 3) := by decide +kernel
theorem dX10_readsSetting_4 : decode cX10_readsSetting 4 = .ok (.aload_n 0, 1) := by decide +kernel
theorem dX10_readsSetting_5 : decode cX10_readsSetting 5 = .ok (.iconst 0, 1) := by decide +kernel
theorem dX10_readsSetting_6 : decode cX10_readsSetting 6 = .ok (.iload_n 2, 1) := by decide +kernel
theorem dX10_readsSetting_7 : decode cX10_readsSetting 7 = .ok (.invokevirtual 126, 3) := by decide +kernel
theorem dX10_readsSetting_10 : decode cX10_readsSetting 10 = .ok (.istore_n 3, 1) := by decide +kernel
theorem dX10_readsSetting_11 : decode cX10_readsSetting 11 = .ok (.aload_n 0, 1) := by decide +kernel
theorem dX10_readsSetting_12 : decode cX10_readsSetting 12 = .ok (.getfield 59, 3) := by decide +kernel
theorem dX10_readsSetting_15 : decode cX10_readsSetting 15 = .ok (.ifCond .ne 10, 3) := by decide +kernel
theorem dX10_readsSetting_18 : decode cX10_readsSetting 18 = .ok (.aload_n 0, 1) := by decide +kernel
theorem dX10_readsSetting_19 : decode cX10_readsSetting 19 = .ok (.getfield 9, 3) := by decide +kernel
theorem dX10_readsSetting_22 : decode cX10_readsSetting 22 = .ok (.iload_n 1, 1) := by decide +kernel
theorem dX10_readsSetting_23 : decode cX10_readsSetting 23 = .ok (.iload_n 3, 1) := by decide +kernel
theorem dX10_readsSetting_24 : decode cX10_readsSetting 24 = .ok (.iastore, 1) := by decide +kernel
theorem dX10_readsSetting_25 : decode cX10_readsSetting 25 = .ok (.return_, 1) := by decide +kernel
theorem dX10_readsTax_0 : decode cX10_readsTax 0 = .ok (.aload_n 0, 1) := by decide +kernel
theorem dX10_readsTax_1 : decode cX10_readsTax 1 = .ok (.invokevirtual 115, 3) := by decide +kernel
theorem dX10_readsTax_4 : decode cX10_readsTax 4 = .ok (.aload_n 0, 1) := by decide +kernel
theorem dX10_readsTax_5 : decode cX10_readsTax 5 = .ok (.iconst 0, 1) := by decide +kernel
theorem dX10_readsTax_6 : decode cX10_readsTax 6 = .ok (.aload_n 0, 1) := by decide +kernel
theorem dX10_readsTax_7 : decode cX10_readsTax 7 = .ok (.getfield 9, 3) := by decide +kernel
theorem dX10_readsTax_10 : decode cX10_readsTax 10 = .ok (.iconst 0, 1) := by decide +kernel
theorem dX10_readsTax_11 : decode cX10_readsTax 11 = .ok (.iaload, 1) := by decide +kernel
theorem dX10_readsTax_12 : decode cX10_readsTax 12 = .ok (.iconst 1, 1) := by decide +kernel
theorem dX10_readsTax_13 : decode cX10_readsTax 13 = .ok (.isub, 1) := by decide +kernel
theorem dX10_readsTax_14 : decode cX10_readsTax 14 = .ok (.invokevirtual 126, 3) := by decide +kernel
theorem dX10_readsTax_17 : decode cX10_readsTax 17 = .ok (.istore_n 1, 1) := by decide +kernel
theorem dX10_readsTax_18 : decode cX10_readsTax 18 = .ok (.aload_n 0, 1) := by decide +kernel
theorem dX10_readsTax_19 : decode cX10_readsTax 19 = .ok (.iconst 0, 1) := by decide +kernel
theorem dX10_readsTax_20 : decode cX10_readsTax 20 = .ok (.bipush 50, 2) := by decide +kernel
theorem dX10_readsTax_22 : decode cX10_readsTax 22 = .ok (.invokevirtual 126, 3) := by decide +kernel
theorem dX10_readsTax_25 : decode cX10_readsTax 25 = .ok (.istore_n 2, 1) := by decide +kernel
theorem dX10_readsTax_26 : decode cX10_readsTax 26 = .ok (.aload_n 0, 1) := by decide +kernel
theorem dX10_readsTax_27 : decode cX10_readsTax 27 = .ok (.getfield 59, 3) := by decide +kernel
theorem dX10_readsTax_30 : decode cX10_readsTax 30 = .ok (.ifCond .le 4, 3) := by decide +kernel
theorem dX10_readsTax_33 : decode cX10_readsTax 33 = .ok (.return_, 1) := by decide +kernel
theorem dX10_readsTax_34 : decode cX10_readsTax 34 = .ok (.aload_n 0, 1) := by decide +kernel
theorem dX10_readsTax_35 : decode cX10_readsTax 35 = .ok (.getfield 9, 3) := by decide +kernel
theorem dX10_readsTax_38 : decode cX10_readsTax 38 = .ok (.bipush 9, 2) := by decide +kernel
theorem dX10_readsTax_40 : decode cX10_readsTax 40 = .ok (.iload_n 1, 1) := by decide +kernel
theorem dX10_readsTax_41 : decode cX10_readsTax 41 = .ok (.iastore, 1) := by decide +kernel
theorem dX10_readsTax_42 : decode cX10_readsTax 42 = .ok (.aload_n 0, 1) := by decide +kernel
theorem dX10_readsTax_43 : decode cX10_readsTax 43 = .ok (.getfield 9, 3) := by decide +kernel
theorem dX10_readsTax_46 : decode cX10_readsTax 46 = .ok (.bipush 10, 2) := by decide +kernel
theorem dX10_readsTax_48 : decode cX10_readsTax 48 = .ok (.iload_n 2, 1) := by decide +kernel
theorem dX10_readsTax_49 : decode cX10_readsTax 49 = .ok (.iastore, 1) := by decide +kernel
theorem dX10_readsTax_50 : decode cX10_readsTax 50 = .ok (.return_, 1) := by decide +kernel
theorem dX10_readsLimit_0 : decode cX10_readsLimit 0 = .ok (.aload_n 0, 1) := by decide +kernel
theorem dX10_readsLimit_1 : decode cX10_readsLimit 1 = .ok (.invokevirtual 115, 3) := by decide +kernel
theorem dX10_readsLimit_4 : decode cX10_readsLimit 4 = .ok (.aload_n 0, 1) := by decide +kernel
theorem dX10_readsLimit_5 : decode cX10_readsLimit 5 = .ok (.invokevirtual 171, 3) := by decide +kernel
theorem dX10_readsLimit_8 : decode cX10_readsLimit 8 = .ok (.istore_n 1, 1) := by decide +kernel
theorem dX10_readsLimit_9 : decode cX10_readsLimit 9 = .ok (.aload_n 0, 1) := by decide +kernel
theorem dX10_readsLimit_10 : decode cX10_readsLimit 10 = .ok (.invokevirtual 115, 3) := by decide +kernel
theorem dX10_readsLimit_13 : decode cX10_readsLimit 13 = .ok (.aload_n 0, 1) := by decide +kernel
theorem dX10_readsLimit_14 : decode cX10_readsLimit 14 = .ok (.iconst 0, 1) := by decide +kernel
theorem dX10_readsLimit_15 : decode cX10_readsLimit 15 = .ok (.sipush 200, 3) := by decide +kernel
theorem dX10_readsLimit_18 : decode cX10_readsLimit 18 = .ok (.invokevirtual 126, 3) := by decide +kernel
theorem dX10_readsLimit_21 : decode cX10_readsLimit 21 = .ok (.istore_n 2, 1) := by decide +kernel
theorem dX10_readsLimit_22 : decode cX10_readsLimit 22 = .ok (.aload_n 0, 1) := by decide +kernel
theorem dX10_readsLimit_23 : decode cX10_readsLimit 23 = .ok (.getfield 59, 3) := by decide +kernel
theorem dX10_readsLimit_26 : decode cX10_readsLimit 26 = .ok (.ifCond .ne 10, 3) := by decide +kernel
theorem dX10_readsLimit_29 : decode cX10_readsLimit 29 = .ok (.aload_n 0, 1) := by decide +kernel
theorem dX10_readsLimit_30 : decode cX10_readsLimit 30 = .ok (.iload_n 1, 1) := by decide +kernel
theorem dX10_readsLimit_31 : decode cX10_readsLimit 31 = .ok (.iconst 4, 1) := by decide +kernel
theorem dX10_readsLimit_32 : decode cX10_readsLimit 32 = .ok (.iload_n 2, 1) := by decide +kernel
theorem dX10_readsLimit_33 : decode cX10_readsLimit 33 = .ok (.invokevirtual 144, 3) := by decide +kernel
theorem dX10_readsLimit_36 : decode cX10_readsLimit 36 = .ok (.return_, 1) := by decide +kernel
theorem dX10_readsBuy_0 : decode cX10_readsBuy 0 = .ok (.aload_n 0, 1) := by decide +kernel
theorem dX10_readsBuy_1 : decode cX10_readsBuy 1 = .ok (.invokevirtual 115, 3) := by decide +kernel
theorem dX10_readsBuy_4 : decode cX10_readsBuy 4 = .ok (.aload_n 0, 1) := by decide +kernel
theorem dX10_readsBuy_5 : decode cX10_readsBuy 5 = .ok (.invokevirtual 171, 3) := by decide +kernel
theorem dX10_readsBuy_8 : decode cX10_readsBuy 8 = .ok (.istore_n 1, 1) := by decide +kernel
theorem dX10_readsBuy_9 : decode cX10_readsBuy 9 = .ok (.aload_n 0, 1) := by decide +kernel
theorem dX10_readsBuy_10 : decode cX10_readsBuy 10 = .ok (.invokevirtual 115, 3) := by decide +kernel
theorem dX10_readsBuy_13 : decode cX10_readsBuy 13 = .ok (.aload_n 0, 1) := by decide +kernel
theorem dX10_readsBuy_14 : decode cX10_readsBuy 14 = .ok (.invokevirtual 194, 3) := by decide +kernel
theorem dX10_readsBuy_17 : decode cX10_readsBuy 17 = .ok (.istore_n 2, 1) := by decide +kernel
theorem dX10_readsBuy_18 : decode cX10_readsBuy 18 = .ok (.aload_n 0, 1) := by decide +kernel
theorem dX10_readsBuy_19 : decode cX10_readsBuy 19 = .ok (.aload_n 0, 1) := by decide +kernel
theorem dX10_readsBuy_20 : decode cX10_readsBuy 20 = .ok (.getfield 59, 3) := by decide +kernel
theorem dX10_readsBuy_23 : decode cX10_readsBuy 23 = .ok (.ifCond .ne 16, 3) := by decide +kernel
theorem dX10_readsBuy_26 : decode cX10_readsBuy 26 = .ok (.aload_n 0, 1) := by decide +kernel
theorem dX10_readsBuy_27 : decode cX10_readsBuy 27 = .ok (.iload_n 1, 1) := by decide +kernel
theorem dX10_readsBuy_28 : decode cX10_readsBuy 28 = .ok (.iload_n 2, 1) := by decide +kernel
theorem dX10_readsBuy_29 : decode cX10_readsBuy 29 = .ok (.invokevirtual 197, 3) := by decide +kernel
theorem dX10_readsBuy_32 : decode cX10_readsBuy 32 = .ok (.ifCond .eq 7, 3) := by decide +kernel
theorem dX10_readsBuy_35 : decode cX10_readsBuy 35 = .ok (.iconst 1, 1) := by decide +kernel
theorem dX10_readsBuy_36 : decode cX10_readsBuy 36 = .ok (.goto 4, 3) := by decide +kernel
theorem dX10_readsBuy_39 : decode cX10_readsBuy 39 = .ok (.iconst 0, 1) := by decide +kernel
theorem dX10_readsBuy_40 : decode cX10_readsBuy 40 = .ok (.invokevirtual 154, 3) := by decide +kernel
theorem dX10_readsBuy_43 : decode cX10_readsBuy 43 = .ok (.aload_n 0, 1) := by decide +kernel
theorem dX10_readsBuy_44 : decode cX10_readsBuy 44 = .ok (.getfield 59, 3) := by decide +kernel
theorem dX10_readsBuy_47 : decode cX10_readsBuy 47 = .ok (.ifCond .ne 10, 3) := by decide +kernel
theorem dX10_readsBuy_50 : decode cX10_readsBuy 50 = .ok (.aload_n 0, 1) := by decide +kernel
theorem dX10_readsBuy_51 : decode cX10_readsBuy 51 = .ok (.iload_n 1, 1) := by decide +kernel
theorem dX10_readsBuy_52 : decode cX10_readsBuy 52 = .ok (.iload_n 2, 1) := by decide +kernel
theorem dX10_readsBuy_53 : decode cX10_readsBuy 53 = .ok (.invokevirtual 200, 3) := by decide +kernel
theorem dX10_readsBuy_56 : decode cX10_readsBuy 56 = .ok (.pop, 1) := by decide +kernel
theorem dX10_readsBuy_57 : decode cX10_readsBuy 57 = .ok (.aload_n 0, 1) := by decide +kernel
theorem dX10_readsBuy_58 : decode cX10_readsBuy 58 = .ok (.invokevirtual 115, 3) := by decide +kernel
theorem dX10_readsBuy_61 : decode cX10_readsBuy 61 = .ok (.return_, 1) := by decide +kernel
theorem dX10_readsSell_0 : decode cX10_readsSell 0 = .ok (.aload_n 0, 1) := by decide +kernel
theorem dX10_readsSell_1 : decode cX10_readsSell 1 = .ok (.invokevirtual 115, 3) := by decide +kernel
theorem dX10_readsSell_4 : decode cX10_readsSell 4 = .ok (.aload_n 0, 1) := by decide +kernel
theorem dX10_readsSell_5 : decode cX10_readsSell 5 = .ok (.invokevirtual 194, 3) := by decide +kernel
theorem dX10_readsSell_8 : decode cX10_readsSell 8 = .ok (.istore_n 1, 1) := by decide +kernel
theorem dX10_readsSell_9 : decode cX10_readsSell 9 = .ok (.aload_n 0, 1) := by decide +kernel
theorem dX10_readsSell_10 : decode cX10_readsSell 10 = .ok (.invokevirtual 115, 3) := by decide +kernel
theorem dX10_readsSell_13 : decode cX10_readsSell 13 = .ok (.aload_n 0, 1) := by decide +kernel
theorem dX10_readsSell_14 : decode cX10_readsSell 14 = .ok (.invokevirtual 168, 3) := by decide +kernel
theorem dX10_readsSell_17 : decode cX10_readsSell 17 = .ok (.istore_n 2, 1) := by decide +kernel
theorem dX10_readsSell_18 : decode cX10_readsSell 18 = .ok (.aload_n 0, 1) := by decide +kernel
theorem dX10_readsSell_19 : decode cX10_readsSell 19 = .ok (.aload_n 0, 1) := by decide +kernel
theorem dX10_readsSell_20 : decode cX10_readsSell 20 = .ok (.getfield 59, 3) := by decide +kernel
theorem dX10_readsSell_23 : decode cX10_readsSell 23 = .ok (.ifCond .ne 16, 3) := by decide +kernel
theorem dX10_readsSell_26 : decode cX10_readsSell 26 = .ok (.aload_n 0, 1) := by decide +kernel
theorem dX10_readsSell_27 : decode cX10_readsSell 27 = .ok (.iload_n 1, 1) := by decide +kernel
theorem dX10_readsSell_28 : decode cX10_readsSell 28 = .ok (.iload_n 2, 1) := by decide +kernel
theorem dX10_readsSell_29 : decode cX10_readsSell 29 = .ok (.invokevirtual 203, 3) := by decide +kernel
theorem dX10_readsSell_32 : decode cX10_readsSell 32 = .ok (.ifCond .eq 7, 3) := by decide +kernel
theorem dX10_readsSell_35 : decode cX10_readsSell 35 = .ok (.iconst 1, 1) := by decide +kernel
theorem dX10_readsSell_36 : decode cX10_readsSell 36 = .ok (.goto 4, 3) := by decide +kernel
theorem dX10_readsSell_39 : decode cX10_readsSell 39 = .ok (.iconst 0, 1) := by decide +kernel
theorem dX10_readsSell_40 : decode cX10_readsSell 40 = .ok (.invokevirtual 154, 3) := by decide +kernel
theorem dX10_readsSell_43 : decode cX10_readsSell 43 = .ok (.aload_n 0, 1) := by decide +kernel
theorem dX10_readsSell_44 : decode cX10_readsSell 44 = .ok (.getfield 59, 3) := by decide +kernel
theorem dX10_readsSell_47 : decode cX10_readsSell 47 = .ok (.ifCond .ne 10, 3) := by decide +kernel
theorem dX10_readsSell_50 : decode cX10_readsSell 50 = .ok (.aload_n 0, 1) := by decide +kernel
theorem dX10_readsSell_51 : decode cX10_readsSell 51 = .ok (.iload_n 1, 1) := by decide +kernel
theorem dX10_readsSell_52 : decode cX10_readsSell 52 = .ok (.iload_n 2, 1) := by decide +kernel
theorem dX10_readsSell_53 : decode cX10_readsSell 53 = .ok (.invokevirtual 206, 3) := by decide +kernel
theorem dX10_readsSell_56 : decode cX10_readsSell 56 = .ok (.pop, 1) := by decide +kernel
theorem dX10_readsSell_57 : decode cX10_readsSell 57 = .ok (.aload_n 0, 1) := by decide +kernel
theorem dX10_readsSell_58 : decode cX10_readsSell 58 = .ok (.invokevirtual 115, 3) := by decide +kernel
theorem dX10_readsSell_61 : decode cX10_readsSell 61 = .ok (.return_, 1) := by decide +kernel
theorem dX10_readsReturn_0 : decode cX10_readsReturn 0 = .ok (.aload_n 0, 1) := by decide +kernel
theorem dX10_readsReturn_1 : decode cX10_readsReturn 1 = .ok (.invokevirtual 115, 3) := by decide +kernel
theorem dX10_readsReturn_4 : decode cX10_readsReturn 4 = .ok (.aload_n 0, 1) := by decide +kernel
theorem dX10_readsReturn_5 : decode cX10_readsReturn 5 = .ok (.invokevirtual 194, 3) := by decide +kernel
theorem dX10_readsReturn_8 : decode cX10_readsReturn 8 = .ok (.istore_n 1, 1) := by decide +kernel
theorem dX10_readsReturn_9 : decode cX10_readsReturn 9 = .ok (.aload_n 0, 1) := by decide +kernel
theorem dX10_readsReturn_10 : decode cX10_readsReturn 10 = .ok (.aload_n 0, 1) := by decide +kernel
theorem dX10_readsReturn_11 : decode cX10_readsReturn 11 = .ok (.getfield 59, 3) := by decide +kernel
theorem dX10_readsReturn_14 : decode cX10_readsReturn 14 = .ok (.ifCond .ne 15, 3) := by decide +kernel
theorem dX10_readsReturn_17 : decode cX10_readsReturn 17 = .ok (.aload_n 0, 1) := by decide +kernel
theorem dX10_readsReturn_18 : decode cX10_readsReturn 18 = .ok (.iload_n 1, 1) := by decide +kernel
theorem dX10_readsReturn_19 : decode cX10_readsReturn 19 = .ok (.invokevirtual 209, 3) := by decide +kernel
theorem dX10_readsReturn_22 : decode cX10_readsReturn 22 = .ok (.ifCond .eq 7, 3) := by decide +kernel
theorem dX10_readsReturn_25 : decode cX10_readsReturn 25 = .ok (.iconst 1, 1) := by decide +kernel
theorem dX10_readsReturn_26 : decode cX10_readsReturn 26 = .ok (.goto 4, 3) := by decide +kernel
theorem dX10_readsReturn_29 : decode cX10_readsReturn 29 = .ok (.iconst 0, 1) := by decide +kernel
theorem dX10_readsReturn_30 : decode cX10_readsReturn 30 = .ok (.invokevirtual 154, 3) := by decide +kernel
theorem dX10_readsReturn_33 : decode cX10_readsReturn 33 = .ok (.aload_n 0, 1) := by decide +kernel
theorem dX10_readsReturn_34 : decode cX10_readsReturn 34 = .ok (.getfield 59, 3) := by decide +kernel
theorem dX10_readsReturn_37 : decode cX10_readsReturn 37 = .ok (.ifCond .ne 9, 3) := by decide +kernel
theorem dX10_readsReturn_40 : decode cX10_readsReturn 40 = .ok (.aload_n 0, 1) := by decide +kernel
theorem dX10_readsReturn_41 : decode cX10_readsReturn 41 = .ok (.iload_n 1, 1) := by decide +kernel
theorem dX10_readsReturn_42 : decode cX10_readsReturn 42 = .ok (.invokevirtual 212, 3) := by decide +kernel
theorem dX10_readsReturn_45 : decode cX10_readsReturn 45 = .ok (.pop, 1) := by decide +kernel
theorem dX10_readsReturn_46 : decode cX10_readsReturn 46 = .ok (.aload_n 0, 1) := by decide +kernel
theorem dX10_readsReturn_47 : decode cX10_readsReturn 47 = .ok (.invokevirtual 115, 3) := by decide +kernel
theorem dX10_readsReturn_50 : decode cX10_readsReturn 50 = .ok (.return_, 1) := by decide +kernel
theorem dX10_readsGrant_0 : decode cX10_readsGrant 0 = .ok (.aload_n 0, 1) := by decide +kernel
theorem dX10_readsGrant_1 : decode cX10_readsGrant 1 = .ok (.invokevirtual 115, 3) := by decide +kernel
theorem dX10_readsGrant_4 : decode cX10_readsGrant 4 = .ok (.aload_n 0, 1) := by decide +kernel
theorem dX10_readsGrant_5 : decode cX10_readsGrant 5 = .ok (.invokevirtual 194, 3) := by decide +kernel
theorem dX10_readsGrant_8 : decode cX10_readsGrant 8 = .ok (.istore_n 1, 1) := by decide +kernel
theorem dX10_readsGrant_9 : decode cX10_readsGrant 9 = .ok (.aload_n 0, 1) := by decide +kernel
theorem dX10_readsGrant_10 : decode cX10_readsGrant 10 = .ok (.aload_n 0, 1) := by decide +kernel
theorem dX10_readsGrant_11 : decode cX10_readsGrant 11 = .ok (.getfield 59, 3) := by decide +kernel
theorem dX10_readsGrant_14 : decode cX10_readsGrant 14 = .ok (.ifCond .ne 15, 3) := by decide +kernel
theorem dX10_readsGrant_17 : decode cX10_readsGrant 17 = .ok (.aload_n 0, 1) := by decide +kernel
theorem dX10_readsGrant_18 : decode cX10_readsGrant 18 = .ok (.iload_n 1, 1) := by decide +kernel
theorem dX10_readsGrant_19 : decode cX10_readsGrant 19 = .ok (.invokevirtual 215, 3) := by decide +kernel
theorem dX10_readsGrant_22 : decode cX10_readsGrant 22 = .ok (.ifCond .eq 7, 3) := by decide +kernel
theorem dX10_readsGrant_25 : decode cX10_readsGrant 25 = .ok (.iconst 1, 1) := by decide +kernel
theorem dX10_readsGrant_26 : decode cX10_readsGrant 26 = .ok (.goto 4, 3) := by decide +kernel
theorem dX10_readsGrant_29 : decode cX10_readsGrant 29 = .ok (.iconst 0, 1) := by decide +kernel
theorem dX10_readsGrant_30 : decode cX10_readsGrant 30 = .ok (.invokevirtual 154, 3) := by decide +kernel
theorem dX10_readsGrant_33 : decode cX10_readsGrant 33 = .ok (.aload_n 0, 1) := by decide +kernel
theorem dX10_readsGrant_34 : decode cX10_readsGrant 34 = .ok (.getfield 59, 3) := by decide +kernel
theorem dX10_readsGrant_37 : decode cX10_readsGrant 37 = .ok (.ifCond .ne 9, 3) := by decide +kernel
theorem dX10_readsGrant_40 : decode cX10_readsGrant 40 = .ok (.aload_n 0, 1) := by decide +kernel
theorem dX10_readsGrant_41 : decode cX10_readsGrant 41 = .ok (.iload_n 1, 1) := by decide +kernel
theorem dX10_readsGrant_42 : decode cX10_readsGrant 42 = .ok (.invokevirtual 218, 3) := by decide +kernel
theorem dX10_readsGrant_45 : decode cX10_readsGrant 45 = .ok (.pop, 1) := by decide +kernel
theorem dX10_readsGrant_46 : decode cX10_readsGrant 46 = .ok (.aload_n 0, 1) := by decide +kernel
theorem dX10_readsGrant_47 : decode cX10_readsGrant 47 = .ok (.invokevirtual 115, 3) := by decide +kernel
theorem dX10_readsGrant_50 : decode cX10_readsGrant 50 = .ok (.return_, 1) := by decide +kernel
theorem dX10_readsRename_0 : decode cX10_readsRename 0 = .ok (.aload_n 0, 1) := by decide +kernel
theorem dX10_readsRename_1 : decode cX10_readsRename 1 = .ok (.invokevirtual 115, 3) := by decide +kernel
theorem dX10_readsRename_4 : decode cX10_readsRename 4 = .ok (.aload_n 0, 1) := by decide +kernel
theorem dX10_readsRename_5 : decode cX10_readsRename 5 = .ok (.invokevirtual 194, 3) := by decide +kernel
theorem dX10_readsRename_8 : decode cX10_readsRename 8 = .ok (.istore_n 1, 1) := by decide +kernel
theorem dX10_readsRename_9 : decode cX10_readsRename 9 = .ok (.aload_n 0, 1) := by decide +kernel
theorem dX10_readsRename_10 : decode cX10_readsRename 10 = .ok (.invokevirtual 115, 3) := by decide +kernel
theorem dX10_readsRename_13 : decode cX10_readsRename 13 = .ok (.aload_n 0, 1) := by decide +kernel
theorem dX10_readsRename_14 : decode cX10_readsRename 14 = .ok (.invokevirtual 147, 3) := by decide +kernel
theorem dX10_readsRename_17 : decode cX10_readsRename 17 = .ok (.aload_n 0, 1) := by decide +kernel
theorem dX10_readsRename_18 : decode cX10_readsRename 18 = .ok (.aload_n 0, 1) := by decide +kernel
theorem dX10_readsRename_19 : decode cX10_readsRename 19 = .ok (.aload_n 0, 1) := by decide +kernel
theorem dX10_readsRename_20 : decode cX10_readsRename 20 = .ok (.getfield 9, 3) := by decide +kernel
theorem dX10_readsRename_23 : decode cX10_readsRename 23 = .ok (.iconst 4, 1) := by decide +kernel
theorem dX10_readsRename_24 : decode cX10_readsRename 24 = .ok (.iaload, 1) := by decide +kernel
theorem dX10_readsRename_25 : decode cX10_readsRename 25 = .ok (.bipush 123, 2) := by decide +kernel
theorem dX10_readsRename_27 : decode cX10_readsRename 27 = .ok (.bipush 15, 2) := by decide +kernel
theorem dX10_readsRename_29 : decode cX10_readsRename 29 = .ok (.iload_n 1, 1) := by decide +kernel
theorem dX10_readsRename_30 : decode cX10_readsRename 30 = .ok (.invokevirtual 150, 3) := by decide +kernel
theorem dX10_readsRename_33 : decode cX10_readsRename 33 = .ok (.invokevirtual 154, 3) := by decide +kernel
theorem dX10_readsRename_36 : decode cX10_readsRename 36 = .ok (.aload_n 0, 1) := by decide +kernel
theorem dX10_readsRename_37 : decode cX10_readsRename 37 = .ok (.getfield 59, 3) := by decide +kernel
theorem dX10_readsRename_40 : decode cX10_readsRename 40 = .ok (.ifCond .ne 17, 3) := by decide +kernel
theorem dX10_readsRename_43 : decode cX10_readsRename 43 = .ok (.aload_n 0, 1) := by decide +kernel
theorem dX10_readsRename_44 : decode cX10_readsRename 44 = .ok (.bipush 115, 2) := by decide +kernel
theorem dX10_readsRename_46 : decode cX10_readsRename 46 = .ok (.bipush 15, 2) := by decide +kernel
theorem dX10_readsRename_48 : decode cX10_readsRename 48 = .ok (.iload_n 1, 1) := by decide +kernel
theorem dX10_readsRename_49 : decode cX10_readsRename 49 = .ok (.imul, 1) := by decide +kernel
theorem dX10_readsRename_50 : decode cX10_readsRename 50 = .ok (.iadd, 1) := by decide +kernel
theorem dX10_readsRename_51 : decode cX10_readsRename 51 = .ok (.bipush 8, 2) := by decide +kernel
theorem dX10_readsRename_53 : decode cX10_readsRename 53 = .ok (.iadd, 1) := by decide +kernel
theorem dX10_readsRename_54 : decode cX10_readsRename 54 = .ok (.invokevirtual 158, 3) := by decide +kernel
theorem dX10_readsRename_57 : decode cX10_readsRename 57 = .ok (.aload_n 0, 1) := by decide +kernel
theorem dX10_readsRename_58 : decode cX10_readsRename 58 = .ok (.invokevirtual 115, 3) := by decide +kernel
theorem dX10_readsRename_61 : decode cX10_readsRename 61 = .ok (.return_, 1) := by decide +kernel
theorem dX10_readsSwap_0 : decode cX10_readsSwap 0 = .ok (.aload_n 0, 1) := by decide +kernel
theorem dX10_readsSwap_1 : decode cX10_readsSwap 1 = .ok (.invokevirtual 115, 3) := by decide +kernel
theorem dX10_readsSwap_4 : decode cX10_readsSwap 4 = .ok (.aload_n 0, 1) := by decide +kernel
theorem dX10_readsSwap_5 : decode cX10_readsSwap 5 = .ok (.invokevirtual 194, 3) := by decide +kernel
theorem dX10_readsSwap_8 : decode cX10_readsSwap 8 = .ok (.istore_n 1, 1) := by decide +kernel
theorem dX10_readsSwap_9 : decode cX10_readsSwap 9 = .ok (.aload_n 0, 1) := by decide +kernel
theorem dX10_readsSwap_10 : decode cX10_readsSwap 10 = .ok (.aload_n 0, 1) := by decide +kernel
theorem dX10_readsSwap_11 : decode cX10_readsSwap 11 = .ok (.getfield 59, 3) := by decide +kernel
theorem dX10_readsSwap_14 : decode cX10_readsSwap 14 = .ok (.ifCond .ne 15, 3) := by decide +kernel
theorem dX10_readsSwap_17 : decode cX10_readsSwap 17 = .ok (.aload_n 0, 1) := by decide +kernel
theorem dX10_readsSwap_18 : decode cX10_readsSwap 18 = .ok (.iload_n 1, 1) := by decide +kernel
theorem dX10_readsSwap_19 : decode cX10_readsSwap 19 = .ok (.invokevirtual 221, 3) := by decide +kernel
theorem dX10_readsSwap_22 : decode cX10_readsSwap 22 = .ok (.ifCond .ne 7, 3) := by decide +kernel
theorem dX10_readsSwap_25 : decode cX10_readsSwap 25 = .ok (.iconst 1, 1) := by decide +kernel
theorem dX10_readsSwap_26 : decode cX10_readsSwap 26 = .ok (.goto 4, 3) := by decide +kernel
theorem dX10_readsSwap_29 : decode cX10_readsSwap 29 = .ok (.iconst 0, 1) := by decide +kernel
theorem dX10_readsSwap_30 : decode cX10_readsSwap 30 = .ok (.invokevirtual 154, 3) := by decide +kernel
theorem dX10_readsSwap_33 : decode cX10_readsSwap 33 = .ok (.aload_n 0, 1) := by decide +kernel
theorem dX10_readsSwap_34 : decode cX10_readsSwap 34 = .ok (.invokevirtual 115, 3) := by decide +kernel
theorem dX10_readsSwap_37 : decode cX10_readsSwap 37 = .ok (.aload_n 0, 1) := by decide +kernel
theorem dX10_readsSwap_38 : decode cX10_readsSwap 38 = .ok (.invokevirtual 194, 3) := by decide +kernel
theorem dX10_readsSwap_41 : decode cX10_readsSwap 41 = .ok (.istore_n 2, 1) := by decide +kernel
theorem dX10_readsSwap_42 : decode cX10_readsSwap 42 = .ok (.aload_n 0, 1) := by decide +kernel
theorem dX10_readsSwap_43 : decode cX10_readsSwap 43 = .ok (.aload_n 0, 1) := by decide +kernel
theorem dX10_readsSwap_44 : decode cX10_readsSwap 44 = .ok (.getfield 59, 3) := by decide +kernel
theorem dX10_readsSwap_47 : decode cX10_readsSwap 47 = .ok (.ifCond .ne 20, 3) := by decide +kernel
theorem dX10_readsSwap_50 : decode cX10_readsSwap 50 = .ok (.aload_n 0, 1) := by decide +kernel
theorem dX10_readsSwap_51 : decode cX10_readsSwap 51 = .ok (.iload_n 2, 1) := by decide +kernel
theorem dX10_readsSwap_52 : decode cX10_readsSwap 52 = .ok (.invokevirtual 221, 3) := by decide +kernel
theorem dX10_readsSwap_55 : decode cX10_readsSwap 55 = .ok (.ifCond .eq 8, 3) := by decide +kernel
theorem dX10_readsSwap_58 : decode cX10_readsSwap 58 = .ok (.iload_n 2, 1) := by decide +kernel
theorem dX10_readsSwap_59 : decode cX10_readsSwap 59 = .ok (.iload_n 1, 1) := by decide +kernel
theorem dX10_readsSwap_60 : decode cX10_readsSwap 60 = .ok (.if_icmp .ne 7, 3) := by decide +kernel
theorem dX10_readsSwap_63 : decode cX10_readsSwap 63 = .ok (.iconst 1, 1) := by decide +kernel
theorem dX10_readsSwap_64 : decode cX10_readsSwap 64 = .ok (.goto 4, 3) := by decide +kernel
theorem dX10_readsSwap_67 : decode cX10_readsSwap 67 = .ok (.iconst 0, 1) := by decide +kernel
theorem dX10_readsSwap_68 : decode cX10_readsSwap 68 = .ok (.invokevirtual 154, 3) := by decide +kernel
theorem dX10_readsSwap_71 : decode cX10_readsSwap 71 = .ok (.aload_n 0, 1) := by decide +kernel
theorem dX10_readsSwap_72 : decode cX10_readsSwap 72 = .ok (.invokevirtual 115, 3) := by decide +kernel
theorem dX10_readsSwap_75 : decode cX10_readsSwap 75 = .ok (.aload_n 0, 1) := by decide +kernel
theorem dX10_readsSwap_76 : decode cX10_readsSwap 76 = .ok (.getfield 59, 3) := by decide +kernel
theorem dX10_readsSwap_79 : decode cX10_readsSwap 79 = .ok (.ifCond .le 4, 3) := by decide +kernel
theorem dX10_readsSwap_82 : decode cX10_readsSwap 82 = .ok (.return_, 1) := by decide +kernel
theorem dX10_readsSwap_83 : decode cX10_readsSwap 83 = .ok (.aload_n 0, 1) := by decide +kernel
theorem dX10_readsSwap_84 : decode cX10_readsSwap 84 = .ok (.iload_n 1, 1) := by decide +kernel
theorem dX10_readsSwap_85 : decode cX10_readsSwap 85 = .ok (.iconst 4, 1) := by decide +kernel
theorem dX10_readsSwap_86 : decode cX10_readsSwap 86 = .ok (.invokevirtual 224, 3) := by decide +kernel
theorem dX10_readsSwap_89 : decode cX10_readsSwap 89 = .ok (.istore_n 3, 1) := by decide +kernel
theorem dX10_readsSwap_90 : decode cX10_readsSwap 90 = .ok (.aload_n 0, 1) := by decide +kernel
theorem dX10_readsSwap_91 : decode cX10_readsSwap 91 = .ok (.iload_n 1, 1) := by decide +kernel
theorem dX10_readsSwap_92 : decode cX10_readsSwap 92 = .ok (.iconst 4, 1) := by decide +kernel
theorem dX10_readsSwap_93 : decode cX10_readsSwap 93 = .ok (.aload_n 0, 1) := by decide +kernel
theorem dX10_readsSwap_94 : decode cX10_readsSwap 94 = .ok (.iload_n 2, 1) := by decide +kernel
theorem dX10_readsSwap_95 : decode cX10_readsSwap 95 = .ok (.iconst 4, 1) := by decide +kernel
theorem dX10_readsSwap_96 : decode cX10_readsSwap 96 = .ok (.invokevirtual 224, 3) := by decide +kernel
theorem dX10_readsSwap_99 : decode cX10_readsSwap 99 = .ok (.invokevirtual 180, 3) := by decide +kernel
theorem dX10_readsSwap_102 : decode cX10_readsSwap 102 = .ok (.aload_n 0, 1) := by decide +kernel
theorem dX10_readsSwap_103 : decode cX10_readsSwap 103 = .ok (.iload_n 2, 1) := by decide +kernel
theorem dX10_readsSwap_104 : decode cX10_readsSwap 104 = .ok (.iconst 4, 1) := by decide +kernel
theorem dX10_readsSwap_105 : decode cX10_readsSwap 105 = .ok (.iload_n 3, 1) := by decide +kernel
theorem dX10_readsSwap_106 : decode cX10_readsSwap 106 = .ok (.invokevirtual 180, 3) := by decide +kernel
theorem dX10_readsSwap_109 : decode cX10_readsSwap 109 = .ok (.aload_n 0, 1) := by decide +kernel
theorem dX10_readsSwap_110 : decode cX10_readsSwap 110 = .ok (.iload_n 1, 1) := by decide +kernel
theorem dX10_readsSwap_111 : decode cX10_readsSwap 111 = .ok (.invokevirtual 188, 3) := by decide +kernel
theorem dX10_readsSwap_114 : decode cX10_readsSwap 114 = .ok (.aload_n 0, 1) := by decide +kernel
theorem dX10_readsSwap_115 : decode cX10_readsSwap 115 = .ok (.iload_n 2, 1) := by decide +kernel
theorem dX10_readsSwap_116 : decode cX10_readsSwap 116 = .ok (.invokevirtual 188, 3) := by decide +kernel
theorem dX10_readsSwap_119 : decode cX10_readsSwap 119 = .ok (.return_, 1) := by decide +kernel
theorem dX10_readsGift_0 : decode cX10_readsGift 0 = .ok (.aload_n 0, 1) := by decide +kernel
theorem dX10_readsGift_1 : decode cX10_readsGift 1 = .ok (.invokevirtual 115, 3) := by decide +kernel
theorem dX10_readsGift_4 : decode cX10_readsGift 4 = .ok (.aload_n 0, 1) := by decide +kernel
theorem dX10_readsGift_5 : decode cX10_readsGift 5 = .ok (.invokevirtual 194, 3) := by decide +kernel
theorem dX10_readsGift_8 : decode cX10_readsGift 8 = .ok (.istore_n 1, 1) := by decide +kernel
theorem dX10_readsGift_9 : decode cX10_readsGift 9 = .ok (.aload_n 0, 1) := by decide +kernel
theorem dX10_readsGift_10 : decode cX10_readsGift 10 = .ok (.aload_n 0, 1) := by decide +kernel
theorem dX10_readsGift_11 : decode cX10_readsGift 11 = .ok (.getfield 59, 3) := by decide +kernel
theorem dX10_readsGift_14 : decode cX10_readsGift 14 = .ok (.ifCond .ne 15, 3) := by decide +kernel
theorem dX10_readsGift_17 : decode cX10_readsGift 17 = .ok (.aload_n 0, 1) := by decide +kernel
theorem dX10_readsGift_18 : decode cX10_readsGift 18 = .ok (.iload_n 1, 1) := by decide +kernel
theorem dX10_readsGift_19 : decode cX10_readsGift 19 = .ok (.invokevirtual 221, 3) := by decide +kernel
theorem dX10_readsGift_22 : decode cX10_readsGift 22 = .ok (.ifCond .ne 7, 3) := by decide +kernel
theorem dX10_readsGift_25 : decode cX10_readsGift 25 = .ok (.iconst 1, 1) := by decide +kernel
theorem dX10_readsGift_26 : decode cX10_readsGift 26 = .ok (.goto 4, 3) := by decide +kernel
theorem dX10_readsGift_29 : decode cX10_readsGift 29 = .ok (.iconst 0, 1) := by decide +kernel
theorem dX10_readsGift_30 : decode cX10_readsGift 30 = .ok (.invokevirtual 154, 3) := by decide +kernel
theorem dX10_readsGift_33 : decode cX10_readsGift 33 = .ok (.aload_n 0, 1) := by decide +kernel
theorem dX10_readsGift_34 : decode cX10_readsGift 34 = .ok (.invokevirtual 115, 3) := by decide +kernel
theorem dX10_readsGift_37 : decode cX10_readsGift 37 = .ok (.aload_n 0, 1) := by decide +kernel
theorem dX10_readsGift_38 : decode cX10_readsGift 38 = .ok (.invokevirtual 171, 3) := by decide +kernel
theorem dX10_readsGift_41 : decode cX10_readsGift 41 = .ok (.istore_n 2, 1) := by decide +kernel
theorem dX10_readsGift_42 : decode cX10_readsGift 42 = .ok (.aload_n 0, 1) := by decide +kernel
theorem dX10_readsGift_43 : decode cX10_readsGift 43 = .ok (.aload_n 0, 1) := by decide +kernel
theorem dX10_readsGift_44 : decode cX10_readsGift 44 = .ok (.getfield 59, 3) := by decide +kernel
theorem dX10_readsGift_47 : decode cX10_readsGift 47 = .ok (.ifCond .ne 26, 3) := by decide +kernel
theorem dX10_readsGift_50 : decode cX10_readsGift 50 = .ok (.aload_n 0, 1) := by decide +kernel
theorem dX10_readsGift_51 : decode cX10_readsGift 51 = .ok (.iload_n 1, 1) := by decide +kernel
theorem dX10_readsGift_52 : decode cX10_readsGift 52 = .ok (.iconst 4, 1) := by decide +kernel
theorem dX10_readsGift_53 : decode cX10_readsGift 53 = .ok (.invokevirtual 224, 3) := by decide +kernel
theorem dX10_readsGift_56 : decode cX10_readsGift 56 = .ok (.iload_n 2, 1) := by decide +kernel
theorem dX10_readsGift_57 : decode cX10_readsGift 57 = .ok (.if_icmp .eq 12, 3) := by decide +kernel
theorem dX10_readsGift_60 : decode cX10_readsGift 60 = .ok (.aload_n 0, 1) := by decide +kernel
theorem dX10_readsGift_61 : decode cX10_readsGift 61 = .ok (.iload_n 2, 1) := by decide +kernel
theorem dX10_readsGift_62 : decode cX10_readsGift 62 = .ok (.invokevirtual 177, 3) := by decide +kernel
theorem dX10_readsGift_65 : decode cX10_readsGift 65 = .ok (.iconst 4, 1) := by decide +kernel
theorem dX10_readsGift_66 : decode cX10_readsGift 66 = .ok (.if_icmp .ne 7, 3) := by decide +kernel
theorem dX10_readsGift_69 : decode cX10_readsGift 69 = .ok (.iconst 1, 1) := by decide +kernel
theorem dX10_readsGift_70 : decode cX10_readsGift 70 = .ok (.goto 4, 3) := by decide +kernel
theorem dX10_readsGift_73 : decode cX10_readsGift 73 = .ok (.iconst 0, 1) := by decide +kernel
theorem dX10_readsGift_74 : decode cX10_readsGift 74 = .ok (.invokevirtual 154, 3) := by decide +kernel
theorem dX10_readsGift_77 : decode cX10_readsGift 77 = .ok (.aload_n 0, 1) := by decide +kernel
theorem dX10_readsGift_78 : decode cX10_readsGift 78 = .ok (.invokevirtual 115, 3) := by decide +kernel
theorem dX10_readsGift_81 : decode cX10_readsGift 81 = .ok (.aload_n 0, 1) := by decide +kernel
theorem dX10_readsGift_82 : decode cX10_readsGift 82 = .ok (.getfield 59, 3) := by decide +kernel
theorem dX10_readsGift_85 : decode cX10_readsGift 85 = .ok (.ifCond .le 4, 3) := by decide +kernel
theorem dX10_readsGift_88 : decode cX10_readsGift 88 = .ok (.return_, 1) := by decide +kernel
theorem dX10_readsGift_89 : decode cX10_readsGift 89 = .ok (.aload_n 0, 1) := by decide +kernel
theorem dX10_readsGift_90 : decode cX10_readsGift 90 = .ok (.iload_n 1, 1) := by decide +kernel
theorem dX10_readsGift_91 : decode cX10_readsGift 91 = .ok (.iconst 4, 1) := by decide +kernel
theorem dX10_readsGift_92 : decode cX10_readsGift 92 = .ok (.iload_n 2, 1) := by decide +kernel
theorem dX10_readsGift_93 : decode cX10_readsGift 93 = .ok (.invokevirtual 180, 3) := by decide +kernel
theorem dX10_readsGift_96 : decode cX10_readsGift 96 = .ok (.aload_n 0, 1) := by decide +kernel
theorem dX10_readsGift_97 : decode cX10_readsGift 97 = .ok (.iload_n 1, 1) := by decide +kernel
theorem dX10_readsGift_98 : decode cX10_readsGift 98 = .ok (.invokevirtual 188, 3) := by decide +kernel
theorem dX10_readsGift_101 : decode cX10_readsGift 101 = .ok (.return_, 1) := by decide +kernel
theorem dX10_readsSale_0 : decode cX10_readsSale 0 = .ok (.aload_n 0, 1) := by decide +kernel
theorem dX10_readsSale_1 : decode cX10_readsSale 1 = .ok (.invokevirtual 115, 3) := by decide +kernel
theorem dX10_readsSale_4 : decode cX10_readsSale 4 = .ok (.aload_n 0, 1) := by decide +kernel
theorem dX10_readsSale_5 : decode cX10_readsSale 5 = .ok (.invokevirtual 168, 3) := by decide +kernel
theorem dX10_readsSale_8 : decode cX10_readsSale 8 = .ok (.istore_n 1, 1) := by decide +kernel
theorem dX10_readsSale_9 : decode cX10_readsSale 9 = .ok (.aload_n 0, 1) := by decide +kernel
theorem dX10_readsSale_10 : decode cX10_readsSale 10 = .ok (.invokevirtual 115, 3) := by decide +kernel
theorem dX10_readsSale_13 : decode cX10_readsSale 13 = .ok (.aload_n 0, 1) := by decide +kernel
theorem dX10_readsSale_14 : decode cX10_readsSale 14 = .ok (.iconst 0, 1) := by decide +kernel
theorem dX10_readsSale_15 : decode cX10_readsSale 15 = .ok (.bipush 100, 2) := by decide +kernel
theorem dX10_readsSale_17 : decode cX10_readsSale 17 = .ok (.invokevirtual 126, 3) := by decide +kernel
theorem dX10_readsSale_20 : decode cX10_readsSale 20 = .ok (.istore_n 2, 1) := by decide +kernel
theorem dX10_readsSale_21 : decode cX10_readsSale 21 = .ok (.aload_n 0, 1) := by decide +kernel
theorem dX10_readsSale_22 : decode cX10_readsSale 22 = .ok (.getfield 59, 3) := by decide +kernel
theorem dX10_readsSale_25 : decode cX10_readsSale 25 = .ok (.ifCond .ne 10, 3) := by decide +kernel
theorem dX10_readsSale_28 : decode cX10_readsSale 28 = .ok (.aload_n 0, 1) := by decide +kernel
theorem dX10_readsSale_29 : decode cX10_readsSale 29 = .ok (.iload_n 1, 1) := by decide +kernel
theorem dX10_readsSale_30 : decode cX10_readsSale 30 = .ok (.iconst 3, 1) := by decide +kernel
theorem dX10_readsSale_31 : decode cX10_readsSale 31 = .ok (.iload_n 2, 1) := by decide +kernel
theorem dX10_readsSale_32 : decode cX10_readsSale 32 = .ok (.invokevirtual 129, 3) := by decide +kernel
theorem dX10_readsSale_35 : decode cX10_readsSale 35 = .ok (.return_, 1) := by decide +kernel
theorem dX10_readsAdvance_0 : decode cX10_readsAdvance 0 = .ok (.aload_n 0, 1) := by decide +kernel
theorem dX10_readsAdvance_1 : decode cX10_readsAdvance 1 = .ok (.invokevirtual 115, 3) := by decide +kernel
theorem dX10_readsAdvance_4 : decode cX10_readsAdvance 4 = .ok (.aload_n 0, 1) := by decide +kernel
theorem dX10_readsAdvance_5 : decode cX10_readsAdvance 5 = .ok (.iconst 1, 1) := by decide +kernel
theorem dX10_readsAdvance_6 : decode cX10_readsAdvance 6 = .ok (.sipush 300, 3) := by decide +kernel
theorem dX10_readsAdvance_9 : decode cX10_readsAdvance 9 = .ok (.invokevirtual 111, 3) := by decide +kernel
theorem dX10_readsAdvance_12 : decode cX10_readsAdvance 12 = .ok (.istore_n 1, 1) := by decide +kernel
theorem dX10_readsAdvance_13 : decode cX10_readsAdvance 13 = .ok (.aload_n 0, 1) := by decide +kernel
theorem dX10_readsAdvance_14 : decode cX10_readsAdvance 14 = .ok (.getfield 59, 3) := by decide +kernel
theorem dX10_readsAdvance_17 : decode cX10_readsAdvance 17 = .ok (.ifCond .ne 20, 3) := by decide +kernel
theorem dX10_readsAdvance_20 : decode cX10_readsAdvance 20 = .ok (.aload_n 0, 1) := by decide +kernel
theorem dX10_readsAdvance_21 : decode cX10_readsAdvance 21 = .ok (.getfield 227, 3) := by decide +kernel
theorem dX10_readsAdvance_24 : decode cX10_readsAdvance 24 = .ok (.iload_n 1, 1) := by decide +kernel
theorem dX10_readsAdvance_25 : decode cX10_readsAdvance 25 = .ok (.iadd, 1) := by decide +kernel
theorem dX10_readsAdvance_26 : decode cX10_readsAdvance 26 = .ok (.sipush 2000, 3) := by decide +kernel
theorem dX10_readsAdvance_29 : decode cX10_readsAdvance 29 = .ok (.if_icmp .le 8, 3) := by decide +kernel
theorem dX10_readsAdvance_32 : decode cX10_readsAdvance 32 = .ok (.aload_n 0, 1) := by decide +kernel
theorem dX10_readsAdvance_33 : decode cX10_readsAdvance 33 = .ok (.iconst 4, 1) := by decide +kernel
theorem dX10_readsAdvance_34 : decode cX10_readsAdvance 34 = .ok (.invokevirtual 95, 3) := by decide +kernel
theorem dX10_readsAdvance_37 : decode cX10_readsAdvance 37 = .ok (.aload_n 0, 1) := by decide +kernel
theorem dX10_readsAdvance_38 : decode cX10_readsAdvance 38 = .ok (.invokevirtual 115, 3) := by decide +kernel
theorem dX10_readsAdvance_41 : decode cX10_readsAdvance 41 = .ok (.aload_n 0, 1) := by decide +kernel
theorem dX10_readsAdvance_42 : decode cX10_readsAdvance 42 = .ok (.getfield 59, 3) := by decide +kernel
theorem dX10_readsAdvance_45 : decode cX10_readsAdvance 45 = .ok (.ifCond .le 4, 3) := by decide +kernel
theorem dX10_readsAdvance_48 : decode cX10_readsAdvance 48 = .ok (.return_, 1) := by decide +kernel
theorem dX10_readsAdvance_49 : decode cX10_readsAdvance 49 = .ok (.aload_n 0, 1) := by decide +kernel
theorem dX10_readsAdvance_50 : decode cX10_readsAdvance 50 = .ok (.dup, 1) := by decide +kernel
theorem dX10_readsAdvance_51 : decode cX10_readsAdvance 51 = .ok (.getfield 227, 3) := by decide +kernel
theorem dX10_readsAdvance_54 : decode cX10_readsAdvance 54 = .ok (.iload_n 1, 1) := by decide +kernel
theorem dX10_readsAdvance_55 : decode cX10_readsAdvance 55 = .ok (.iadd, 1) := by decide +kernel
theorem dX10_readsAdvance_56 : decode cX10_readsAdvance 56 = .ok (.putfield 227, 3) := by decide +kernel
theorem dX10_readsAdvance_59 : decode cX10_readsAdvance 59 = .ok (.aload_n 0, 1) := by decide +kernel
theorem dX10_readsAdvance_60 : decode cX10_readsAdvance 60 = .ok (.iload_n 1, 1) := by decide +kernel
theorem dX10_readsAdvance_61 : decode cX10_readsAdvance 61 = .ok (.invokevirtual 230, 3) := by decide +kernel
theorem dX10_readsAdvance_64 : decode cX10_readsAdvance 64 = .ok (.return_, 1) := by decide +kernel
theorem dX10_readsItems_0 : decode cX10_readsItems 0 = .ok (.aload_n 0, 1) := by decide +kernel
theorem dX10_readsItems_1 : decode cX10_readsItems 1 = .ok (.invokevirtual 115, 3) := by decide +kernel
theorem dX10_readsItems_4 : decode cX10_readsItems 4 = .ok (.aload_n 0, 1) := by decide +kernel
theorem dX10_readsItems_5 : decode cX10_readsItems 5 = .ok (.invokevirtual 233, 3) := by decide +kernel
theorem dX10_readsItems_8 : decode cX10_readsItems 8 = .ok (.aload_n 0, 1) := by decide +kernel
theorem dX10_readsItems_9 : decode cX10_readsItems 9 = .ok (.iconst 4, 1) := by decide +kernel
theorem dX10_readsItems_10 : decode cX10_readsItems 10 = .ok (.invokevirtual 98, 3) := by decide +kernel
theorem dX10_readsItems_13 : decode cX10_readsItems 13 = .ok (.ifCond .ne (-13), 3) := by decide +kernel
theorem dX10_readsItems_16 : decode cX10_readsItems 16 = .ok (.aload_n 0, 1) := by decide +kernel
theorem dX10_readsItems_17 : decode cX10_readsItems 17 = .ok (.bipush 6, 2) := by decide +kernel
theorem dX10_readsItems_19 : decode cX10_readsItems 19 = .ok (.invokevirtual 98, 3) := by decide +kernel
theorem dX10_readsItems_22 : decode cX10_readsItems 22 = .ok (.ifCond .ne 8, 3) := by decide +kernel
theorem dX10_readsItems_25 : decode cX10_readsItems 25 = .ok (.aload_n 0, 1) := by decide +kernel
theorem dX10_readsItems_26 : decode cX10_readsItems 26 = .ok (.iconst 1, 1) := by decide +kernel
theorem dX10_readsItems_27 : decode cX10_readsItems 27 = .ok (.invokevirtual 95, 3) := by decide +kernel
theorem dX10_readsItems_30 : decode cX10_readsItems 30 = .ok (.return_, 1) := by decide +kernel
theorem dX10_readsRepeat_0 : decode cX10_readsRepeat 0 = .ok (.aload_n 0, 1) := by decide +kernel
theorem dX10_readsRepeat_1 : decode cX10_readsRepeat 1 = .ok (.getfield 236, 3) := by decide +kernel
theorem dX10_readsRepeat_4 : decode cX10_readsRepeat 4 = .ok (.iconst 3, 1) := by decide +kernel
theorem dX10_readsRepeat_5 : decode cX10_readsRepeat 5 = .ok (.if_icmp .ne 8, 3) := by decide +kernel
theorem dX10_readsRepeat_8 : decode cX10_readsRepeat 8 = .ok (.aload_n 0, 1) := by decide +kernel
theorem dX10_readsRepeat_9 : decode cX10_readsRepeat 9 = .ok (.iconst 4, 1) := by decide +kernel
theorem dX10_readsRepeat_10 : decode cX10_readsRepeat 10 = .ok (.invokevirtual 95, 3) := by decide +kernel
theorem dX10_readsRepeat_13 : decode cX10_readsRepeat 13 = .ok (.aload_n 0, 1) := by decide +kernel
theorem dX10_readsRepeat_14 : decode cX10_readsRepeat 14 = .ok (.invokevirtual 115, 3) := by decide +kernel
theorem dX10_readsRepeat_17 : decode cX10_readsRepeat 17 = .ok (.aload_n 0, 1) := by decide +kernel
theorem dX10_readsRepeat_18 : decode cX10_readsRepeat 18 = .ok (.iconst 1, 1) := by decide +kernel
theorem dX10_readsRepeat_19 : decode cX10_readsRepeat 19 = .ok (.iconst 5, 1) := by decide +kernel
theorem dX10_readsRepeat_20 : decode cX10_readsRepeat 20 = .ok (.invokevirtual 126, 3) := by decide +kernel
theorem dX10_readsRepeat_23 : decode cX10_readsRepeat 23 = .ok (.istore_n 1, 1) := by decide +kernel
theorem dX10_readsRepeat_24 : decode cX10_readsRepeat 24 = .ok (.aload_n 0, 1) := by decide +kernel
theorem dX10_readsRepeat_25 : decode cX10_readsRepeat 25 = .ok (.iconst 5, 1) := by decide +kernel
theorem dX10_readsRepeat_26 : decode cX10_readsRepeat 26 = .ok (.invokevirtual 98, 3) := by decide +kernel
theorem dX10_readsRepeat_29 : decode cX10_readsRepeat 29 = .ok (.ifCond .ne 8, 3) := by decide +kernel
theorem dX10_readsRepeat_32 : decode cX10_readsRepeat 32 = .ok (.aload_n 0, 1) := by decide +kernel
theorem dX10_readsRepeat_33 : decode cX10_readsRepeat 33 = .ok (.iconst 1, 1) := by decide +kernel
theorem dX10_readsRepeat_34 : decode cX10_readsRepeat 34 = .ok (.invokevirtual 95, 3) := by decide +kernel
theorem dX10_readsRepeat_37 : decode cX10_readsRepeat 37 = .ok (.aload_n 0, 1) := by decide +kernel
theorem dX10_readsRepeat_38 : decode cX10_readsRepeat 38 = .ok (.getfield 73, 3) := by decide +kernel
theorem dX10_readsRepeat_41 : decode cX10_readsRepeat 41 = .ok (.istore_n 2, 1) := by decide +kernel
theorem dX10_readsRepeat_42 : decode cX10_readsRepeat 42 = .ok (.aload_n 0, 1) := by decide +kernel
theorem dX10_readsRepeat_43 : decode cX10_readsRepeat 43 = .ok (.dup, 1) := by decide +kernel
theorem dX10_readsRepeat_44 : decode cX10_readsRepeat 44 = .ok (.getfield 236, 3) := by decide +kernel
theorem dX10_readsRepeat_47 : decode cX10_readsRepeat 47 = .ok (.iconst 1, 1) := by decide +kernel
theorem dX10_readsRepeat_48 : decode cX10_readsRepeat 48 = .ok (.iadd, 1) := by decide +kernel
theorem dX10_readsRepeat_49 : decode cX10_readsRepeat 49 = .ok (.putfield 236, 3) := by decide +kernel
theorem dX10_readsRepeat_52 : decode cX10_readsRepeat 52 = .ok (.iconst 0, 1) := by decide +kernel
theorem dX10_readsRepeat_53 : decode cX10_readsRepeat 53 = .ok (.istore_n 3, 1) := by decide +kernel
theorem dX10_readsRepeat_54 : decode cX10_readsRepeat 54 = .ok (.iload_n 3, 1) := by decide +kernel
theorem dX10_readsRepeat_55 : decode cX10_readsRepeat 55 = .ok (.iload_n 1, 1) := by decide +kernel
theorem dX10_readsRepeat_56 : decode cX10_readsRepeat 56 = .ok (.if_icmp .ge 25, 3) := by decide +kernel
theorem dX10_readsRepeat_59 : decode cX10_readsRepeat 59 = .ok (.aload_n 0, 1) := by decide +kernel
theorem dX10_readsRepeat_60 : decode cX10_readsRepeat 60 = .ok (.getfield 59, 3) := by decide +kernel
theorem dX10_readsRepeat_63 : decode cX10_readsRepeat 63 = .ok (.ifCond .ne 18, 3) := by decide +kernel
theorem dX10_readsRepeat_66 : decode cX10_readsRepeat 66 = .ok (.aload_n 0, 1) := by decide +kernel
theorem dX10_readsRepeat_67 : decode cX10_readsRepeat 67 = .ok (.iload_n 2, 1) := by decide +kernel
theorem dX10_readsRepeat_68 : decode cX10_readsRepeat 68 = .ok (.putfield 73, 3) := by decide +kernel
theorem dX10_readsRepeat_71 : decode cX10_readsRepeat 71 = .ok (.aload_n 0, 1) := by decide +kernel
theorem dX10_readsRepeat_72 : decode cX10_readsRepeat 72 = .ok (.invokevirtual 239, 3) := by decide +kernel
theorem dX10_readsRepeat_75 : decode cX10_readsRepeat 75 = .ok (.iinc 3 1, 3) := by decide +kernel
theorem dX10_readsRepeat_78 : decode cX10_readsRepeat 78 = .ok (.goto (-24), 3) := by decide +kernel
theorem dX10_readsRepeat_81 : decode cX10_readsRepeat 81 = .ok (.aload_n 0, 1) := by decide +kernel
theorem dX10_readsRepeat_82 : decode cX10_readsRepeat 82 = .ok (.dup, 1) := by decide +kernel
theorem dX10_readsRepeat_83 : decode cX10_readsRepeat 83 = .ok (.getfield 236, 3) := by decide +kernel
theorem dX10_readsRepeat_86 : decode cX10_readsRepeat 86 = .ok (.iconst 1, 1) := by decide +kernel
theorem dX10_readsRepeat_87 : decode cX10_readsRepeat 87 = .ok (.isub, 1) := by decide +kernel
theorem dX10_readsRepeat_88 : decode cX10_readsRepeat 88 = .ok (.putfield 236, 3) := by decide +kernel
theorem dX10_readsRepeat_91 : decode cX10_readsRepeat 91 = .ok (.aload_n 0, 1) := by decide +kernel
theorem dX10_readsRepeat_92 : decode cX10_readsRepeat 92 = .ok (.invokevirtual 115, 3) := by decide +kernel
theorem dX10_readsRepeat_95 : decode cX10_readsRepeat 95 = .ok (.return_, 1) := by decide +kernel
theorem dX10_readsItem_0 : decode cX10_readsItem 0 = .ok (.aload_n 0, 1) := by decide +kernel
theorem dX10_readsItem_1 : decode cX10_readsItem 1 = .ok (.ldc 242, 2) := by decide +kernel
theorem dX10_readsItem_3 : decode cX10_readsItem 3 = .ok (.invokevirtual 135, 3) := by decide +kernel
theorem dX10_readsItem_6 : decode cX10_readsItem 6 = .ok (.ifCond .eq 10, 3) := by decide +kernel
theorem dX10_readsItem_9 : decode cX10_readsItem 9 = .ok (.aload_n 0, 1) := by decide +kernel
theorem dX10_readsItem_10 : decode cX10_readsItem 10 = .ok (.invokevirtual 244, 3) := by decide +kernel
theorem dX10_readsItem_13 : decode cX10_readsItem 13 = .ok (.goto 192, 3) := by decide +kernel
theorem dX10_readsItem_16 : decode cX10_readsItem 16 = .ok (.aload_n 0, 1) := by decide +kernel
theorem dX10_readsItem_17 : decode cX10_readsItem 17 = .ok (.ldc 247, 2) := by decide +kernel
theorem dX10_readsItem_19 : decode cX10_readsItem 19 = .ok (.invokevirtual 135, 3) := by decide +kernel
theorem dX10_readsItem_22 : decode cX10_readsItem 22 = .ok (.ifCond .eq 10, 3) := by decide +kernel
theorem dX10_readsItem_25 : decode cX10_readsItem 25 = .ok (.aload_n 0, 1) := by decide +kernel
theorem dX10_readsItem_26 : decode cX10_readsItem 26 = .ok (.invokevirtual 249, 3) := by decide +kernel
theorem dX10_readsItem_29 : decode cX10_readsItem 29 = .ok (.goto 176, 3) := by decide +kernel
theorem dX10_readsItem_32 : decode cX10_readsItem 32 = .ok (.aload_n 0, 1) := by decide +kernel
theorem dX10_readsItem_33 : decode cX10_readsItem 33 = .ok (.ldc 252, 2) := by decide +kernel
theorem dX10_readsItem_35 : decode cX10_readsItem 35 = .ok (.invokevirtual 135, 3) := by decide +kernel
theorem dX10_readsItem_38 : decode cX10_readsItem 38 = .ok (.ifCond .eq 10, 3) := by decide +kernel
theorem dX10_readsItem_41 : decode cX10_readsItem 41 = .ok (.aload_n 0, 1) := by decide +kernel
theorem dX10_readsItem_42 : decode cX10_readsItem 42 = .ok (.invokevirtual 254, 3) := by decide +kernel
theorem dX10_readsItem_45 : decode cX10_readsItem 45 = .ok (.goto 160, 3) := by decide +kernel
theorem dX10_readsItem_48 : decode cX10_readsItem 48 = .ok (.aload_n 0, 1) := by decide +kernel
theorem dX10_readsItem_49 : decode cX10_readsItem 49 = .ok (.ldc_w 257, 3) := by decide +kernel
theorem dX10_readsItem_52 : decode cX10_readsItem 52 = .ok (.invokevirtual 135, 3) := by decide +kernel
theorem dX10_readsItem_55 : decode cX10_readsItem 55 = .ok (.ifCond .eq 13, 3) := by decide +kernel
theorem dX10_readsItem_58 : decode cX10_readsItem 58 = .ok (.aload_n 0, 1) := by decide +kernel
theorem dX10_readsItem_59 : decode cX10_readsItem 59 = .ok (.iconst 5, 1) := by decide +kernel
theorem dX10_readsItem_60 : decode cX10_readsItem 60 = .ok (.bipush 30, 2) := by decide +kernel
theorem dX10_readsItem_62 : decode cX10_readsItem 62 = .ok (.invokevirtual 259, 3) := by decide +kernel
theorem dX10_readsItem_65 : decode cX10_readsItem 65 = .ok (.goto 140, 3) := by decide +kernel
theorem dX10_readsItem_68 : decode cX10_readsItem 68 = .ok (.aload_n 0, 1) := by decide +kernel
theorem dX10_readsItem_69 : decode cX10_readsItem 69 = .ok (.ldc_w 262, 3) := by decide +kernel
theorem dX10_readsItem_72 : decode cX10_readsItem 72 = .ok (.invokevirtual 135, 3) := by decide +kernel
theorem dX10_readsItem_75 : decode cX10_readsItem 75 = .ok (.ifCond .eq 14, 3) := by decide +kernel
theorem dX10_readsItem_78 : decode cX10_readsItem 78 = .ok (.aload_n 0, 1) := by decide +kernel
theorem dX10_readsItem_79 : decode cX10_readsItem 79 = .ok (.bipush 6, 2) := by decide +kernel
theorem dX10_readsItem_81 : decode cX10_readsItem 81 = .ok (.bipush 50, 2) := by decide +kernel
theorem dX10_readsItem_83 : decode cX10_readsItem 83 = .ok (.invokevirtual 259, 3) := by decide +kernel
theorem dX10_readsItem_86 : decode cX10_readsItem 86 = .ok (.goto 119, 3) := by decide +kernel
theorem dX10_readsItem_89 : decode cX10_readsItem 89 = .ok (.aload_n 0, 1) := by decide +kernel
theorem dX10_readsItem_90 : decode cX10_readsItem 90 = .ok (.ldc_w 264, 3) := by decide +kernel
theorem dX10_readsItem_93 : decode cX10_readsItem 93 = .ok (.invokevirtual 135, 3) := by decide +kernel
theorem dX10_readsItem_96 : decode cX10_readsItem 96 = .ok (.ifCond .eq 20, 3) := by decide +kernel
theorem dX10_readsItem_99 : decode cX10_readsItem 99 = .ok (.aload_n 0, 1) := by decide +kernel
theorem dX10_readsItem_100 : decode cX10_readsItem 100 = .ok (.bipush 8, 2) := by decide +kernel
theorem dX10_readsItem_102 : decode cX10_readsItem 102 = .ok (.aload_n 0, 1) := by decide +kernel
theorem dX10_readsItem_103 : decode cX10_readsItem 103 = .ok (.getfield 9, 3) := by decide +kernel
theorem dX10_readsItem_106 : decode cX10_readsItem 106 = .ok (.iconst 0, 1) := by decide +kernel
theorem dX10_readsItem_107 : decode cX10_readsItem 107 = .ok (.iaload, 1) := by decide +kernel
theorem dX10_readsItem_108 : decode cX10_readsItem 108 = .ok (.iconst 1, 1) := by decide +kernel
theorem dX10_readsItem_109 : decode cX10_readsItem 109 = .ok (.isub, 1) := by decide +kernel
theorem dX10_readsItem_110 : decode cX10_readsItem 110 = .ok (.invokevirtual 259, 3) := by decide +kernel
theorem dX10_readsItem_113 : decode cX10_readsItem 113 = .ok (.goto 92, 3) := by decide +kernel
theorem dX10_readsItem_116 : decode cX10_readsItem 116 = .ok (.aload_n 0, 1) := by decide +kernel
theorem dX10_readsItem_117 : decode cX10_readsItem 117 = .ok (.ldc_w 266, 3) := by decide +kernel
theorem dX10_readsItem_120 : decode cX10_readsItem 120 = .ok (.invokevirtual 135, 3) := by decide +kernel
theorem dX10_readsItem_123 : decode cX10_readsItem 123 = .ok (.ifCond .eq 10, 3) := by decide +kernel
theorem dX10_readsItem_126 : decode cX10_readsItem 126 = .ok (.aload_n 0, 1) := by decide +kernel
theorem dX10_readsItem_127 : decode cX10_readsItem 127 = .ok (.invokevirtual 268, 3) := by decide +kernel
theorem dX10_readsItem_130 : decode cX10_readsItem 130 = .ok (.goto 75, 3) := by decide +kernel
theorem dX10_readsItem_133 : decode cX10_readsItem 133 = .ok (.aload_n 0, 1) := by decide +kernel
theorem dX10_readsItem_134 : decode cX10_readsItem 134 = .ok (.ldc_w 271, 3) := by decide +kernel
theorem dX10_readsItem_137 : decode cX10_readsItem 137 = .ok (.invokevirtual 135, 3) := by decide +kernel
theorem dX10_readsItem_140 : decode cX10_readsItem 140 = .ok (.ifCond .eq 10, 3) := by decide +kernel
theorem dX10_readsItem_143 : decode cX10_readsItem 143 = .ok (.aload_n 0, 1) := by decide +kernel
theorem dX10_readsItem_144 : decode cX10_readsItem 144 = .ok (.invokevirtual 273, 3) := by decide +kernel
theorem dX10_readsItem_147 : decode cX10_readsItem 147 = .ok (.goto 58, 3) := by decide +kernel
theorem dX10_readsItem_150 : decode cX10_readsItem 150 = .ok (.aload_n 0, 1) := by decide +kernel
theorem dX10_readsItem_151 : decode cX10_readsItem 151 = .ok (.ldc_w 276, 3) := by decide +kernel
theorem dX10_readsItem_154 : decode cX10_readsItem 154 = .ok (.invokevirtual 135, 3) := by decide +kernel
theorem dX10_readsItem_157 : decode cX10_readsItem 157 = .ok (.ifCond .eq 10, 3) := by decide +kernel
theorem dX10_readsItem_160 : decode cX10_readsItem 160 = .ok (.aload_n 0, 1) := by decide +kernel
theorem dX10_readsItem_161 : decode cX10_readsItem 161 = .ok (.invokevirtual 278, 3) := by decide +kernel
theorem dX10_readsItem_164 : decode cX10_readsItem 164 = .ok (.goto 41, 3) := by decide +kernel
theorem dX10_readsItem_167 : decode cX10_readsItem 167 = .ok (.aload_n 0, 1) := by decide +kernel
theorem dX10_readsItem_168 : decode cX10_readsItem 168 = .ok (.ldc_w 281, 3) := by decide +kernel
theorem dX10_readsItem_171 : decode cX10_readsItem 171 = .ok (.invokevirtual 135, 3) := by decide +kernel
theorem dX10_readsItem_174 : decode cX10_readsItem 174 = .ok (.ifCond .eq 10, 3) := by decide +kernel
theorem dX10_readsItem_177 : decode cX10_readsItem 177 = .ok (.aload_n 0, 1) := by decide +kernel
theorem dX10_readsItem_178 : decode cX10_readsItem 178 = .ok (.invokevirtual 283, 3) := by decide +kernel
theorem dX10_readsItem_181 : decode cX10_readsItem 181 = .ok (.goto 24, 3) := by decide +kernel
theorem dX10_readsItem_184 : decode cX10_readsItem 184 = .ok (.aload_n 0, 1) := by decide +kernel
theorem dX10_readsItem_185 : decode cX10_readsItem 185 = .ok (.ldc_w 286, 3) := by decide +kernel
theorem dX10_readsItem_188 : decode cX10_readsItem 188 = .ok (.invokevirtual 135, 3) := by decide +kernel
theorem dX10_readsItem_191 : decode cX10_readsItem 191 = .ok (.ifCond .eq 10, 3) := by decide +kernel
theorem dX10_readsItem_194 : decode cX10_readsItem 194 = .ok (.aload_n 0, 1) := by decide +kernel
theorem dX10_readsItem_195 : decode cX10_readsItem 195 = .ok (.invokevirtual 288, 3) := by decide +kernel
theorem dX10_readsItem_198 : decode cX10_readsItem 198 = .ok (.goto 7, 3) := by decide +kernel
theorem dX10_readsItem_201 : decode cX10_readsItem 201 = .ok (.aload_n 0, 1) := by decide +kernel
theorem dX10_readsItem_202 : decode cX10_readsItem 202 = .ok (.invokevirtual 291, 3) := by decide +kernel
theorem dX10_readsItem_205 : decode cX10_readsItem 205 = .ok (.return_, 1) := by decide +kernel
theorem dX10_readsTrade_0 : decode cX10_readsTrade 0 = .ok (.aload_n 0, 1) := by decide +kernel
theorem dX10_readsTrade_1 : decode cX10_readsTrade 1 = .ok (.ldc_w 294, 3) := by decide +kernel
theorem dX10_readsTrade_4 : decode cX10_readsTrade 4 = .ok (.invokevirtual 135, 3) := by decide +kernel
theorem dX10_readsTrade_7 : decode cX10_readsTrade 7 = .ok (.ifCond .eq 10, 3) := by decide +kernel
theorem dX10_readsTrade_10 : decode cX10_readsTrade 10 = .ok (.aload_n 0, 1) := by decide +kernel
theorem dX10_readsTrade_11 : decode cX10_readsTrade 11 = .ok (.invokevirtual 296, 3) := by decide +kernel
theorem dX10_readsTrade_14 : decode cX10_readsTrade 14 = .ok (.goto 110, 3) := by decide +kernel
theorem dX10_readsTrade_17 : decode cX10_readsTrade 17 = .ok (.aload_n 0, 1) := by decide +kernel
theorem dX10_readsTrade_18 : decode cX10_readsTrade 18 = .ok (.ldc_w 299, 3) := by decide +kernel
theorem dX10_readsTrade_21 : decode cX10_readsTrade 21 = .ok (.invokevirtual 135, 3) := by decide +kernel
theorem dX10_readsTrade_24 : decode cX10_readsTrade 24 = .ok (.ifCond .eq 10, 3) := by decide +kernel
theorem dX10_readsTrade_27 : decode cX10_readsTrade 27 = .ok (.aload_n 0, 1) := by decide +kernel
theorem dX10_readsTrade_28 : decode cX10_readsTrade 28 = .ok (.invokevirtual 301, 3) := by decide +kernel
theorem dX10_readsTrade_31 : decode cX10_readsTrade 31 = .ok (.goto 93, 3) := by decide +kernel
theorem dX10_readsTrade_34 : decode cX10_readsTrade 34 = .ok (.aload_n 0, 1) := by decide +kernel
theorem dX10_readsTrade_35 : decode cX10_readsTrade 35 = .ok (.ldc_w 304, 3) := by decide +kernel
theorem dX10_readsTrade_38 : decode cX10_readsTrade 38 = .ok (.invokevirtual 135, 3) := by decide +kernel
theorem dX10_readsTrade_41 : decode cX10_readsTrade 41 = .ok (.ifCond .eq 10, 3) := by decide +kernel
theorem dX10_readsTrade_44 : decode cX10_readsTrade 44 = .ok (.aload_n 0, 1) := by decide +kernel
theorem dX10_readsTrade_45 : decode cX10_readsTrade 45 = .ok (.invokevirtual 306, 3) := by decide +kernel
theorem dX10_readsTrade_48 : decode cX10_readsTrade 48 = .ok (.goto 76, 3) := by decide +kernel
theorem dX10_readsTrade_51 : decode cX10_readsTrade 51 = .ok (.aload_n 0, 1) := by decide +kernel
theorem dX10_readsTrade_52 : decode cX10_readsTrade 52 = .ok (.ldc_w 309, 3) := by decide +kernel
theorem dX10_readsTrade_55 : decode cX10_readsTrade 55 = .ok (.invokevirtual 135, 3) := by decide +kernel
theorem dX10_readsTrade_58 : decode cX10_readsTrade 58 = .ok (.ifCond .eq 10, 3) := by decide +kernel
theorem dX10_readsTrade_61 : decode cX10_readsTrade 61 = .ok (.aload_n 0, 1) := by decide +kernel
theorem dX10_readsTrade_62 : decode cX10_readsTrade 62 = .ok (.invokevirtual 311, 3) := by decide +kernel
theorem dX10_readsTrade_65 : decode cX10_readsTrade 65 = .ok (.goto 59, 3) := by decide +kernel
theorem dX10_readsTrade_68 : decode cX10_readsTrade 68 = .ok (.aload_n 0, 1) := by decide +kernel
theorem dX10_readsTrade_69 : decode cX10_readsTrade 69 = .ok (.ldc_w 314, 3) := by decide +kernel
theorem dX10_readsTrade_72 : decode cX10_readsTrade 72 = .ok (.invokevirtual 135, 3) := by decide +kernel
theorem dX10_readsTrade_75 : decode cX10_readsTrade 75 = .ok (.ifCond .eq 10, 3) := by decide +kernel
theorem dX10_readsTrade_78 : decode cX10_readsTrade 78 = .ok (.aload_n 0, 1) := by decide +kernel
theorem dX10_readsTrade_79 : decode cX10_readsTrade 79 = .ok (.invokevirtual 316, 3) := by decide +kernel
theorem dX10_readsTrade_82 : decode cX10_readsTrade 82 = .ok (.goto 42, 3) := by decide +kernel
theorem dX10_readsTrade_85 : decode cX10_readsTrade 85 = .ok (.aload_n 0, 1) := by decide +kernel
theorem dX10_readsTrade_86 : decode cX10_readsTrade 86 = .ok (.ldc_w 319, 3) := by decide +kernel
theorem dX10_readsTrade_89 : decode cX10_readsTrade 89 = .ok (.invokevirtual 135, 3) := by decide +kernel
theorem dX10_readsTrade_92 : decode cX10_readsTrade 92 = .ok (.ifCond .eq 10, 3) := by decide +kernel
theorem dX10_readsTrade_95 : decode cX10_readsTrade 95 = .ok (.aload_n 0, 1) := by decide +kernel
theorem dX10_readsTrade_96 : decode cX10_readsTrade 96 = .ok (.invokevirtual 321, 3) := by decide +kernel
theorem dX10_readsTrade_99 : decode cX10_readsTrade 99 = .ok (.goto 25, 3) := by decide +kernel
theorem dX10_readsTrade_102 : decode cX10_readsTrade 102 = .ok (.aload_n 0, 1) := by decide +kernel
theorem dX10_readsTrade_103 : decode cX10_readsTrade 103 = .ok (.ldc_w 324, 3) := by decide +kernel
theorem dX10_readsTrade_106 : decode cX10_readsTrade 106 = .ok (.invokevirtual 135, 3) := by decide +kernel
theorem dX10_readsTrade_109 : decode cX10_readsTrade 109 = .ok (.ifCond .eq 10, 3) := by decide +kernel
theorem dX10_readsTrade_112 : decode cX10_readsTrade 112 = .ok (.aload_n 0, 1) := by decide +kernel
theorem dX10_readsTrade_113 : decode cX10_readsTrade 113 = .ok (.invokevirtual 326, 3) := by decide +kernel
theorem dX10_readsTrade_116 : decode cX10_readsTrade 116 = .ok (.goto 8, 3) := by decide +kernel
theorem dX10_readsTrade_119 : decode cX10_readsTrade 119 = .ok (.aload_n 0, 1) := by decide +kernel
theorem dX10_readsTrade_120 : decode cX10_readsTrade 120 = .ok (.iconst 1, 1) := by decide +kernel
theorem dX10_readsTrade_121 : decode cX10_readsTrade 121 = .ok (.invokevirtual 95, 3) := by decide +kernel
theorem dX10_readsTrade_124 : decode cX10_readsTrade 124 = .ok (.return_, 1) := by decide +kernel
theorem dX10_readsText_0 : decode cX10_readsText 0 = .ok (.aload_n 0, 1) := by decide +kernel
theorem dX10_readsText_1 : decode cX10_readsText 1 = .ok (.invokevirtual 115, 3) := by decide +kernel
theorem dX10_readsText_4 : decode cX10_readsText 4 = .ok (.aload_n 0, 1) := by decide +kernel
theorem dX10_readsText_5 : decode cX10_readsText 5 = .ok (.ldc_w 329, 3) := by decide +kernel
theorem dX10_readsText_8 : decode cX10_readsText 8 = .ok (.invokevirtual 135, 3) := by decide +kernel
theorem dX10_readsText_11 : decode cX10_readsText 11 = .ok (.ifCond .ne 8, 3) := by decide +kernel
theorem dX10_readsText_14 : decode cX10_readsText 14 = .ok (.aload_n 0, 1) := by decide +kernel
theorem dX10_readsText_15 : decode cX10_readsText 15 = .ok (.iconst 1, 1) := by decide +kernel
theorem dX10_readsText_16 : decode cX10_readsText 16 = .ok (.invokevirtual 95, 3) := by decide +kernel
theorem dX10_readsText_19 : decode cX10_readsText 19 = .ok (.aload_n 0, 1) := by decide +kernel
theorem dX10_readsText_20 : decode cX10_readsText 20 = .ok (.invokevirtual 115, 3) := by decide +kernel
theorem dX10_readsText_23 : decode cX10_readsText 23 = .ok (.aload_n 0, 1) := by decide +kernel
theorem dX10_readsText_24 : decode cX10_readsText 24 = .ok (.getfield 9, 3) := by decide +kernel
theorem dX10_readsText_27 : decode cX10_readsText 27 = .ok (.iconst 0, 1) := by decide +kernel
theorem dX10_readsText_28 : decode cX10_readsText 28 = .ok (.aload_n 0, 1) := by decide +kernel
theorem dX10_readsText_29 : decode cX10_readsText 29 = .ok (.iconst 4, 1) := by decide +kernel
theorem dX10_readsText_30 : decode cX10_readsText 30 = .ok (.bipush 60, 2) := by decide +kernel
theorem dX10_readsText_32 : decode cX10_readsText 32 = .ok (.invokevirtual 126, 3) := by decide +kernel
theorem dX10_readsText_35 : decode cX10_readsText 35 = .ok (.iastore, 1) := by decide +kernel
theorem dX10_readsText_36 : decode cX10_readsText 36 = .ok (.aload_n 0, 1) := by decide +kernel
theorem dX10_readsText_37 : decode cX10_readsText 37 = .ok (.iconst 4, 1) := by decide +kernel
theorem dX10_readsText_38 : decode cX10_readsText 38 = .ok (.invokevirtual 98, 3) := by decide +kernel
theorem dX10_readsText_41 : decode cX10_readsText 41 = .ok (.ifCond .eq 14, 3) := by decide +kernel
theorem dX10_readsText_44 : decode cX10_readsText 44 = .ok (.aload_n 0, 1) := by decide +kernel
theorem dX10_readsText_45 : decode cX10_readsText 45 = .ok (.invokevirtual 115, 3) := by decide +kernel
theorem dX10_readsText_48 : decode cX10_readsText 48 = .ok (.aload_n 0, 1) := by decide +kernel
theorem dX10_readsText_49 : decode cX10_readsText 49 = .ok (.invokevirtual 233, 3) := by decide +kernel
theorem dX10_readsText_52 : decode cX10_readsText 52 = .ok (.goto (-16), 3) := by decide +kernel
theorem dX10_readsText_55 : decode cX10_readsText 55 = .ok (.aload_n 0, 1) := by decide +kernel
theorem dX10_readsText_56 : decode cX10_readsText 56 = .ok (.iconst 1, 1) := by decide +kernel
theorem dX10_readsText_57 : decode cX10_readsText 57 = .ok (.invokevirtual 98, 3) := by decide +kernel
theorem dX10_readsText_60 : decode cX10_readsText 60 = .ok (.ifCond .ne 8, 3) := by decide +kernel
theorem dX10_readsText_63 : decode cX10_readsText 63 = .ok (.aload_n 0, 1) := by decide +kernel
theorem dX10_readsText_64 : decode cX10_readsText 64 = .ok (.iconst 1, 1) := by decide +kernel
theorem dX10_readsText_65 : decode cX10_readsText 65 = .ok (.invokevirtual 95, 3) := by decide +kernel
theorem dX10_readsText_68 : decode cX10_readsText 68 = .ok (.aload_n 0, 1) := by decide +kernel
theorem dX10_readsText_69 : decode cX10_readsText 69 = .ok (.getfield 9, 3) := by decide +kernel
theorem dX10_readsText_72 : decode cX10_readsText 72 = .ok (.iconst 3, 1) := by decide +kernel
theorem dX10_readsText_73 : decode cX10_readsText 73 = .ok (.iaload, 1) := by decide +kernel
theorem dX10_readsText_74 : decode cX10_readsText 74 = .ok (.ifCond .eq 12, 3) := by decide +kernel
theorem dX10_readsText_77 : decode cX10_readsText 77 = .ok (.aload_n 0, 1) := by decide +kernel
theorem dX10_readsText_78 : decode cX10_readsText 78 = .ok (.getfield 9, 3) := by decide +kernel
theorem dX10_readsText_81 : decode cX10_readsText 81 = .ok (.iconst 2, 1) := by decide +kernel
theorem dX10_readsText_82 : decode cX10_readsText 82 = .ok (.iaload, 1) := by decide +kernel
theorem dX10_readsText_83 : decode cX10_readsText 83 = .ok (.ifCond .ne 8, 3) := by decide +kernel
theorem dX10_readsText_86 : decode cX10_readsText 86 = .ok (.aload_n 0, 1) := by decide +kernel
theorem dX10_readsText_87 : decode cX10_readsText 87 = .ok (.iconst 4, 1) := by decide +kernel
theorem dX10_readsText_88 : decode cX10_readsText 88 = .ok (.invokevirtual 95, 3) := by decide +kernel
theorem dX10_readsText_91 : decode cX10_readsText 91 = .ok (.return_, 1) := by decide +kernel
theorem dX10_parseSetup_0 : decode cX10_parseSetup 0 = .ok (.aload_n 0, 1) := by decide +kernel
theorem dX10_parseSetup_1 : decode cX10_parseSetup 1 = .ok (.iload_n 1, 1) := by decide +kernel
theorem dX10_parseSetup_2 : decode cX10_parseSetup 2 = .ok (.iconst 0, 1) := by decide +kernel
theorem dX10_parseSetup_3 : decode cX10_parseSetup 3 = .ok (.aload_n 0, 1) := by decide +kernel
theorem dX10_parseSetup_4 : decode cX10_parseSetup 4 = .ok (.getfield 52, 3) := by decide +kernel
theorem dX10_parseSetup_7 : decode cX10_parseSetup 7 = .ok (.invokestatic 69, 3) := by decide +kernel
theorem dX10_parseSetup_10 : decode cX10_parseSetup 10 = .ok (.iconst 1, 1) := by decide +kernel
theorem dX10_parseSetup_11 : decode cX10_parseSetup 11 = .ok (.iconst 1, 1) := by decide +kernel
theorem dX10_parseSetup_12 : decode cX10_parseSetup 12 = .ok (.invokevirtual 40, 3) := by decide +kernel
theorem dX10_parseSetup_15 : decode cX10_parseSetup 15 = .ok (.ifCond .ne 5, 3) := by decide +kernel
theorem dX10_parseSetup_18 : decode cX10_parseSetup 18 = .ok (.iconst 0, 1) := by decide +kernel
theorem dX10_parseSetup_19 : decode cX10_parseSetup 19 = .ok (.ireturn, 1) := by decide +kernel
theorem dX10_parseSetup_20 : decode cX10_parseSetup 20 = .ok (.aload_n 0, 1) := by decide +kernel
theorem dX10_parseSetup_21 : decode cX10_parseSetup 21 = .ok (.iload_n 1, 1) := by decide +kernel
theorem dX10_parseSetup_22 : decode cX10_parseSetup 22 = .ok (.putfield 66, 3) := by decide +kernel
theorem dX10_parseSetup_25 : decode cX10_parseSetup 25 = .ok (.aload_n 0, 1) := by decide +kernel
theorem dX10_parseSetup_26 : decode cX10_parseSetup 26 = .ok (.iconst 0, 1) := by decide +kernel
theorem dX10_parseSetup_27 : decode cX10_parseSetup 27 = .ok (.putfield 73, 3) := by decide +kernel
theorem dX10_parseSetup_30 : decode cX10_parseSetup 30 = .ok (.aload_n 0, 1) := by decide +kernel
theorem dX10_parseSetup_31 : decode cX10_parseSetup 31 = .ok (.iconst 0, 1) := by decide +kernel
theorem dX10_parseSetup_32 : decode cX10_parseSetup 32 = .ok (.putfield 52, 3) := by decide +kernel
theorem dX10_parseSetup_35 : decode cX10_parseSetup 35 = .ok (.aload_n 0, 1) := by decide +kernel
theorem dX10_parseSetup_36 : decode cX10_parseSetup 36 = .ok (.iconst 0, 1) := by decide +kernel
theorem dX10_parseSetup_37 : decode cX10_parseSetup 37 = .ok (.putfield 59, 3) := by decide +kernel
theorem dX10_parseSetup_40 : decode cX10_parseSetup 40 = .ok (.aload_n 0, 1) := by decide +kernel
theorem dX10_parseSetup_41 : decode cX10_parseSetup 41 = .ok (.iconst (-1), 1) := by decide +kernel
theorem dX10_parseSetup_42 : decode cX10_parseSetup 42 = .ok (.putfield 30, 3) := by decide +kernel
theorem dX10_parseSetup_45 : decode cX10_parseSetup 45 = .ok (.aload_n 0, 1) := by decide +kernel
theorem dX10_parseSetup_46 : decode cX10_parseSetup 46 = .ok (.iconst 0, 1) := by decide +kernel
theorem dX10_parseSetup_47 : decode cX10_parseSetup 47 = .ok (.putfield 236, 3) := by decide +kernel
theorem dX10_parseSetup_50 : decode cX10_parseSetup 50 = .ok (.aload_n 0, 1) := by decide +kernel
theorem dX10_parseSetup_51 : decode cX10_parseSetup 51 = .ok (.iconst 0, 1) := by decide +kernel
theorem dX10_parseSetup_52 : decode cX10_parseSetup 52 = .ok (.putfield 227, 3) := by decide +kernel
theorem dX10_parseSetup_55 : decode cX10_parseSetup 55 = .ok (.aload_n 0, 1) := by decide +kernel
theorem dX10_parseSetup_56 : decode cX10_parseSetup 56 = .ok (.invokevirtual 331, 3) := by decide +kernel
theorem dX10_parseSetup_59 : decode cX10_parseSetup 59 = .ok (.iconst 0, 1) := by decide +kernel
theorem dX10_parseSetup_60 : decode cX10_parseSetup 60 = .ok (.istore_n 2, 1) := by decide +kernel
theorem dX10_parseSetup_61 : decode cX10_parseSetup 61 = .ok (.iload_n 2, 1) := by decide +kernel
theorem dX10_parseSetup_62 : decode cX10_parseSetup 62 = .ok (.sipush 355, 3) := by decide +kernel
theorem dX10_parseSetup_65 : decode cX10_parseSetup 65 = .ok (.if_icmp .ge 16, 3) := by decide +kernel
theorem dX10_parseSetup_68 : decode cX10_parseSetup 68 = .ok (.aload_n 0, 1) := by decide +kernel
theorem dX10_parseSetup_69 : decode cX10_parseSetup 69 = .ok (.getfield 9, 3) := by decide +kernel
theorem dX10_parseSetup_72 : decode cX10_parseSetup 72 = .ok (.iload_n 2, 1) := by decide +kernel
theorem dX10_parseSetup_73 : decode cX10_parseSetup 73 = .ok (.iconst 0, 1) := by decide +kernel
theorem dX10_parseSetup_74 : decode cX10_parseSetup 74 = .ok (.iastore, 1) := by decide +kernel
theorem dX10_parseSetup_75 : decode cX10_parseSetup 75 = .ok (.iinc 2 1, 3) := by decide +kernel
theorem dX10_parseSetup_78 : decode cX10_parseSetup 78 = .ok (.goto (-17), 3) := by decide +kernel
theorem dX10_parseSetup_81 : decode cX10_parseSetup 81 = .ok (.aload_n 0, 1) := by decide +kernel
theorem dX10_parseSetup_82 : decode cX10_parseSetup 82 = .ok (.getfield 9, 3) := by decide +kernel
theorem dX10_parseSetup_85 : decode cX10_parseSetup 85 = .ok (.iconst 5, 1) := by decide +kernel
theorem dX10_parseSetup_86 : decode cX10_parseSetup 86 = .ok (.iconst 3, 1) := by decide +kernel
theorem dX10_parseSetup_87 : decode cX10_parseSetup 87 = .ok (.iastore, 1) := by decide +kernel
theorem dX10_parseSetup_88 : decode cX10_parseSetup 88 = .ok (.aload_n 0, 1) := by decide +kernel
theorem dX10_parseSetup_89 : decode cX10_parseSetup 89 = .ok (.getfield 9, 3) := by decide +kernel
theorem dX10_parseSetup_92 : decode cX10_parseSetup 92 = .ok (.bipush 6, 2) := by decide +kernel
theorem dX10_parseSetup_94 : decode cX10_parseSetup 94 = .ok (.bipush 10, 2) := by decide +kernel
theorem dX10_parseSetup_96 : decode cX10_parseSetup 96 = .ok (.iastore, 1) := by decide +kernel
theorem dX10_parseSetup_97 : decode cX10_parseSetup 97 = .ok (.aload_n 0, 1) := by decide +kernel
theorem dX10_parseSetup_98 : decode cX10_parseSetup 98 = .ok (.getfield 9, 3) := by decide +kernel
theorem dX10_parseSetup_101 : decode cX10_parseSetup 101 = .ok (.bipush 8, 2) := by decide +kernel
theorem dX10_parseSetup_103 : decode cX10_parseSetup 103 = .ok (.iconst (-1), 1) := by decide +kernel
theorem dX10_parseSetup_104 : decode cX10_parseSetup 104 = .ok (.iastore, 1) := by decide +kernel
theorem dX10_parseSetup_105 : decode cX10_parseSetup 105 = .ok (.aload_n 0, 1) := by decide +kernel
theorem dX10_parseSetup_106 : decode cX10_parseSetup 106 = .ok (.getfield 9, 3) := by decide +kernel
theorem dX10_parseSetup_109 : decode cX10_parseSetup 109 = .ok (.bipush 9, 2) := by decide +kernel
theorem dX10_parseSetup_111 : decode cX10_parseSetup 111 = .ok (.iconst (-1), 1) := by decide +kernel
theorem dX10_parseSetup_112 : decode cX10_parseSetup 112 = .ok (.iastore, 1) := by decide +kernel
theorem dX10_parseSetup_113 : decode cX10_parseSetup 113 = .ok (.aload_n 0, 1) := by decide +kernel
theorem dX10_parseSetup_114 : decode cX10_parseSetup 114 = .ok (.invokevirtual 334, 3) := by decide +kernel
theorem dX10_parseSetup_117 : decode cX10_parseSetup 117 = .ok (.aload_n 0, 1) := by decide +kernel
theorem dX10_parseSetup_118 : decode cX10_parseSetup 118 = .ok (.getfield 59, 3) := by decide +kernel
theorem dX10_parseSetup_121 : decode cX10_parseSetup 121 = .ok (.ifCond .le 14, 3) := by decide +kernel
theorem dX10_parseSetup_124 : decode cX10_parseSetup 124 = .ok (.aload_n 0, 1) := by decide +kernel
theorem dX10_parseSetup_125 : decode cX10_parseSetup 125 = .ok (.iconst 2, 1) := by decide +kernel
theorem dX10_parseSetup_126 : decode cX10_parseSetup 126 = .ok (.putfield 37, 3) := by decide +kernel
theorem dX10_parseSetup_129 : decode cX10_parseSetup 129 = .ok (.aload_n 0, 1) := by decide +kernel
theorem dX10_parseSetup_130 : decode cX10_parseSetup 130 = .ok (.iconst 0, 1) := by decide +kernel
theorem dX10_parseSetup_131 : decode cX10_parseSetup 131 = .ok (.invokevirtual 337, 3) := by decide +kernel
theorem dX10_parseSetup_134 : decode cX10_parseSetup 134 = .ok (.ireturn, 1) := by decide +kernel
theorem dX10_parseSetup_135 : decode cX10_parseSetup 135 = .ok (.aload_n 0, 1) := by decide +kernel
theorem dX10_parseSetup_136 : decode cX10_parseSetup 136 = .ok (.iconst 1, 1) := by decide +kernel
theorem dX10_parseSetup_137 : decode cX10_parseSetup 137 = .ok (.putfield 44, 3) := by decide +kernel
theorem dX10_parseSetup_140 : decode cX10_parseSetup 140 = .ok (.aload_n 0, 1) := by decide +kernel
theorem dX10_parseSetup_141 : decode cX10_parseSetup 141 = .ok (.iconst 0, 1) := by decide +kernel
theorem dX10_parseSetup_142 : decode cX10_parseSetup 142 = .ok (.putfield 340, 3) := by decide +kernel
theorem dX10_parseSetup_145 : decode cX10_parseSetup 145 = .ok (.aload_n 0, 1) := by decide +kernel
theorem dX10_parseSetup_146 : decode cX10_parseSetup 146 = .ok (.getfield 22, 3) := by decide +kernel
theorem dX10_parseSetup_149 : decode cX10_parseSetup 149 = .ok (.iconst 0, 1) := by decide +kernel
theorem dX10_parseSetup_150 : decode cX10_parseSetup 150 = .ok (.iconst 0, 1) := by decide +kernel
theorem dX10_parseSetup_151 : decode cX10_parseSetup 151 = .ok (.bastore, 1) := by decide +kernel
theorem dX10_parseSetup_152 : decode cX10_parseSetup 152 = .ok (.aload_n 0, 1) := by decide +kernel
theorem dX10_parseSetup_153 : decode cX10_parseSetup 153 = .ok (.getfield 22, 3) := by decide +kernel
theorem dX10_parseSetup_156 : decode cX10_parseSetup 156 = .ok (.iconst 1, 1) := by decide +kernel
theorem dX10_parseSetup_157 : decode cX10_parseSetup 157 = .ok (.iconst 0, 1) := by decide +kernel
theorem dX10_parseSetup_158 : decode cX10_parseSetup 158 = .ok (.bastore, 1) := by decide +kernel
theorem dX10_parseSetup_159 : decode cX10_parseSetup 159 = .ok (.aload_n 0, 1) := by decide +kernel
theorem dX10_parseSetup_160 : decode cX10_parseSetup 160 = .ok (.getfield 9, 3) := by decide +kernel
theorem dX10_parseSetup_163 : decode cX10_parseSetup 163 = .ok (.iconst 4, 1) := by decide +kernel
theorem dX10_parseSetup_164 : decode cX10_parseSetup 164 = .ok (.iaload, 1) := by decide +kernel
theorem dX10_parseSetup_165 : decode cX10_parseSetup 165 = .ok (.ireturn, 1) := by decide +kernel
theorem dX10_ofPerson_0 : decode cX10_ofPerson 0 = .ok (.aload_n 0, 1) := by decide +kernel
theorem dX10_ofPerson_1 : decode cX10_ofPerson 1 = .ok (.getfield 9, 3) := by decide +kernel
theorem dX10_ofPerson_4 : decode cX10_ofPerson 4 = .ok (.bipush 11, 2) := by decide +kernel
theorem dX10_ofPerson_6 : decode cX10_ofPerson 6 = .ok (.bipush 14, 2) := by decide +kernel
theorem dX10_ofPerson_8 : decode cX10_ofPerson 8 = .ok (.iload_n 1, 1) := by decide +kernel
theorem dX10_ofPerson_9 : decode cX10_ofPerson 9 = .ok (.imul, 1) := by decide +kernel
theorem dX10_ofPerson_10 : decode cX10_ofPerson 10 = .ok (.iadd, 1) := by decide +kernel
theorem dX10_ofPerson_11 : decode cX10_ofPerson 11 = .ok (.iload_n 2, 1) := by decide +kernel
theorem dX10_ofPerson_12 : decode cX10_ofPerson 12 = .ok (.iadd, 1) := by decide +kernel
theorem dX10_ofPerson_13 : decode cX10_ofPerson 13 = .ok (.iaload, 1) := by decide +kernel
theorem dX10_ofPerson_14 : decode cX10_ofPerson 14 = .ok (.ireturn, 1) := by decide +kernel
theorem dX10_putsPerson_0 : decode cX10_putsPerson 0 = .ok (.aload_n 0, 1) := by decide +kernel
theorem dX10_putsPerson_1 : decode cX10_putsPerson 1 = .ok (.getfield 9, 3) := by decide +kernel
theorem dX10_putsPerson_4 : decode cX10_putsPerson 4 = .ok (.bipush 11, 2) := by decide +kernel
theorem dX10_putsPerson_6 : decode cX10_putsPerson 6 = .ok (.bipush 14, 2) := by decide +kernel
theorem dX10_putsPerson_8 : decode cX10_putsPerson 8 = .ok (.iload_n 1, 1) := by decide +kernel
theorem dX10_putsPerson_9 : decode cX10_putsPerson 9 = .ok (.imul, 1) := by decide +kernel
theorem dX10_putsPerson_10 : decode cX10_putsPerson 10 = .ok (.iadd, 1) := by decide +kernel
theorem dX10_putsPerson_11 : decode cX10_putsPerson 11 = .ok (.iload_n 2, 1) := by decide +kernel
theorem dX10_putsPerson_12 : decode cX10_putsPerson 12 = .ok (.iadd, 1) := by decide +kernel
theorem dX10_putsPerson_13 : decode cX10_putsPerson 13 = .ok (.iload_n 3, 1) := by decide +kernel
theorem dX10_putsPerson_14 : decode cX10_putsPerson 14 = .ok (.iastore, 1) := by decide +kernel
theorem dX10_putsPerson_15 : decode cX10_putsPerson 15 = .ok (.return_, 1) := by decide +kernel
theorem dX10_ofStall_0 : decode cX10_ofStall 0 = .ok (.aload_n 0, 1) := by decide +kernel
theorem dX10_ofStall_1 : decode cX10_ofStall 1 = .ok (.getfield 9, 3) := by decide +kernel
theorem dX10_ofStall_4 : decode cX10_ofStall 4 = .ok (.bipush 95, 2) := by decide +kernel
theorem dX10_ofStall_6 : decode cX10_ofStall 6 = .ok (.iconst 4, 1) := by decide +kernel
theorem dX10_ofStall_7 : decode cX10_ofStall 7 = .ok (.iload_n 1, 1) := by decide +kernel
theorem dX10_ofStall_8 : decode cX10_ofStall 8 = .ok (.imul, 1) := by decide +kernel
theorem dX10_ofStall_9 : decode cX10_ofStall 9 = .ok (.iadd, 1) := by decide +kernel
theorem dX10_ofStall_10 : decode cX10_ofStall 10 = .ok (.iload_n 2, 1) := by decide +kernel
theorem dX10_ofStall_11 : decode cX10_ofStall 11 = .ok (.iadd, 1) := by decide +kernel
theorem dX10_ofStall_12 : decode cX10_ofStall 12 = .ok (.iaload, 1) := by decide +kernel
theorem dX10_ofStall_13 : decode cX10_ofStall 13 = .ok (.ireturn, 1) := by decide +kernel
theorem dX10_putsStall_0 : decode cX10_putsStall 0 = .ok (.aload_n 0, 1) := by decide +kernel
theorem dX10_putsStall_1 : decode cX10_putsStall 1 = .ok (.getfield 9, 3) := by decide +kernel
theorem dX10_putsStall_4 : decode cX10_putsStall 4 = .ok (.bipush 95, 2) := by decide +kernel
theorem dX10_putsStall_6 : decode cX10_putsStall 6 = .ok (.iconst 4, 1) := by decide +kernel
theorem dX10_putsStall_7 : decode cX10_putsStall 7 = .ok (.iload_n 1, 1) := by decide +kernel
theorem dX10_putsStall_8 : decode cX10_putsStall 8 = .ok (.imul, 1) := by decide +kernel
theorem dX10_putsStall_9 : decode cX10_putsStall 9 = .ok (.iadd, 1) := by decide +kernel
theorem dX10_putsStall_10 : decode cX10_putsStall 10 = .ok (.iload_n 2, 1) := by decide +kernel
theorem dX10_putsStall_11 : decode cX10_putsStall 11 = .ok (.iadd, 1) := by decide +kernel
theorem dX10_putsStall_12 : decode cX10_putsStall 12 = .ok (.iload_n 3, 1) := by decide +kernel
theorem dX10_putsStall_13 : decode cX10_putsStall 13 = .ok (.iastore, 1) := by decide +kernel
theorem dX10_putsStall_14 : decode cX10_putsStall 14 = .ok (.return_, 1) := by decide +kernel
theorem dX10_ofWish_0 : decode cX10_ofWish 0 = .ok (.aload_n 0, 1) := by decide +kernel
theorem dX10_ofWish_1 : decode cX10_ofWish 1 = .ok (.getfield 9, 3) := by decide +kernel
theorem dX10_ofWish_4 : decode cX10_ofWish 4 = .ok (.bipush 115, 2) := by decide +kernel
theorem dX10_ofWish_6 : decode cX10_ofWish 6 = .ok (.bipush 15, 2) := by decide +kernel
theorem dX10_ofWish_8 : decode cX10_ofWish 8 = .ok (.iload_n 1, 1) := by decide +kernel
theorem dX10_ofWish_9 : decode cX10_ofWish 9 = .ok (.imul, 1) := by decide +kernel
theorem dX10_ofWish_10 : decode cX10_ofWish 10 = .ok (.iadd, 1) := by decide +kernel
theorem dX10_ofWish_11 : decode cX10_ofWish 11 = .ok (.iload_n 2, 1) := by decide +kernel
theorem dX10_ofWish_12 : decode cX10_ofWish 12 = .ok (.iadd, 1) := by decide +kernel
theorem dX10_ofWish_13 : decode cX10_ofWish 13 = .ok (.iaload, 1) := by decide +kernel
theorem dX10_ofWish_14 : decode cX10_ofWish 14 = .ok (.ireturn, 1) := by decide +kernel
theorem dX10_putsWish_0 : decode cX10_putsWish 0 = .ok (.aload_n 0, 1) := by decide +kernel
theorem dX10_putsWish_1 : decode cX10_putsWish 1 = .ok (.getfield 9, 3) := by decide +kernel
theorem dX10_putsWish_4 : decode cX10_putsWish 4 = .ok (.bipush 115, 2) := by decide +kernel
theorem dX10_putsWish_6 : decode cX10_putsWish 6 = .ok (.bipush 15, 2) := by decide +kernel
theorem dX10_putsWish_8 : decode cX10_putsWish 8 = .ok (.iload_n 1, 1) := by decide +kernel
theorem dX10_putsWish_9 : decode cX10_putsWish 9 = .ok (.imul, 1) := by decide +kernel
theorem dX10_putsWish_10 : decode cX10_putsWish 10 = .ok (.iadd, 1) := by decide +kernel
theorem dX10_putsWish_11 : decode cX10_putsWish 11 = .ok (.iload_n 2, 1) := by decide +kernel
theorem dX10_putsWish_12 : decode cX10_putsWish 12 = .ok (.iadd, 1) := by decide +kernel
theorem dX10_putsWish_13 : decode cX10_putsWish 13 = .ok (.iload_n 3, 1) := by decide +kernel
theorem dX10_putsWish_14 : decode cX10_putsWish 14 = .ok (.iastore, 1) := by decide +kernel
theorem dX10_putsWish_15 : decode cX10_putsWish 15 = .ok (.return_, 1) := by decide +kernel
theorem dX10_isOwned_0 : decode cX10_isOwned 0 = .ok (.aload_n 0, 1) := by decide +kernel
theorem dX10_isOwned_1 : decode cX10_isOwned 1 = .ok (.iload_n 1, 1) := by decide +kernel
theorem dX10_isOwned_2 : decode cX10_isOwned 2 = .ok (.iconst 3, 1) := by decide +kernel
theorem dX10_isOwned_3 : decode cX10_isOwned 3 = .ok (.invokevirtual 224, 3) := by decide +kernel
theorem dX10_isOwned_6 : decode cX10_isOwned 6 = .ok (.iconst 1, 1) := by decide +kernel
theorem dX10_isOwned_7 : decode cX10_isOwned 7 = .ok (.if_icmp .ne 7, 3) := by decide +kernel
theorem dX10_isOwned_10 : decode cX10_isOwned 10 = .ok (.iconst 1, 1) := by decide +kernel
theorem dX10_isOwned_11 : decode cX10_isOwned 11 = .ok (.goto 4, 3) := by decide +kernel
theorem dX10_isOwned_14 : decode cX10_isOwned 14 = .ok (.iconst 0, 1) := by decide +kernel
theorem dX10_isOwned_15 : decode cX10_isOwned 15 = .ok (.ireturn, 1) := by decide +kernel
theorem dX10_isInStall_0 : decode cX10_isInStall 0 = .ok (.aload_n 0, 1) := by decide +kernel
theorem dX10_isInStall_1 : decode cX10_isInStall 1 = .ok (.iload_n 1, 1) := by decide +kernel
theorem dX10_isInStall_2 : decode cX10_isInStall 2 = .ok (.iconst 3, 1) := by decide +kernel
theorem dX10_isInStall_3 : decode cX10_isInStall 3 = .ok (.invokevirtual 224, 3) := by decide +kernel
theorem dX10_isInStall_6 : decode cX10_isInStall 6 = .ok (.ifCond .ne 7, 3) := by decide +kernel
theorem dX10_isInStall_9 : decode cX10_isInStall 9 = .ok (.iconst 1, 1) := by decide +kernel
theorem dX10_isInStall_10 : decode cX10_isInStall 10 = .ok (.goto 4, 3) := by decide +kernel
theorem dX10_isInStall_13 : decode cX10_isInStall 13 = .ok (.iconst 0, 1) := by decide +kernel
theorem dX10_isInStall_14 : decode cX10_isInStall 14 = .ok (.ireturn, 1) := by decide +kernel
theorem dX10_isOwnedBy_0 : decode cX10_isOwnedBy 0 = .ok (.aload_n 0, 1) := by decide +kernel
theorem dX10_isOwnedBy_1 : decode cX10_isOwnedBy 1 = .ok (.iload_n 1, 1) := by decide +kernel
theorem dX10_isOwnedBy_2 : decode cX10_isOwnedBy 2 = .ok (.invokevirtual 221, 3) := by decide +kernel
theorem dX10_isOwnedBy_5 : decode cX10_isOwnedBy 5 = .ok (.ifCond .eq 17, 3) := by decide +kernel
theorem dX10_isOwnedBy_8 : decode cX10_isOwnedBy 8 = .ok (.aload_n 0, 1) := by decide +kernel
theorem dX10_isOwnedBy_9 : decode cX10_isOwnedBy 9 = .ok (.iload_n 1, 1) := by decide +kernel
theorem dX10_isOwnedBy_10 : decode cX10_isOwnedBy 10 = .ok (.iconst 4, 1) := by decide +kernel
theorem dX10_isOwnedBy_11 : decode cX10_isOwnedBy 11 = .ok (.invokevirtual 224, 3) := by decide +kernel
theorem dX10_isOwnedBy_14 : decode cX10_isOwnedBy 14 = .ok (.iload_n 2, 1) := by decide +kernel
theorem dX10_isOwnedBy_15 : decode cX10_isOwnedBy 15 = .ok (.if_icmp .ne 7, 3) := by decide +kernel
theorem dX10_isOwnedBy_18 : decode cX10_isOwnedBy 18 = .ok (.iconst 1, 1) := by decide +kernel
theorem dX10_isOwnedBy_19 : decode cX10_isOwnedBy 19 = .ok (.goto 4, 3) := by decide +kernel
theorem dX10_isOwnedBy_22 : decode cX10_isOwnedBy 22 = .ok (.iconst 0, 1) := by decide +kernel
theorem dX10_isOwnedBy_23 : decode cX10_isOwnedBy 23 = .ok (.ireturn, 1) := by decide +kernel
theorem dX10_forgets_0 : decode cX10_forgets 0 = .ok (.aload_n 0, 1) := by decide +kernel
theorem dX10_forgets_1 : decode cX10_forgets 1 = .ok (.iload_n 1, 1) := by decide +kernel
theorem dX10_forgets_2 : decode cX10_forgets 2 = .ok (.iconst 5, 1) := by decide +kernel
theorem dX10_forgets_3 : decode cX10_forgets 3 = .ok (.iconst (-1), 1) := by decide +kernel
theorem dX10_forgets_4 : decode cX10_forgets 4 = .ok (.invokevirtual 180, 3) := by decide +kernel
theorem dX10_forgets_7 : decode cX10_forgets 7 = .ok (.aload_n 0, 1) := by decide +kernel
theorem dX10_forgets_8 : decode cX10_forgets 8 = .ok (.iload_n 1, 1) := by decide +kernel
theorem dX10_forgets_9 : decode cX10_forgets 9 = .ok (.bipush 6, 2) := by decide +kernel
theorem dX10_forgets_11 : decode cX10_forgets 11 = .ok (.iconst (-1), 1) := by decide +kernel
theorem dX10_forgets_12 : decode cX10_forgets 12 = .ok (.invokevirtual 180, 3) := by decide +kernel
theorem dX10_forgets_15 : decode cX10_forgets 15 = .ok (.aload_n 0, 1) := by decide +kernel
theorem dX10_forgets_16 : decode cX10_forgets 16 = .ok (.iload_n 1, 1) := by decide +kernel
theorem dX10_forgets_17 : decode cX10_forgets 17 = .ok (.bipush 7, 2) := by decide +kernel
theorem dX10_forgets_19 : decode cX10_forgets 19 = .ok (.iconst (-1), 1) := by decide +kernel
theorem dX10_forgets_20 : decode cX10_forgets 20 = .ok (.invokevirtual 180, 3) := by decide +kernel
theorem dX10_forgets_23 : decode cX10_forgets 23 = .ok (.return_, 1) := by decide +kernel
theorem dX10_goesTo_0 : decode cX10_goesTo 0 = .ok (.aload_n 0, 1) := by decide +kernel
theorem dX10_goesTo_1 : decode cX10_goesTo 1 = .ok (.iload_n 1, 1) := by decide +kernel
theorem dX10_goesTo_2 : decode cX10_goesTo 2 = .ok (.iconst 3, 1) := by decide +kernel
theorem dX10_goesTo_3 : decode cX10_goesTo 3 = .ok (.iload_n 2, 1) := by decide +kernel
theorem dX10_goesTo_4 : decode cX10_goesTo 4 = .ok (.invokevirtual 180, 3) := by decide +kernel
theorem dX10_goesTo_7 : decode cX10_goesTo 7 = .ok (.aload_n 0, 1) := by decide +kernel
theorem dX10_goesTo_8 : decode cX10_goesTo 8 = .ok (.iload_n 1, 1) := by decide +kernel
theorem dX10_goesTo_9 : decode cX10_goesTo 9 = .ok (.iconst 4, 1) := by decide +kernel
theorem dX10_goesTo_10 : decode cX10_goesTo 10 = .ok (.iload_n 3, 1) := by decide +kernel
theorem dX10_goesTo_11 : decode cX10_goesTo 11 = .ok (.invokevirtual 180, 3) := by decide +kernel
theorem dX10_goesTo_14 : decode cX10_goesTo 14 = .ok (.aload_n 0, 1) := by decide +kernel
theorem dX10_goesTo_15 : decode cX10_goesTo 15 = .ok (.iload_n 1, 1) := by decide +kernel
theorem dX10_goesTo_16 : decode cX10_goesTo 16 = .ok (.invokevirtual 188, 3) := by decide +kernel
theorem dX10_goesTo_19 : decode cX10_goesTo 19 = .ok (.return_, 1) := by decide +kernel
theorem dX10_owns_0 : decode cX10_owns 0 = .ok (.iconst 0, 1) := by decide +kernel
theorem dX10_owns_1 : decode cX10_owns 1 = .ok (.istore_n 2, 1) := by decide +kernel
theorem dX10_owns_2 : decode cX10_owns 2 = .ok (.iconst 0, 1) := by decide +kernel
theorem dX10_owns_3 : decode cX10_owns 3 = .ok (.istore_n 3, 1) := by decide +kernel
theorem dX10_owns_4 : decode cX10_owns 4 = .ok (.iload_n 3, 1) := by decide +kernel
theorem dX10_owns_5 : decode cX10_owns 5 = .ok (.aload_n 0, 1) := by decide +kernel
theorem dX10_owns_6 : decode cX10_owns 6 = .ok (.getfield 9, 3) := by decide +kernel
theorem dX10_owns_9 : decode cX10_owns 9 = .ok (.iconst 4, 1) := by decide +kernel
theorem dX10_owns_10 : decode cX10_owns 10 = .ok (.iaload, 1) := by decide +kernel
theorem dX10_owns_11 : decode cX10_owns 11 = .ok (.if_icmp .ge 21, 3) := by decide +kernel
theorem dX10_owns_14 : decode cX10_owns 14 = .ok (.iload_n 2, 1) := by decide +kernel
theorem dX10_owns_15 : decode cX10_owns 15 = .ok (.aload_n 0, 1) := by decide +kernel
theorem dX10_owns_16 : decode cX10_owns 16 = .ok (.iload_n 3, 1) := by decide +kernel
theorem dX10_owns_17 : decode cX10_owns 17 = .ok (.iload_n 1, 1) := by decide +kernel
theorem dX10_owns_18 : decode cX10_owns 18 = .ok (.invokevirtual 343, 3) := by decide +kernel
theorem dX10_owns_21 : decode cX10_owns 21 = .ok (.invokestatic 346, 3) := by decide +kernel
theorem dX10_owns_24 : decode cX10_owns 24 = .ok (.iadd, 1) := by decide +kernel
theorem dX10_owns_25 : decode cX10_owns 25 = .ok (.istore_n 2, 1) := by decide +kernel
theorem dX10_owns_26 : decode cX10_owns 26 = .ok (.iinc 3 1, 3) := by decide +kernel
theorem dX10_owns_29 : decode cX10_owns 29 = .ok (.goto (-25), 3) := by decide +kernel
theorem dX10_owns_32 : decode cX10_owns 32 = .ok (.iload_n 2, 1) := by decide +kernel
theorem dX10_owns_33 : decode cX10_owns 33 = .ok (.ireturn, 1) := by decide +kernel
theorem dX10_stock_0 : decode cX10_stock 0 = .ok (.iconst 0, 1) := by decide +kernel
theorem dX10_stock_1 : decode cX10_stock 1 = .ok (.istore_n 2, 1) := by decide +kernel
theorem dX10_stock_2 : decode cX10_stock 2 = .ok (.iconst 0, 1) := by decide +kernel
theorem dX10_stock_3 : decode cX10_stock 3 = .ok (.istore_n 3, 1) := by decide +kernel
theorem dX10_stock_4 : decode cX10_stock 4 = .ok (.iload_n 3, 1) := by decide +kernel
theorem dX10_stock_5 : decode cX10_stock 5 = .ok (.aload_n 0, 1) := by decide +kernel
theorem dX10_stock_6 : decode cX10_stock 6 = .ok (.getfield 9, 3) := by decide +kernel
theorem dX10_stock_9 : decode cX10_stock 9 = .ok (.iconst 4, 1) := by decide +kernel
theorem dX10_stock_10 : decode cX10_stock 10 = .ok (.iaload, 1) := by decide +kernel
theorem dX10_stock_11 : decode cX10_stock 11 = .ok (.if_icmp .ge 38, 3) := by decide +kernel
theorem dX10_stock_14 : decode cX10_stock 14 = .ok (.iload_n 2, 1) := by decide +kernel
theorem dX10_stock_15 : decode cX10_stock 15 = .ok (.aload_n 0, 1) := by decide +kernel
theorem dX10_stock_16 : decode cX10_stock 16 = .ok (.iload_n 3, 1) := by decide +kernel
theorem dX10_stock_17 : decode cX10_stock 17 = .ok (.invokevirtual 350, 3) := by decide +kernel
theorem dX10_stock_20 : decode cX10_stock 20 = .ok (.ifCond .eq 17, 3) := by decide +kernel
theorem dX10_stock_23 : decode cX10_stock 23 = .ok (.aload_n 0, 1) := by decide +kernel
theorem dX10_stock_24 : decode cX10_stock 24 = .ok (.iload_n 3, 1) := by decide +kernel
theorem dX10_stock_25 : decode cX10_stock 25 = .ok (.iconst 4, 1) := by decide +kernel
theorem dX10_stock_26 : decode cX10_stock 26 = .ok (.invokevirtual 224, 3) := by decide +kernel
theorem dX10_stock_29 : decode cX10_stock 29 = .ok (.iload_n 1, 1) := by decide +kernel
theorem dX10_stock_30 : decode cX10_stock 30 = .ok (.if_icmp .ne 7, 3) := by decide +kernel
theorem dX10_stock_33 : decode cX10_stock 33 = .ok (.iconst 1, 1) := by decide +kernel
theorem dX10_stock_34 : decode cX10_stock 34 = .ok (.goto 4, 3) := by decide +kernel
theorem dX10_stock_37 : decode cX10_stock 37 = .ok (.iconst 0, 1) := by decide +kernel
theorem dX10_stock_38 : decode cX10_stock 38 = .ok (.invokestatic 346, 3) := by decide +kernel
theorem dX10_stock_41 : decode cX10_stock 41 = .ok (.iadd, 1) := by decide +kernel
theorem dX10_stock_42 : decode cX10_stock 42 = .ok (.istore_n 2, 1) := by decide +kernel
theorem dX10_stock_43 : decode cX10_stock 43 = .ok (.iinc 3 1, 3) := by decide +kernel
theorem dX10_stock_46 : decode cX10_stock 46 = .ok (.goto (-42), 3) := by decide +kernel
theorem dX10_stock_49 : decode cX10_stock 49 = .ok (.iload_n 2, 1) := by decide +kernel
theorem dX10_stock_50 : decode cX10_stock 50 = .ok (.ireturn, 1) := by decide +kernel
theorem dX10_isFull_0 : decode cX10_isFull 0 = .ok (.aload_n 0, 1) := by decide +kernel
theorem dX10_isFull_1 : decode cX10_isFull 1 = .ok (.iload_n 1, 1) := by decide +kernel
theorem dX10_isFull_2 : decode cX10_isFull 2 = .ok (.invokevirtual 353, 3) := by decide +kernel
theorem dX10_isFull_5 : decode cX10_isFull 5 = .ok (.aload_n 0, 1) := by decide +kernel
theorem dX10_isFull_6 : decode cX10_isFull 6 = .ok (.iload_n 1, 1) := by decide +kernel
theorem dX10_isFull_7 : decode cX10_isFull 7 = .ok (.iconst 0, 1) := by decide +kernel
theorem dX10_isFull_8 : decode cX10_isFull 8 = .ok (.invokevirtual 356, 3) := by decide +kernel
theorem dX10_isFull_11 : decode cX10_isFull 11 = .ok (.if_icmp .ne 7, 3) := by decide +kernel
theorem dX10_isFull_14 : decode cX10_isFull 14 = .ok (.iconst 1, 1) := by decide +kernel
theorem dX10_isFull_15 : decode cX10_isFull 15 = .ok (.goto 4, 3) := by decide +kernel
theorem dX10_isFull_18 : decode cX10_isFull 18 = .ok (.iconst 0, 1) := by decide +kernel
theorem dX10_isFull_19 : decode cX10_isFull 19 = .ok (.ireturn, 1) := by decide +kernel
theorem dX10_left_0 : decode cX10_left 0 = .ok (.aload_n 0, 1) := by decide +kernel
theorem dX10_left_1 : decode cX10_left 1 = .ok (.iload_n 1, 1) := by decide +kernel
theorem dX10_left_2 : decode cX10_left 2 = .ok (.iconst 0, 1) := by decide +kernel
theorem dX10_left_3 : decode cX10_left 3 = .ok (.invokevirtual 224, 3) := by decide +kernel
theorem dX10_left_6 : decode cX10_left 6 = .ok (.bipush 10, 2) := by decide +kernel
theorem dX10_left_8 : decode cX10_left 8 = .ok (.aload_n 0, 1) := by decide +kernel
theorem dX10_left_9 : decode cX10_left 9 = .ok (.iload_n 1, 1) := by decide +kernel
theorem dX10_left_10 : decode cX10_left 10 = .ok (.iconst 2, 1) := by decide +kernel
theorem dX10_left_11 : decode cX10_left 11 = .ok (.invokevirtual 224, 3) := by decide +kernel
theorem dX10_left_14 : decode cX10_left 14 = .ok (.isub, 1) := by decide +kernel
theorem dX10_left_15 : decode cX10_left 15 = .ok (.imul, 1) := by decide +kernel
theorem dX10_left_16 : decode cX10_left 16 = .ok (.ireturn, 1) := by decide +kernel
theorem dX10_valueOf_0 : decode cX10_valueOf 0 = .ok (.aload_n 0, 1) := by decide +kernel
theorem dX10_valueOf_1 : decode cX10_valueOf 1 = .ok (.iload_n 1, 1) := by decide +kernel
theorem dX10_valueOf_2 : decode cX10_valueOf 2 = .ok (.invokevirtual 359, 3) := by decide +kernel
theorem dX10_valueOf_5 : decode cX10_valueOf 5 = .ok (.bipush 10, 2) := by decide +kernel
theorem dX10_valueOf_7 : decode cX10_valueOf 7 = .ok (.idiv, 1) := by decide +kernel
theorem dX10_valueOf_8 : decode cX10_valueOf 8 = .ok (.ireturn, 1) := by decide +kernel
theorem dX10_priceOf_0 : decode cX10_priceOf 0 = .ok (.aload_n 0, 1) := by decide +kernel
theorem dX10_priceOf_1 : decode cX10_priceOf 1 = .ok (.iload_n 1, 1) := by decide +kernel
theorem dX10_priceOf_2 : decode cX10_priceOf 2 = .ok (.iconst 4, 1) := by decide +kernel
theorem dX10_priceOf_3 : decode cX10_priceOf 3 = .ok (.invokevirtual 224, 3) := by decide +kernel
theorem dX10_priceOf_6 : decode cX10_priceOf 6 = .ok (.istore_n 2, 1) := by decide +kernel
theorem dX10_priceOf_7 : decode cX10_priceOf 7 = .ok (.iconst 1, 1) := by decide +kernel
theorem dX10_priceOf_8 : decode cX10_priceOf 8 = .ok (.aload_n 0, 1) := by decide +kernel
theorem dX10_priceOf_9 : decode cX10_priceOf 9 = .ok (.iload_n 1, 1) := by decide +kernel
theorem dX10_priceOf_10 : decode cX10_priceOf 10 = .ok (.invokevirtual 359, 3) := by decide +kernel
theorem dX10_priceOf_13 : decode cX10_priceOf 13 = .ok (.bipush 100, 2) := by decide +kernel
theorem dX10_priceOf_15 : decode cX10_priceOf 15 = .ok (.aload_n 0, 1) := by decide +kernel
theorem dX10_priceOf_16 : decode cX10_priceOf 16 = .ok (.iload_n 2, 1) := by decide +kernel
theorem dX10_priceOf_17 : decode cX10_priceOf 17 = .ok (.iconst 3, 1) := by decide +kernel
theorem dX10_priceOf_18 : decode cX10_priceOf 18 = .ok (.invokevirtual 356, 3) := by decide +kernel
theorem dX10_priceOf_21 : decode cX10_priceOf 21 = .ok (.iadd, 1) := by decide +kernel
theorem dX10_priceOf_22 : decode cX10_priceOf 22 = .ok (.imul, 1) := by decide +kernel
theorem dX10_priceOf_23 : decode cX10_priceOf 23 = .ok (.bipush 50, 2) := by decide +kernel
theorem dX10_priceOf_25 : decode cX10_priceOf 25 = .ok (.aload_n 0, 1) := by decide +kernel
theorem dX10_priceOf_26 : decode cX10_priceOf 26 = .ok (.iload_n 2, 1) := by decide +kernel
theorem dX10_priceOf_27 : decode cX10_priceOf 27 = .ok (.iconst 2, 1) := by decide +kernel
theorem dX10_priceOf_28 : decode cX10_priceOf 28 = .ok (.invokevirtual 356, 3) := by decide +kernel
theorem dX10_priceOf_31 : decode cX10_priceOf 31 = .ok (.iadd, 1) := by decide +kernel
theorem dX10_priceOf_32 : decode cX10_priceOf 32 = .ok (.imul, 1) := by decide +kernel
theorem dX10_priceOf_33 : decode cX10_priceOf 33 = .ok (.ldc_w 362, 3) := by decide +kernel
theorem dX10_priceOf_36 : decode cX10_priceOf 36 = .ok (.idiv, 1) := by decide +kernel
theorem dX10_priceOf_37 : decode cX10_priceOf 37 = .ok (.invokestatic 363, 3) := by decide +kernel
theorem dX10_priceOf_40 : decode cX10_priceOf 40 = .ok (.ireturn, 1) := by decide +kernel
theorem dX10_offerOf_0 : decode cX10_offerOf 0 = .ok (.aload_n 0, 1) := by decide +kernel
theorem dX10_offerOf_1 : decode cX10_offerOf 1 = .ok (.iload_n 1, 1) := by decide +kernel
theorem dX10_offerOf_2 : decode cX10_offerOf 2 = .ok (.invokevirtual 359, 3) := by decide +kernel
theorem dX10_offerOf_5 : decode cX10_offerOf 5 = .ok (.bipush 50, 2) := by decide +kernel
theorem dX10_offerOf_7 : decode cX10_offerOf 7 = .ok (.aload_n 0, 1) := by decide +kernel
theorem dX10_offerOf_8 : decode cX10_offerOf 8 = .ok (.iload_n 2, 1) := by decide +kernel
theorem dX10_offerOf_9 : decode cX10_offerOf 9 = .ok (.iconst 2, 1) := by decide +kernel
theorem dX10_offerOf_10 : decode cX10_offerOf 10 = .ok (.invokevirtual 356, 3) := by decide +kernel
theorem dX10_offerOf_13 : decode cX10_offerOf 13 = .ok (.iadd, 1) := by decide +kernel
theorem dX10_offerOf_14 : decode cX10_offerOf 14 = .ok (.imul, 1) := by decide +kernel
theorem dX10_offerOf_15 : decode cX10_offerOf 15 = .ok (.sipush 1000, 3) := by decide +kernel
theorem dX10_offerOf_18 : decode cX10_offerOf 18 = .ok (.idiv, 1) := by decide +kernel
theorem dX10_offerOf_19 : decode cX10_offerOf 19 = .ok (.ireturn, 1) := by decide +kernel
theorem dX10_refundOf_0 : decode cX10_refundOf 0 = .ok (.aload_n 0, 1) := by decide +kernel
theorem dX10_refundOf_1 : decode cX10_refundOf 1 = .ok (.iload_n 1, 1) := by decide +kernel
theorem dX10_refundOf_2 : decode cX10_refundOf 2 = .ok (.bipush 6, 2) := by decide +kernel
theorem dX10_refundOf_4 : decode cX10_refundOf 4 = .ok (.invokevirtual 224, 3) := by decide +kernel
theorem dX10_refundOf_7 : decode cX10_refundOf 7 = .ok (.bipush 100, 2) := by decide +kernel
theorem dX10_refundOf_9 : decode cX10_refundOf 9 = .ok (.aload_n 0, 1) := by decide +kernel
theorem dX10_refundOf_10 : decode cX10_refundOf 10 = .ok (.getfield 9, 3) := by decide +kernel
theorem dX10_refundOf_13 : decode cX10_refundOf 13 = .ok (.bipush 6, 2) := by decide +kernel
theorem dX10_refundOf_15 : decode cX10_refundOf 15 = .ok (.iaload, 1) := by decide +kernel
theorem dX10_refundOf_16 : decode cX10_refundOf 16 = .ok (.isub, 1) := by decide +kernel
theorem dX10_refundOf_17 : decode cX10_refundOf 17 = .ok (.imul, 1) := by decide +kernel
theorem dX10_refundOf_18 : decode cX10_refundOf 18 = .ok (.bipush 100, 2) := by decide +kernel
theorem dX10_refundOf_20 : decode cX10_refundOf 20 = .ok (.idiv, 1) := by decide +kernel
theorem dX10_refundOf_21 : decode cX10_refundOf 21 = .ok (.ireturn, 1) := by decide +kernel
theorem dX10_whyBuy_0 : decode cX10_whyBuy 0 = .ok (.aload_n 0, 1) := by decide +kernel
theorem dX10_whyBuy_1 : decode cX10_whyBuy 1 = .ok (.iload_n 2, 1) := by decide +kernel
theorem dX10_whyBuy_2 : decode cX10_whyBuy 2 = .ok (.invokevirtual 350, 3) := by decide +kernel
theorem dX10_whyBuy_5 : decode cX10_whyBuy 5 = .ok (.ifCond .ne 5, 3) := by decide +kernel
theorem dX10_whyBuy_8 : decode cX10_whyBuy 8 = .ok (.iconst 1, 1) := by decide +kernel
theorem dX10_whyBuy_9 : decode cX10_whyBuy 9 = .ok (.ireturn, 1) := by decide +kernel
theorem dX10_whyBuy_10 : decode cX10_whyBuy 10 = .ok (.aload_n 0, 1) := by decide +kernel
theorem dX10_whyBuy_11 : decode cX10_whyBuy 11 = .ok (.iload_n 1, 1) := by decide +kernel
theorem dX10_whyBuy_12 : decode cX10_whyBuy 12 = .ok (.iconst 0, 1) := by decide +kernel
theorem dX10_whyBuy_13 : decode cX10_whyBuy 13 = .ok (.invokevirtual 141, 3) := by decide +kernel
theorem dX10_whyBuy_16 : decode cX10_whyBuy 16 = .ok (.aload_n 0, 1) := by decide +kernel
theorem dX10_whyBuy_17 : decode cX10_whyBuy 17 = .ok (.iload_n 2, 1) := by decide +kernel
theorem dX10_whyBuy_18 : decode cX10_whyBuy 18 = .ok (.invokevirtual 368, 3) := by decide +kernel
theorem dX10_whyBuy_21 : decode cX10_whyBuy 21 = .ok (.if_icmp .ge 5, 3) := by decide +kernel
theorem dX10_whyBuy_24 : decode cX10_whyBuy 24 = .ok (.iconst 2, 1) := by decide +kernel
theorem dX10_whyBuy_25 : decode cX10_whyBuy 25 = .ok (.ireturn, 1) := by decide +kernel
theorem dX10_whyBuy_26 : decode cX10_whyBuy 26 = .ok (.aload_n 0, 1) := by decide +kernel
theorem dX10_whyBuy_27 : decode cX10_whyBuy 27 = .ok (.iload_n 1, 1) := by decide +kernel
theorem dX10_whyBuy_28 : decode cX10_whyBuy 28 = .ok (.invokevirtual 177, 3) := by decide +kernel
theorem dX10_whyBuy_31 : decode cX10_whyBuy 31 = .ok (.iconst 4, 1) := by decide +kernel
theorem dX10_whyBuy_32 : decode cX10_whyBuy 32 = .ok (.if_icmp .ne 7, 3) := by decide +kernel
theorem dX10_whyBuy_35 : decode cX10_whyBuy 35 = .ok (.iconst 3, 1) := by decide +kernel
theorem dX10_whyBuy_36 : decode cX10_whyBuy 36 = .ok (.goto 4, 3) := by decide +kernel
theorem dX10_whyBuy_39 : decode cX10_whyBuy 39 = .ok (.iconst 0, 1) := by decide +kernel
theorem dX10_whyBuy_40 : decode cX10_whyBuy 40 = .ok (.ireturn, 1) := by decide +kernel
theorem dX10_whySell_0 : decode cX10_whySell 0 = .ok (.aload_n 0, 1) := by decide +kernel
theorem dX10_whySell_1 : decode cX10_whySell 1 = .ok (.iload_n 1, 1) := by decide +kernel
theorem dX10_whySell_2 : decode cX10_whySell 2 = .ok (.invokevirtual 221, 3) := by decide +kernel
theorem dX10_whySell_5 : decode cX10_whySell 5 = .ok (.ifCond .ne 5, 3) := by decide +kernel
theorem dX10_whySell_8 : decode cX10_whySell 8 = .ok (.iconst 1, 1) := by decide +kernel
theorem dX10_whySell_9 : decode cX10_whySell 9 = .ok (.ireturn, 1) := by decide +kernel
theorem dX10_whySell_10 : decode cX10_whySell 10 = .ok (.aload_n 0, 1) := by decide +kernel
theorem dX10_whySell_11 : decode cX10_whySell 11 = .ok (.iload_n 2, 1) := by decide +kernel
theorem dX10_whySell_12 : decode cX10_whySell 12 = .ok (.invokevirtual 174, 3) := by decide +kernel
theorem dX10_whySell_15 : decode cX10_whySell 15 = .ok (.ifCond .eq 5, 3) := by decide +kernel
theorem dX10_whySell_18 : decode cX10_whySell 18 = .ok (.iconst 2, 1) := by decide +kernel
theorem dX10_whySell_19 : decode cX10_whySell 19 = .ok (.ireturn, 1) := by decide +kernel
theorem dX10_whySell_20 : decode cX10_whySell 20 = .ok (.aload_n 0, 1) := by decide +kernel
theorem dX10_whySell_21 : decode cX10_whySell 21 = .ok (.iload_n 2, 1) := by decide +kernel
theorem dX10_whySell_22 : decode cX10_whySell 22 = .ok (.iconst 1, 1) := by decide +kernel
theorem dX10_whySell_23 : decode cX10_whySell 23 = .ok (.invokevirtual 356, 3) := by decide +kernel
theorem dX10_whySell_26 : decode cX10_whySell 26 = .ok (.aload_n 0, 1) := by decide +kernel
theorem dX10_whySell_27 : decode cX10_whySell 27 = .ok (.iload_n 1, 1) := by decide +kernel
theorem dX10_whySell_28 : decode cX10_whySell 28 = .ok (.iload_n 2, 1) := by decide +kernel
theorem dX10_whySell_29 : decode cX10_whySell 29 = .ok (.invokevirtual 371, 3) := by decide +kernel
theorem dX10_whySell_32 : decode cX10_whySell 32 = .ok (.if_icmp .ge 7, 3) := by decide +kernel
theorem dX10_whySell_35 : decode cX10_whySell 35 = .ok (.iconst 3, 1) := by decide +kernel
theorem dX10_whySell_36 : decode cX10_whySell 36 = .ok (.goto 4, 3) := by decide +kernel
theorem dX10_whySell_39 : decode cX10_whySell 39 = .ok (.iconst 0, 1) := by decide +kernel
theorem dX10_whySell_40 : decode cX10_whySell 40 = .ok (.ireturn, 1) := by decide +kernel
theorem dX10_whyReturn_0 : decode cX10_whyReturn 0 = .ok (.aload_n 0, 1) := by decide +kernel
theorem dX10_whyReturn_1 : decode cX10_whyReturn 1 = .ok (.iload_n 1, 1) := by decide +kernel
theorem dX10_whyReturn_2 : decode cX10_whyReturn 2 = .ok (.invokevirtual 221, 3) := by decide +kernel
theorem dX10_whyReturn_5 : decode cX10_whyReturn 5 = .ok (.ifCond .eq 13, 3) := by decide +kernel
theorem dX10_whyReturn_8 : decode cX10_whyReturn 8 = .ok (.aload_n 0, 1) := by decide +kernel
theorem dX10_whyReturn_9 : decode cX10_whyReturn 9 = .ok (.iload_n 1, 1) := by decide +kernel
theorem dX10_whyReturn_10 : decode cX10_whyReturn 10 = .ok (.iconst 5, 1) := by decide +kernel
theorem dX10_whyReturn_11 : decode cX10_whyReturn 11 = .ok (.invokevirtual 224, 3) := by decide +kernel
theorem dX10_whyReturn_14 : decode cX10_whyReturn 14 = .ok (.iconst (-1), 1) := by decide +kernel
theorem dX10_whyReturn_15 : decode cX10_whyReturn 15 = .ok (.if_icmp .ne 5, 3) := by decide +kernel
theorem dX10_whyReturn_18 : decode cX10_whyReturn 18 = .ok (.iconst 1, 1) := by decide +kernel
theorem dX10_whyReturn_19 : decode cX10_whyReturn 19 = .ok (.ireturn, 1) := by decide +kernel
theorem dX10_whyReturn_20 : decode cX10_whyReturn 20 = .ok (.aload_n 0, 1) := by decide +kernel
theorem dX10_whyReturn_21 : decode cX10_whyReturn 21 = .ok (.getfield 9, 3) := by decide +kernel
theorem dX10_whyReturn_24 : decode cX10_whyReturn 24 = .ok (.iconst 1, 1) := by decide +kernel
theorem dX10_whyReturn_25 : decode cX10_whyReturn 25 = .ok (.iaload, 1) := by decide +kernel
theorem dX10_whyReturn_26 : decode cX10_whyReturn 26 = .ok (.aload_n 0, 1) := by decide +kernel
theorem dX10_whyReturn_27 : decode cX10_whyReturn 27 = .ok (.iload_n 1, 1) := by decide +kernel
theorem dX10_whyReturn_28 : decode cX10_whyReturn 28 = .ok (.iconst 5, 1) := by decide +kernel
theorem dX10_whyReturn_29 : decode cX10_whyReturn 29 = .ok (.invokevirtual 224, 3) := by decide +kernel
theorem dX10_whyReturn_32 : decode cX10_whyReturn 32 = .ok (.isub, 1) := by decide +kernel
theorem dX10_whyReturn_33 : decode cX10_whyReturn 33 = .ok (.aload_n 0, 1) := by decide +kernel
theorem dX10_whyReturn_34 : decode cX10_whyReturn 34 = .ok (.getfield 9, 3) := by decide +kernel
theorem dX10_whyReturn_37 : decode cX10_whyReturn 37 = .ok (.iconst 5, 1) := by decide +kernel
theorem dX10_whyReturn_38 : decode cX10_whyReturn 38 = .ok (.iaload, 1) := by decide +kernel
theorem dX10_whyReturn_39 : decode cX10_whyReturn 39 = .ok (.if_icmp .le 5, 3) := by decide +kernel
theorem dX10_whyReturn_42 : decode cX10_whyReturn 42 = .ok (.iconst 2, 1) := by decide +kernel
theorem dX10_whyReturn_43 : decode cX10_whyReturn 43 = .ok (.ireturn, 1) := by decide +kernel
theorem dX10_whyReturn_44 : decode cX10_whyReturn 44 = .ok (.aload_n 0, 1) := by decide +kernel
theorem dX10_whyReturn_45 : decode cX10_whyReturn 45 = .ok (.aload_n 0, 1) := by decide +kernel
theorem dX10_whyReturn_46 : decode cX10_whyReturn 46 = .ok (.iload_n 1, 1) := by decide +kernel
theorem dX10_whyReturn_47 : decode cX10_whyReturn 47 = .ok (.bipush 7, 2) := by decide +kernel
theorem dX10_whyReturn_49 : decode cX10_whyReturn 49 = .ok (.invokevirtual 224, 3) := by decide +kernel
theorem dX10_whyReturn_52 : decode cX10_whyReturn 52 = .ok (.invokevirtual 174, 3) := by decide +kernel
theorem dX10_whyReturn_55 : decode cX10_whyReturn 55 = .ok (.ifCond .eq 5, 3) := by decide +kernel
theorem dX10_whyReturn_58 : decode cX10_whyReturn 58 = .ok (.iconst 3, 1) := by decide +kernel
theorem dX10_whyReturn_59 : decode cX10_whyReturn 59 = .ok (.ireturn, 1) := by decide +kernel
theorem dX10_whyReturn_60 : decode cX10_whyReturn 60 = .ok (.aload_n 0, 1) := by decide +kernel
theorem dX10_whyReturn_61 : decode cX10_whyReturn 61 = .ok (.aload_n 0, 1) := by decide +kernel
theorem dX10_whyReturn_62 : decode cX10_whyReturn 62 = .ok (.iload_n 1, 1) := by decide +kernel
theorem dX10_whyReturn_63 : decode cX10_whyReturn 63 = .ok (.bipush 7, 2) := by decide +kernel
theorem dX10_whyReturn_65 : decode cX10_whyReturn 65 = .ok (.invokevirtual 224, 3) := by decide +kernel
theorem dX10_whyReturn_68 : decode cX10_whyReturn 68 = .ok (.iconst 1, 1) := by decide +kernel
theorem dX10_whyReturn_69 : decode cX10_whyReturn 69 = .ok (.invokevirtual 356, 3) := by decide +kernel
theorem dX10_whyReturn_72 : decode cX10_whyReturn 72 = .ok (.aload_n 0, 1) := by decide +kernel
theorem dX10_whyReturn_73 : decode cX10_whyReturn 73 = .ok (.iload_n 1, 1) := by decide +kernel
theorem dX10_whyReturn_74 : decode cX10_whyReturn 74 = .ok (.invokevirtual 374, 3) := by decide +kernel
theorem dX10_whyReturn_77 : decode cX10_whyReturn 77 = .ok (.if_icmp .ge 7, 3) := by decide +kernel
theorem dX10_whyReturn_80 : decode cX10_whyReturn 80 = .ok (.iconst 4, 1) := by decide +kernel
theorem dX10_whyReturn_81 : decode cX10_whyReturn 81 = .ok (.goto 4, 3) := by decide +kernel
theorem dX10_whyReturn_84 : decode cX10_whyReturn 84 = .ok (.iconst 0, 1) := by decide +kernel
theorem dX10_whyReturn_85 : decode cX10_whyReturn 85 = .ok (.ireturn, 1) := by decide +kernel
theorem dX10_today_0 : decode cX10_today 0 = .ok (.aload_n 0, 1) := by decide +kernel
theorem dX10_today_1 : decode cX10_today 1 = .ok (.getfield 9, 3) := by decide +kernel
theorem dX10_today_4 : decode cX10_today 4 = .ok (.iconst 1, 1) := by decide +kernel
theorem dX10_today_5 : decode cX10_today 5 = .ok (.iaload, 1) := by decide +kernel
theorem dX10_today_6 : decode cX10_today 6 = .ok (.aload_n 0, 1) := by decide +kernel
theorem dX10_today_7 : decode cX10_today 7 = .ok (.getfield 9, 3) := by decide +kernel
theorem dX10_today_10 : decode cX10_today 10 = .ok (.iconst 0, 1) := by decide +kernel
theorem dX10_today_11 : decode cX10_today 11 = .ok (.iaload, 1) := by decide +kernel
theorem dX10_today_12 : decode cX10_today 12 = .ok (.irem, 1) := by decide +kernel
theorem dX10_today_13 : decode cX10_today 13 = .ok (.ireturn, 1) := by decide +kernel
theorem dX10_whyGrant_0 : decode cX10_whyGrant 0 = .ok (.aload_n 0, 1) := by decide +kernel
theorem dX10_whyGrant_1 : decode cX10_whyGrant 1 = .ok (.iload_n 1, 1) := by decide +kernel
theorem dX10_whyGrant_2 : decode cX10_whyGrant 2 = .ok (.invokevirtual 221, 3) := by decide +kernel
theorem dX10_whyGrant_5 : decode cX10_whyGrant 5 = .ok (.ifCond .ne 5, 3) := by decide +kernel
theorem dX10_whyGrant_8 : decode cX10_whyGrant 8 = .ok (.iconst 1, 1) := by decide +kernel
theorem dX10_whyGrant_9 : decode cX10_whyGrant 9 = .ok (.ireturn, 1) := by decide +kernel
theorem dX10_whyGrant_10 : decode cX10_whyGrant 10 = .ok (.aload_n 0, 1) := by decide +kernel
theorem dX10_whyGrant_11 : decode cX10_whyGrant 11 = .ok (.aload_n 0, 1) := by decide +kernel
theorem dX10_whyGrant_12 : decode cX10_whyGrant 12 = .ok (.iload_n 1, 1) := by decide +kernel
theorem dX10_whyGrant_13 : decode cX10_whyGrant 13 = .ok (.iconst 4, 1) := by decide +kernel
theorem dX10_whyGrant_14 : decode cX10_whyGrant 14 = .ok (.invokevirtual 224, 3) := by decide +kernel
theorem dX10_whyGrant_17 : decode cX10_whyGrant 17 = .ok (.iconst 1, 1) := by decide +kernel
theorem dX10_whyGrant_18 : decode cX10_whyGrant 18 = .ok (.invokevirtual 141, 3) := by decide +kernel
theorem dX10_whyGrant_21 : decode cX10_whyGrant 21 = .ok (.aload_n 0, 1) := by decide +kernel
theorem dX10_whyGrant_22 : decode cX10_whyGrant 22 = .ok (.invokevirtual 377, 3) := by decide +kernel
theorem dX10_whyGrant_25 : decode cX10_whyGrant 25 = .ok (.if_icmp .eq 5, 3) := by decide +kernel
theorem dX10_whyGrant_28 : decode cX10_whyGrant 28 = .ok (.iconst 2, 1) := by decide +kernel
theorem dX10_whyGrant_29 : decode cX10_whyGrant 29 = .ok (.ireturn, 1) := by decide +kernel
theorem dX10_whyGrant_30 : decode cX10_whyGrant 30 = .ok (.aload_n 0, 1) := by decide +kernel
theorem dX10_whyGrant_31 : decode cX10_whyGrant 31 = .ok (.aload_n 0, 1) := by decide +kernel
theorem dX10_whyGrant_32 : decode cX10_whyGrant 32 = .ok (.iload_n 1, 1) := by decide +kernel
theorem dX10_whyGrant_33 : decode cX10_whyGrant 33 = .ok (.iconst 4, 1) := by decide +kernel
theorem dX10_whyGrant_34 : decode cX10_whyGrant 34 = .ok (.invokevirtual 224, 3) := by decide +kernel
theorem dX10_whyGrant_37 : decode cX10_whyGrant 37 = .ok (.iconst 2, 1) := by decide +kernel
theorem dX10_whyGrant_38 : decode cX10_whyGrant 38 = .ok (.invokevirtual 141, 3) := by decide +kernel
theorem dX10_whyGrant_41 : decode cX10_whyGrant 41 = .ok (.aload_n 0, 1) := by decide +kernel
theorem dX10_whyGrant_42 : decode cX10_whyGrant 42 = .ok (.iload_n 1, 1) := by decide +kernel
theorem dX10_whyGrant_43 : decode cX10_whyGrant 43 = .ok (.iconst 1, 1) := by decide +kernel
theorem dX10_whyGrant_44 : decode cX10_whyGrant 44 = .ok (.invokevirtual 224, 3) := by decide +kernel
theorem dX10_whyGrant_47 : decode cX10_whyGrant 47 = .ok (.if_icmp .ge 7, 3) := by decide +kernel
theorem dX10_whyGrant_50 : decode cX10_whyGrant 50 = .ok (.iconst 3, 1) := by decide +kernel
theorem dX10_whyGrant_51 : decode cX10_whyGrant 51 = .ok (.goto 4, 3) := by decide +kernel
theorem dX10_whyGrant_54 : decode cX10_whyGrant 54 = .ok (.iconst 0, 1) := by decide +kernel
theorem dX10_whyGrant_55 : decode cX10_whyGrant 55 = .ok (.ireturn, 1) := by decide +kernel
theorem dX10_pays_0 : decode cX10_pays 0 = .ok (.aload_n 0, 1) := by decide +kernel
theorem dX10_pays_1 : decode cX10_pays 1 = .ok (.iload_n 1, 1) := by decide +kernel
theorem dX10_pays_2 : decode cX10_pays 2 = .ok (.iconst 1, 1) := by decide +kernel
theorem dX10_pays_3 : decode cX10_pays 3 = .ok (.aload_n 0, 1) := by decide +kernel
theorem dX10_pays_4 : decode cX10_pays 4 = .ok (.iload_n 1, 1) := by decide +kernel
theorem dX10_pays_5 : decode cX10_pays 5 = .ok (.iconst 1, 1) := by decide +kernel
theorem dX10_pays_6 : decode cX10_pays 6 = .ok (.invokevirtual 356, 3) := by decide +kernel
theorem dX10_pays_9 : decode cX10_pays 9 = .ok (.iload_n 3, 1) := by decide +kernel
theorem dX10_pays_10 : decode cX10_pays 10 = .ok (.isub, 1) := by decide +kernel
theorem dX10_pays_11 : decode cX10_pays 11 = .ok (.invokevirtual 129, 3) := by decide +kernel
theorem dX10_pays_14 : decode cX10_pays 14 = .ok (.aload_n 0, 1) := by decide +kernel
theorem dX10_pays_15 : decode cX10_pays 15 = .ok (.iload_n 2, 1) := by decide +kernel
theorem dX10_pays_16 : decode cX10_pays 16 = .ok (.iconst 0, 1) := by decide +kernel
theorem dX10_pays_17 : decode cX10_pays 17 = .ok (.aload_n 0, 1) := by decide +kernel
theorem dX10_pays_18 : decode cX10_pays 18 = .ok (.iload_n 2, 1) := by decide +kernel
theorem dX10_pays_19 : decode cX10_pays 19 = .ok (.iconst 0, 1) := by decide +kernel
theorem dX10_pays_20 : decode cX10_pays 20 = .ok (.invokevirtual 141, 3) := by decide +kernel
theorem dX10_pays_23 : decode cX10_pays 23 = .ok (.iload_n 3, 1) := by decide +kernel
theorem dX10_pays_24 : decode cX10_pays 24 = .ok (.iadd, 1) := by decide +kernel
theorem dX10_pays_25 : decode cX10_pays 25 = .ok (.invokevirtual 144, 3) := by decide +kernel
theorem dX10_pays_28 : decode cX10_pays 28 = .ok (.return_, 1) := by decide +kernel
theorem dX10_gets_0 : decode cX10_gets 0 = .ok (.aload_n 0, 1) := by decide +kernel
theorem dX10_gets_1 : decode cX10_gets 1 = .ok (.iload_n 2, 1) := by decide +kernel
theorem dX10_gets_2 : decode cX10_gets 2 = .ok (.iconst 4, 1) := by decide +kernel
theorem dX10_gets_3 : decode cX10_gets 3 = .ok (.invokevirtual 224, 3) := by decide +kernel
theorem dX10_gets_6 : decode cX10_gets 6 = .ok (.istore 4, 2) := by decide +kernel
theorem dX10_gets_8 : decode cX10_gets 8 = .ok (.aload_n 0, 1) := by decide +kernel
theorem dX10_gets_9 : decode cX10_gets 9 = .ok (.iload 4, 2) := by decide +kernel
theorem dX10_gets_11 : decode cX10_gets 11 = .ok (.iload_n 1, 1) := by decide +kernel
theorem dX10_gets_12 : decode cX10_gets 12 = .ok (.iload_n 3, 1) := by decide +kernel
theorem dX10_gets_13 : decode cX10_gets 13 = .ok (.ineg, 1) := by decide +kernel
theorem dX10_gets_14 : decode cX10_gets 14 = .ok (.invokevirtual 380, 3) := by decide +kernel
theorem dX10_gets_17 : decode cX10_gets 17 = .ok (.aload_n 0, 1) := by decide +kernel
theorem dX10_gets_18 : decode cX10_gets 18 = .ok (.iload_n 2, 1) := by decide +kernel
theorem dX10_gets_19 : decode cX10_gets 19 = .ok (.iconst 1, 1) := by decide +kernel
theorem dX10_gets_20 : decode cX10_gets 20 = .ok (.iload_n 1, 1) := by decide +kernel
theorem dX10_gets_21 : decode cX10_gets 21 = .ok (.invokevirtual 383, 3) := by decide +kernel
theorem dX10_gets_24 : decode cX10_gets 24 = .ok (.aload_n 0, 1) := by decide +kernel
theorem dX10_gets_25 : decode cX10_gets 25 = .ok (.iload_n 2, 1) := by decide +kernel
theorem dX10_gets_26 : decode cX10_gets 26 = .ok (.iconst 5, 1) := by decide +kernel
theorem dX10_gets_27 : decode cX10_gets 27 = .ok (.aload_n 0, 1) := by decide +kernel
theorem dX10_gets_28 : decode cX10_gets 28 = .ok (.getfield 9, 3) := by decide +kernel
theorem dX10_gets_31 : decode cX10_gets 31 = .ok (.iconst 1, 1) := by decide +kernel
theorem dX10_gets_32 : decode cX10_gets 32 = .ok (.iaload, 1) := by decide +kernel
theorem dX10_gets_33 : decode cX10_gets 33 = .ok (.invokevirtual 180, 3) := by decide +kernel
theorem dX10_gets_36 : decode cX10_gets 36 = .ok (.aload_n 0, 1) := by decide +kernel
theorem dX10_gets_37 : decode cX10_gets 37 = .ok (.iload_n 2, 1) := by decide +kernel
theorem dX10_gets_38 : decode cX10_gets 38 = .ok (.bipush 6, 2) := by decide +kernel
theorem dX10_gets_40 : decode cX10_gets 40 = .ok (.iload_n 3, 1) := by decide +kernel
theorem dX10_gets_41 : decode cX10_gets 41 = .ok (.invokevirtual 180, 3) := by decide +kernel
theorem dX10_gets_44 : decode cX10_gets 44 = .ok (.aload_n 0, 1) := by decide +kernel
theorem dX10_gets_45 : decode cX10_gets 45 = .ok (.iload_n 2, 1) := by decide +kernel
theorem dX10_gets_46 : decode cX10_gets 46 = .ok (.bipush 7, 2) := by decide +kernel
theorem dX10_gets_48 : decode cX10_gets 48 = .ok (.iload 4, 2) := by decide +kernel
theorem dX10_gets_50 : decode cX10_gets 50 = .ok (.invokevirtual 180, 3) := by decide +kernel
theorem dX10_gets_53 : decode cX10_gets 53 = .ok (.return_, 1) := by decide +kernel
theorem dX10_buys_0 : decode cX10_buys 0 = .ok (.aload_n 0, 1) := by decide +kernel
theorem dX10_buys_1 : decode cX10_buys 1 = .ok (.iload_n 2, 1) := by decide +kernel
theorem dX10_buys_2 : decode cX10_buys 2 = .ok (.iconst 4, 1) := by decide +kernel
theorem dX10_buys_3 : decode cX10_buys 3 = .ok (.invokevirtual 224, 3) := by decide +kernel
theorem dX10_buys_6 : decode cX10_buys 6 = .ok (.istore_n 3, 1) := by decide +kernel
theorem dX10_buys_7 : decode cX10_buys 7 = .ok (.aload_n 0, 1) := by decide +kernel
theorem dX10_buys_8 : decode cX10_buys 8 = .ok (.iload_n 2, 1) := by decide +kernel
theorem dX10_buys_9 : decode cX10_buys 9 = .ok (.invokevirtual 368, 3) := by decide +kernel
theorem dX10_buys_12 : decode cX10_buys 12 = .ok (.istore 4, 2) := by decide +kernel
theorem dX10_buys_14 : decode cX10_buys 14 = .ok (.aload_n 0, 1) := by decide +kernel
theorem dX10_buys_15 : decode cX10_buys 15 = .ok (.iload_n 1, 1) := by decide +kernel
theorem dX10_buys_16 : decode cX10_buys 16 = .ok (.iload_n 2, 1) := by decide +kernel
theorem dX10_buys_17 : decode cX10_buys 17 = .ok (.iload 4, 2) := by decide +kernel
theorem dX10_buys_19 : decode cX10_buys 19 = .ok (.invokevirtual 386, 3) := by decide +kernel
theorem dX10_buys_22 : decode cX10_buys 22 = .ok (.aload_n 0, 1) := by decide +kernel
theorem dX10_buys_23 : decode cX10_buys 23 = .ok (.iload_n 3, 1) := by decide +kernel
theorem dX10_buys_24 : decode cX10_buys 24 = .ok (.iconst 2, 1) := by decide +kernel
theorem dX10_buys_25 : decode cX10_buys 25 = .ok (.bipush 50, 2) := by decide +kernel
theorem dX10_buys_27 : decode cX10_buys 27 = .ok (.aload_n 0, 1) := by decide +kernel
theorem dX10_buys_28 : decode cX10_buys 28 = .ok (.iload_n 3, 1) := by decide +kernel
theorem dX10_buys_29 : decode cX10_buys 29 = .ok (.iconst 2, 1) := by decide +kernel
theorem dX10_buys_30 : decode cX10_buys 30 = .ok (.invokevirtual 356, 3) := by decide +kernel
theorem dX10_buys_33 : decode cX10_buys 33 = .ok (.iconst 1, 1) := by decide +kernel
theorem dX10_buys_34 : decode cX10_buys 34 = .ok (.iadd, 1) := by decide +kernel
theorem dX10_buys_35 : decode cX10_buys 35 = .ok (.invokestatic 389, 3) := by decide +kernel
theorem dX10_buys_38 : decode cX10_buys 38 = .ok (.invokevirtual 129, 3) := by decide +kernel
theorem dX10_buys_41 : decode cX10_buys 41 = .ok (.iload 4, 2) := by decide +kernel
theorem dX10_buys_43 : decode cX10_buys 43 = .ok (.ireturn, 1) := by decide +kernel
theorem dX10_sells_0 : decode cX10_sells 0 = .ok (.aload_n 0, 1) := by decide +kernel
theorem dX10_sells_1 : decode cX10_sells 1 = .ok (.iload_n 1, 1) := by decide +kernel
theorem dX10_sells_2 : decode cX10_sells 2 = .ok (.iload_n 2, 1) := by decide +kernel
theorem dX10_sells_3 : decode cX10_sells 3 = .ok (.invokevirtual 371, 3) := by decide +kernel
theorem dX10_sells_6 : decode cX10_sells 6 = .ok (.istore_n 3, 1) := by decide +kernel
theorem dX10_sells_7 : decode cX10_sells 7 = .ok (.aload_n 0, 1) := by decide +kernel
theorem dX10_sells_8 : decode cX10_sells 8 = .ok (.iload_n 2, 1) := by decide +kernel
theorem dX10_sells_9 : decode cX10_sells 9 = .ok (.aload_n 0, 1) := by decide +kernel
theorem dX10_sells_10 : decode cX10_sells 10 = .ok (.iload_n 1, 1) := by decide +kernel
theorem dX10_sells_11 : decode cX10_sells 11 = .ok (.iconst 4, 1) := by decide +kernel
theorem dX10_sells_12 : decode cX10_sells 12 = .ok (.invokevirtual 224, 3) := by decide +kernel
theorem dX10_sells_15 : decode cX10_sells 15 = .ok (.iload_n 3, 1) := by decide +kernel
theorem dX10_sells_16 : decode cX10_sells 16 = .ok (.invokevirtual 380, 3) := by decide +kernel
theorem dX10_sells_19 : decode cX10_sells 19 = .ok (.aload_n 0, 1) := by decide +kernel
theorem dX10_sells_20 : decode cX10_sells 20 = .ok (.iload_n 1, 1) := by decide +kernel
theorem dX10_sells_21 : decode cX10_sells 21 = .ok (.iconst 0, 1) := by decide +kernel
theorem dX10_sells_22 : decode cX10_sells 22 = .ok (.iload_n 2, 1) := by decide +kernel
theorem dX10_sells_23 : decode cX10_sells 23 = .ok (.invokevirtual 383, 3) := by decide +kernel
theorem dX10_sells_26 : decode cX10_sells 26 = .ok (.iload_n 3, 1) := by decide +kernel
theorem dX10_sells_27 : decode cX10_sells 27 = .ok (.ireturn, 1) := by decide +kernel
theorem dX10_returns_0 : decode cX10_returns 0 = .ok (.aload_n 0, 1) := by decide +kernel
theorem dX10_returns_1 : decode cX10_returns 1 = .ok (.iload_n 1, 1) := by decide +kernel
theorem dX10_returns_2 : decode cX10_returns 2 = .ok (.bipush 7, 2) := by decide +kernel
theorem dX10_returns_4 : decode cX10_returns 4 = .ok (.invokevirtual 224, 3) := by decide +kernel
theorem dX10_returns_7 : decode cX10_returns 7 = .ok (.istore_n 2, 1) := by decide +kernel
theorem dX10_returns_8 : decode cX10_returns 8 = .ok (.aload_n 0, 1) := by decide +kernel
theorem dX10_returns_9 : decode cX10_returns 9 = .ok (.iload_n 1, 1) := by decide +kernel
theorem dX10_returns_10 : decode cX10_returns 10 = .ok (.invokevirtual 374, 3) := by decide +kernel
theorem dX10_returns_13 : decode cX10_returns 13 = .ok (.istore_n 3, 1) := by decide +kernel
theorem dX10_returns_14 : decode cX10_returns 14 = .ok (.aload_n 0, 1) := by decide +kernel
theorem dX10_returns_15 : decode cX10_returns 15 = .ok (.iload_n 2, 1) := by decide +kernel
theorem dX10_returns_16 : decode cX10_returns 16 = .ok (.aload_n 0, 1) := by decide +kernel
theorem dX10_returns_17 : decode cX10_returns 17 = .ok (.iload_n 1, 1) := by decide +kernel
theorem dX10_returns_18 : decode cX10_returns 18 = .ok (.iconst 4, 1) := by decide +kernel
theorem dX10_returns_19 : decode cX10_returns 19 = .ok (.invokevirtual 224, 3) := by decide +kernel
theorem dX10_returns_22 : decode cX10_returns 22 = .ok (.iload_n 3, 1) := by decide +kernel
theorem dX10_returns_23 : decode cX10_returns 23 = .ok (.invokevirtual 380, 3) := by decide +kernel
theorem dX10_returns_26 : decode cX10_returns 26 = .ok (.aload_n 0, 1) := by decide +kernel
theorem dX10_returns_27 : decode cX10_returns 27 = .ok (.iload_n 1, 1) := by decide +kernel
theorem dX10_returns_28 : decode cX10_returns 28 = .ok (.iconst 0, 1) := by decide +kernel
theorem dX10_returns_29 : decode cX10_returns 29 = .ok (.iload_n 2, 1) := by decide +kernel
theorem dX10_returns_30 : decode cX10_returns 30 = .ok (.invokevirtual 383, 3) := by decide +kernel
theorem dX10_returns_33 : decode cX10_returns 33 = .ok (.aload_n 0, 1) := by decide +kernel
theorem dX10_returns_34 : decode cX10_returns 34 = .ok (.iload_n 2, 1) := by decide +kernel
theorem dX10_returns_35 : decode cX10_returns 35 = .ok (.iconst 2, 1) := by decide +kernel
theorem dX10_returns_36 : decode cX10_returns 36 = .ok (.iconst 0, 1) := by decide +kernel
theorem dX10_returns_37 : decode cX10_returns 37 = .ok (.aload_n 0, 1) := by decide +kernel
theorem dX10_returns_38 : decode cX10_returns 38 = .ok (.iload_n 2, 1) := by decide +kernel
theorem dX10_returns_39 : decode cX10_returns 39 = .ok (.iconst 2, 1) := by decide +kernel
theorem dX10_returns_40 : decode cX10_returns 40 = .ok (.invokevirtual 356, 3) := by decide +kernel
theorem dX10_returns_43 : decode cX10_returns 43 = .ok (.iconst 2, 1) := by decide +kernel
theorem dX10_returns_44 : decode cX10_returns 44 = .ok (.isub, 1) := by decide +kernel
theorem dX10_returns_45 : decode cX10_returns 45 = .ok (.invokestatic 363, 3) := by decide +kernel
theorem dX10_returns_48 : decode cX10_returns 48 = .ok (.invokevirtual 129, 3) := by decide +kernel
theorem dX10_returns_51 : decode cX10_returns 51 = .ok (.iload_n 3, 1) := by decide +kernel
theorem dX10_returns_52 : decode cX10_returns 52 = .ok (.ireturn, 1) := by decide +kernel
theorem dX10_grants_0 : decode cX10_grants 0 = .ok (.aload_n 0, 1) := by decide +kernel
theorem dX10_grants_1 : decode cX10_grants 1 = .ok (.iload_n 1, 1) := by decide +kernel
theorem dX10_grants_2 : decode cX10_grants 2 = .ok (.iconst 4, 1) := by decide +kernel
theorem dX10_grants_3 : decode cX10_grants 3 = .ok (.invokevirtual 224, 3) := by decide +kernel
theorem dX10_grants_6 : decode cX10_grants 6 = .ok (.istore_n 2, 1) := by decide +kernel
theorem dX10_grants_7 : decode cX10_grants 7 = .ok (.aload_n 0, 1) := by decide +kernel
theorem dX10_grants_8 : decode cX10_grants 8 = .ok (.iload_n 2, 1) := by decide +kernel
theorem dX10_grants_9 : decode cX10_grants 9 = .ok (.iconst 3, 1) := by decide +kernel
theorem dX10_grants_10 : decode cX10_grants 10 = .ok (.aload_n 0, 1) := by decide +kernel
theorem dX10_grants_11 : decode cX10_grants 11 = .ok (.iload_n 2, 1) := by decide +kernel
theorem dX10_grants_12 : decode cX10_grants 12 = .ok (.iconst 3, 1) := by decide +kernel
theorem dX10_grants_13 : decode cX10_grants 13 = .ok (.invokevirtual 141, 3) := by decide +kernel
theorem dX10_grants_16 : decode cX10_grants 16 = .ok (.aload_n 0, 1) := by decide +kernel
theorem dX10_grants_17 : decode cX10_grants 17 = .ok (.iload_n 1, 1) := by decide +kernel
theorem dX10_grants_18 : decode cX10_grants 18 = .ok (.invokevirtual 392, 3) := by decide +kernel
theorem dX10_grants_21 : decode cX10_grants 21 = .ok (.iadd, 1) := by decide +kernel
theorem dX10_grants_22 : decode cX10_grants 22 = .ok (.invokevirtual 144, 3) := by decide +kernel
theorem dX10_grants_25 : decode cX10_grants 25 = .ok (.aload_n 0, 1) := by decide +kernel
theorem dX10_grants_26 : decode cX10_grants 26 = .ok (.iload_n 1, 1) := by decide +kernel
theorem dX10_grants_27 : decode cX10_grants 27 = .ok (.iconst 2, 1) := by decide +kernel
theorem dX10_grants_28 : decode cX10_grants 28 = .ok (.iconst (-1), 1) := by decide +kernel
theorem dX10_grants_29 : decode cX10_grants 29 = .ok (.invokevirtual 383, 3) := by decide +kernel
theorem dX10_grants_32 : decode cX10_grants 32 = .ok (.aload_n 0, 1) := by decide +kernel
theorem dX10_grants_33 : decode cX10_grants 33 = .ok (.iload_n 2, 1) := by decide +kernel
theorem dX10_grants_34 : decode cX10_grants 34 = .ok (.iconst 3, 1) := by decide +kernel
theorem dX10_grants_35 : decode cX10_grants 35 = .ok (.invokevirtual 141, 3) := by decide +kernel
theorem dX10_grants_38 : decode cX10_grants 38 = .ok (.ireturn, 1) := by decide +kernel
theorem dX10_cheapest_0 : decode cX10_cheapest 0 = .ok (.iconst (-1), 1) := by decide +kernel
theorem dX10_cheapest_1 : decode cX10_cheapest 1 = .ok (.istore_n 3, 1) := by decide +kernel
theorem dX10_cheapest_2 : decode cX10_cheapest 2 = .ok (.iconst 0, 1) := by decide +kernel
theorem dX10_cheapest_3 : decode cX10_cheapest 3 = .ok (.istore 4, 2) := by decide +kernel
theorem dX10_cheapest_5 : decode cX10_cheapest 5 = .ok (.iload 4, 2) := by decide +kernel
theorem dX10_cheapest_7 : decode cX10_cheapest 7 = .ok (.aload_n 0, 1) := by decide +kernel
theorem dX10_cheapest_8 : decode cX10_cheapest 8 = .ok (.getfield 9, 3) := by decide +kernel
theorem dX10_cheapest_11 : decode cX10_cheapest 11 = .ok (.iconst 4, 1) := by decide +kernel
theorem dX10_cheapest_12 : decode cX10_cheapest 12 = .ok (.iaload, 1) := by decide +kernel
theorem dX10_cheapest_13 : decode cX10_cheapest 13 = .ok (.if_icmp .ge 54, 3) := by decide +kernel
theorem dX10_cheapest_16 : decode cX10_cheapest 16 = .ok (.aload_n 0, 1) := by decide +kernel
theorem dX10_cheapest_17 : decode cX10_cheapest 17 = .ok (.iload_n 1, 1) := by decide +kernel
theorem dX10_cheapest_18 : decode cX10_cheapest 18 = .ok (.iload 4, 2) := by decide +kernel
theorem dX10_cheapest_20 : decode cX10_cheapest 20 = .ok (.invokevirtual 197, 3) := by decide +kernel
theorem dX10_cheapest_23 : decode cX10_cheapest 23 = .ok (.ifCond .ne 38, 3) := by decide +kernel
theorem dX10_cheapest_26 : decode cX10_cheapest 26 = .ok (.aload_n 0, 1) := by decide +kernel
theorem dX10_cheapest_27 : decode cX10_cheapest 27 = .ok (.iload 4, 2) := by decide +kernel
theorem dX10_cheapest_29 : decode cX10_cheapest 29 = .ok (.invokevirtual 368, 3) := by decide +kernel
theorem dX10_cheapest_32 : decode cX10_cheapest 32 = .ok (.iload_n 2, 1) := by decide +kernel
theorem dX10_cheapest_33 : decode cX10_cheapest 33 = .ok (.if_icmp .le 6, 3) := by decide +kernel
theorem dX10_cheapest_36 : decode cX10_cheapest 36 = .ok (.goto 25, 3) := by decide +kernel
theorem dX10_cheapest_39 : decode cX10_cheapest 39 = .ok (.iload_n 3, 1) := by decide +kernel
theorem dX10_cheapest_40 : decode cX10_cheapest 40 = .ok (.iconst (-1), 1) := by decide +kernel
theorem dX10_cheapest_41 : decode cX10_cheapest 41 = .ok (.if_icmp .eq 17, 3) := by decide +kernel
theorem dX10_cheapest_44 : decode cX10_cheapest 44 = .ok (.aload_n 0, 1) := by decide +kernel
theorem dX10_cheapest_45 : decode cX10_cheapest 45 = .ok (.iload 4, 2) := by decide +kernel
theorem dX10_cheapest_47 : decode cX10_cheapest 47 = .ok (.invokevirtual 368, 3) := by decide +kernel
theorem dX10_cheapest_50 : decode cX10_cheapest 50 = .ok (.aload_n 0, 1) := by decide +kernel
theorem dX10_cheapest_51 : decode cX10_cheapest 51 = .ok (.iload_n 3, 1) := by decide +kernel
theorem dX10_cheapest_52 : decode cX10_cheapest 52 = .ok (.invokevirtual 368, 3) := by decide +kernel
theorem dX10_cheapest_55 : decode cX10_cheapest 55 = .ok (.if_icmp .ge 6, 3) := by decide +kernel
theorem dX10_cheapest_58 : decode cX10_cheapest 58 = .ok (.iload 4, 2) := by decide +kernel
theorem dX10_cheapest_60 : decode cX10_cheapest 60 = .ok (.istore_n 3, 1) := by decide +kernel
theorem dX10_cheapest_61 : decode cX10_cheapest 61 = .ok (.iinc 4 1, 3) := by decide +kernel
theorem dX10_cheapest_64 : decode cX10_cheapest 64 = .ok (.goto (-59), 3) := by decide +kernel
theorem dX10_cheapest_67 : decode cX10_cheapest 67 = .ok (.iload_n 3, 1) := by decide +kernel
theorem dX10_cheapest_68 : decode cX10_cheapest 68 = .ok (.ireturn, 1) := by decide +kernel
theorem dX10_greatestGrant_0 : decode cX10_greatestGrant 0 = .ok (.iconst (-1), 1) := by decide +kernel
theorem dX10_greatestGrant_1 : decode cX10_greatestGrant 1 = .ok (.istore_n 2, 1) := by decide +kernel
theorem dX10_greatestGrant_2 : decode cX10_greatestGrant 2 = .ok (.iconst 0, 1) := by decide +kernel
theorem dX10_greatestGrant_3 : decode cX10_greatestGrant 3 = .ok (.istore_n 3, 1) := by decide +kernel
theorem dX10_greatestGrant_4 : decode cX10_greatestGrant 4 = .ok (.iload_n 3, 1) := by decide +kernel
theorem dX10_greatestGrant_5 : decode cX10_greatestGrant 5 = .ok (.aload_n 0, 1) := by decide +kernel
theorem dX10_greatestGrant_6 : decode cX10_greatestGrant 6 = .ok (.getfield 9, 3) := by decide +kernel
theorem dX10_greatestGrant_9 : decode cX10_greatestGrant 9 = .ok (.iconst 4, 1) := by decide +kernel
theorem dX10_greatestGrant_10 : decode cX10_greatestGrant 10 = .ok (.iaload, 1) := by decide +kernel
theorem dX10_greatestGrant_11 : decode cX10_greatestGrant 11 = .ok (.if_icmp .ge 49, 3) := by decide +kernel
theorem dX10_greatestGrant_14 : decode cX10_greatestGrant 14 = .ok (.aload_n 0, 1) := by decide +kernel
theorem dX10_greatestGrant_15 : decode cX10_greatestGrant 15 = .ok (.iload_n 3, 1) := by decide +kernel
theorem dX10_greatestGrant_16 : decode cX10_greatestGrant 16 = .ok (.iload_n 1, 1) := by decide +kernel
theorem dX10_greatestGrant_17 : decode cX10_greatestGrant 17 = .ok (.invokevirtual 343, 3) := by decide +kernel
theorem dX10_greatestGrant_20 : decode cX10_greatestGrant 20 = .ok (.ifCond .eq 34, 3) := by decide +kernel
theorem dX10_greatestGrant_23 : decode cX10_greatestGrant 23 = .ok (.aload_n 0, 1) := by decide +kernel
theorem dX10_greatestGrant_24 : decode cX10_greatestGrant 24 = .ok (.iload_n 3, 1) := by decide +kernel
theorem dX10_greatestGrant_25 : decode cX10_greatestGrant 25 = .ok (.invokevirtual 215, 3) := by decide +kernel
theorem dX10_greatestGrant_28 : decode cX10_greatestGrant 28 = .ok (.ifCond .eq 6, 3) := by decide +kernel
theorem dX10_greatestGrant_31 : decode cX10_greatestGrant 31 = .ok (.goto 23, 3) := by decide +kernel
theorem dX10_greatestGrant_34 : decode cX10_greatestGrant 34 = .ok (.iload_n 2, 1) := by decide +kernel
theorem dX10_greatestGrant_35 : decode cX10_greatestGrant 35 = .ok (.iconst (-1), 1) := by decide +kernel
theorem dX10_greatestGrant_36 : decode cX10_greatestGrant 36 = .ok (.if_icmp .eq 16, 3) := by decide +kernel
theorem dX10_greatestGrant_39 : decode cX10_greatestGrant 39 = .ok (.aload_n 0, 1) := by decide +kernel
theorem dX10_greatestGrant_40 : decode cX10_greatestGrant 40 = .ok (.iload_n 3, 1) := by decide +kernel
theorem dX10_greatestGrant_41 : decode cX10_greatestGrant 41 = .ok (.invokevirtual 392, 3) := by decide +kernel
theorem dX10_greatestGrant_44 : decode cX10_greatestGrant 44 = .ok (.aload_n 0, 1) := by decide +kernel
theorem dX10_greatestGrant_45 : decode cX10_greatestGrant 45 = .ok (.iload_n 2, 1) := by decide +kernel
theorem dX10_greatestGrant_46 : decode cX10_greatestGrant 46 = .ok (.invokevirtual 392, 3) := by decide +kernel
theorem dX10_greatestGrant_49 : decode cX10_greatestGrant 49 = .ok (.if_icmp .le 5, 3) := by decide +kernel
theorem dX10_greatestGrant_52 : decode cX10_greatestGrant 52 = .ok (.iload_n 3, 1) := by decide +kernel
theorem dX10_greatestGrant_53 : decode cX10_greatestGrant 53 = .ok (.istore_n 2, 1) := by decide +kernel
theorem dX10_greatestGrant_54 : decode cX10_greatestGrant 54 = .ok (.iinc 3 1, 3) := by decide +kernel
theorem dX10_greatestGrant_57 : decode cX10_greatestGrant 57 = .ok (.goto (-53), 3) := by decide +kernel
theorem dX10_greatestGrant_60 : decode cX10_greatestGrant 60 = .ok (.iload_n 2, 1) := by decide +kernel
theorem dX10_greatestGrant_61 : decode cX10_greatestGrant 61 = .ok (.ireturn, 1) := by decide +kernel
theorem dX10_greatestOffer_0 : decode cX10_greatestOffer 0 = .ok (.iconst (-1), 1) := by decide +kernel
theorem dX10_greatestOffer_1 : decode cX10_greatestOffer 1 = .ok (.istore_n 2, 1) := by decide +kernel
theorem dX10_greatestOffer_2 : decode cX10_greatestOffer 2 = .ok (.iconst 0, 1) := by decide +kernel
theorem dX10_greatestOffer_3 : decode cX10_greatestOffer 3 = .ok (.istore_n 3, 1) := by decide +kernel
theorem dX10_greatestOffer_4 : decode cX10_greatestOffer 4 = .ok (.iload_n 3, 1) := by decide +kernel
theorem dX10_greatestOffer_5 : decode cX10_greatestOffer 5 = .ok (.aload_n 0, 1) := by decide +kernel
theorem dX10_greatestOffer_6 : decode cX10_greatestOffer 6 = .ok (.getfield 9, 3) := by decide +kernel
theorem dX10_greatestOffer_9 : decode cX10_greatestOffer 9 = .ok (.iconst 3, 1) := by decide +kernel
theorem dX10_greatestOffer_10 : decode cX10_greatestOffer 10 = .ok (.iaload, 1) := by decide +kernel
theorem dX10_greatestOffer_11 : decode cX10_greatestOffer 11 = .ok (.if_icmp .ge 40, 3) := by decide +kernel
theorem dX10_greatestOffer_14 : decode cX10_greatestOffer 14 = .ok (.aload_n 0, 1) := by decide +kernel
theorem dX10_greatestOffer_15 : decode cX10_greatestOffer 15 = .ok (.iload_n 1, 1) := by decide +kernel
theorem dX10_greatestOffer_16 : decode cX10_greatestOffer 16 = .ok (.iload_n 3, 1) := by decide +kernel
theorem dX10_greatestOffer_17 : decode cX10_greatestOffer 17 = .ok (.invokevirtual 203, 3) := by decide +kernel
theorem dX10_greatestOffer_20 : decode cX10_greatestOffer 20 = .ok (.ifCond .ne 25, 3) := by decide +kernel
theorem dX10_greatestOffer_23 : decode cX10_greatestOffer 23 = .ok (.iload_n 2, 1) := by decide +kernel
theorem dX10_greatestOffer_24 : decode cX10_greatestOffer 24 = .ok (.iconst (-1), 1) := by decide +kernel
theorem dX10_greatestOffer_25 : decode cX10_greatestOffer 25 = .ok (.if_icmp .eq 18, 3) := by decide +kernel
theorem dX10_greatestOffer_28 : decode cX10_greatestOffer 28 = .ok (.aload_n 0, 1) := by decide +kernel
theorem dX10_greatestOffer_29 : decode cX10_greatestOffer 29 = .ok (.iload_n 1, 1) := by decide +kernel
theorem dX10_greatestOffer_30 : decode cX10_greatestOffer 30 = .ok (.iload_n 3, 1) := by decide +kernel
theorem dX10_greatestOffer_31 : decode cX10_greatestOffer 31 = .ok (.invokevirtual 371, 3) := by decide +kernel
theorem dX10_greatestOffer_34 : decode cX10_greatestOffer 34 = .ok (.aload_n 0, 1) := by decide +kernel
theorem dX10_greatestOffer_35 : decode cX10_greatestOffer 35 = .ok (.iload_n 1, 1) := by decide +kernel
theorem dX10_greatestOffer_36 : decode cX10_greatestOffer 36 = .ok (.iload_n 2, 1) := by decide +kernel
theorem dX10_greatestOffer_37 : decode cX10_greatestOffer 37 = .ok (.invokevirtual 371, 3) := by decide +kernel
theorem dX10_greatestOffer_40 : decode cX10_greatestOffer 40 = .ok (.if_icmp .le 5, 3) := by decide +kernel
theorem dX10_greatestOffer_43 : decode cX10_greatestOffer 43 = .ok (.iload_n 3, 1) := by decide +kernel
theorem dX10_greatestOffer_44 : decode cX10_greatestOffer 44 = .ok (.istore_n 2, 1) := by decide +kernel
theorem dX10_greatestOffer_45 : decode cX10_greatestOffer 45 = .ok (.iinc 3 1, 3) := by decide +kernel
theorem dX10_greatestOffer_48 : decode cX10_greatestOffer 48 = .ok (.goto (-44), 3) := by decide +kernel
theorem dX10_greatestOffer_51 : decode cX10_greatestOffer 51 = .ok (.iload_n 2, 1) := by decide +kernel
theorem dX10_greatestOffer_52 : decode cX10_greatestOffer 52 = .ok (.ireturn, 1) := by decide +kernel
theorem dX10_celebrates_0 : decode cX10_celebrates 0 = .ok (.aload_n 0, 1) := by decide +kernel
theorem dX10_celebrates_1 : decode cX10_celebrates 1 = .ok (.iload_n 1, 1) := by decide +kernel
theorem dX10_celebrates_2 : decode cX10_celebrates 2 = .ok (.iconst 1, 1) := by decide +kernel
theorem dX10_celebrates_3 : decode cX10_celebrates 3 = .ok (.invokevirtual 141, 3) := by decide +kernel
theorem dX10_celebrates_6 : decode cX10_celebrates 6 = .ok (.aload_n 0, 1) := by decide +kernel
theorem dX10_celebrates_7 : decode cX10_celebrates 7 = .ok (.invokevirtual 377, 3) := by decide +kernel
theorem dX10_celebrates_10 : decode cX10_celebrates 10 = .ok (.if_icmp .eq 4, 3) := by decide +kernel
theorem dX10_celebrates_13 : decode cX10_celebrates 13 = .ok (.return_, 1) := by decide +kernel
theorem dX10_celebrates_14 : decode cX10_celebrates 14 = .ok (.aload_n 0, 1) := by decide +kernel
theorem dX10_celebrates_15 : decode cX10_celebrates 15 = .ok (.iload_n 1, 1) := by decide +kernel
theorem dX10_celebrates_16 : decode cX10_celebrates 16 = .ok (.iconst 2, 1) := by decide +kernel
theorem dX10_celebrates_17 : decode cX10_celebrates 17 = .ok (.aload_n 0, 1) := by decide +kernel
theorem dX10_celebrates_18 : decode cX10_celebrates 18 = .ok (.iload_n 1, 1) := by decide +kernel
theorem dX10_celebrates_19 : decode cX10_celebrates 19 = .ok (.iconst 2, 1) := by decide +kernel
theorem dX10_celebrates_20 : decode cX10_celebrates 20 = .ok (.invokevirtual 141, 3) := by decide +kernel
theorem dX10_celebrates_23 : decode cX10_celebrates 23 = .ok (.iconst 1, 1) := by decide +kernel
theorem dX10_celebrates_24 : decode cX10_celebrates 24 = .ok (.iadd, 1) := by decide +kernel
theorem dX10_celebrates_25 : decode cX10_celebrates 25 = .ok (.invokevirtual 144, 3) := by decide +kernel
theorem dX10_celebrates_28 : decode cX10_celebrates 28 = .ok (.aload_n 0, 1) := by decide +kernel
theorem dX10_celebrates_29 : decode cX10_celebrates 29 = .ok (.iload_n 1, 1) := by decide +kernel
theorem dX10_celebrates_30 : decode cX10_celebrates 30 = .ok (.iconst 5, 1) := by decide +kernel
theorem dX10_celebrates_31 : decode cX10_celebrates 31 = .ok (.invokevirtual 141, 3) := by decide +kernel
theorem dX10_celebrates_34 : decode cX10_celebrates 34 = .ok (.iconst 1, 1) := by decide +kernel
theorem dX10_celebrates_35 : decode cX10_celebrates 35 = .ok (.if_icmp .ne 11, 3) := by decide +kernel
theorem dX10_celebrates_38 : decode cX10_celebrates 38 = .ok (.aload_n 0, 1) := by decide +kernel
theorem dX10_celebrates_39 : decode cX10_celebrates 39 = .ok (.iload_n 1, 1) := by decide +kernel
theorem dX10_celebrates_40 : decode cX10_celebrates 40 = .ok (.invokevirtual 395, 3) := by decide +kernel
theorem dX10_celebrates_43 : decode cX10_celebrates 43 = .ok (.goto 4, 3) := by decide +kernel
theorem dX10_celebrates_46 : decode cX10_celebrates 46 = .ok (.iconst (-1), 1) := by decide +kernel
theorem dX10_celebrates_47 : decode cX10_celebrates 47 = .ok (.istore_n 2, 1) := by decide +kernel
theorem dX10_celebrates_48 : decode cX10_celebrates 48 = .ok (.iload_n 2, 1) := by decide +kernel
theorem dX10_celebrates_49 : decode cX10_celebrates 49 = .ok (.iconst (-1), 1) := by decide +kernel
theorem dX10_celebrates_50 : decode cX10_celebrates 50 = .ok (.if_icmp .ne 4, 3) := by decide +kernel
theorem dX10_celebrates_53 : decode cX10_celebrates 53 = .ok (.return_, 1) := by decide +kernel
theorem dX10_celebrates_54 : decode cX10_celebrates 54 = .ok (.aload_n 0, 1) := by decide +kernel
theorem dX10_celebrates_55 : decode cX10_celebrates 55 = .ok (.iload_n 2, 1) := by decide +kernel
theorem dX10_celebrates_56 : decode cX10_celebrates 56 = .ok (.invokevirtual 218, 3) := by decide +kernel
theorem dX10_celebrates_59 : decode cX10_celebrates 59 = .ok (.istore_n 3, 1) := by decide +kernel
theorem dX10_celebrates_60 : decode cX10_celebrates 60 = .ok (.return_, 1) := by decide +kernel
theorem dX10_shops_0 : decode cX10_shops 0 = .ok (.aload_n 0, 1) := by decide +kernel
theorem dX10_shops_1 : decode cX10_shops 1 = .ok (.iload_n 1, 1) := by decide +kernel
theorem dX10_shops_2 : decode cX10_shops 2 = .ok (.iconst 4, 1) := by decide +kernel
theorem dX10_shops_3 : decode cX10_shops 3 = .ok (.invokevirtual 141, 3) := by decide +kernel
theorem dX10_shops_6 : decode cX10_shops 6 = .ok (.ifCond .le 17, 3) := by decide +kernel
theorem dX10_shops_9 : decode cX10_shops 9 = .ok (.aload_n 0, 1) := by decide +kernel
theorem dX10_shops_10 : decode cX10_shops 10 = .ok (.iload_n 1, 1) := by decide +kernel
theorem dX10_shops_11 : decode cX10_shops 11 = .ok (.aload_n 0, 1) := by decide +kernel
theorem dX10_shops_12 : decode cX10_shops 12 = .ok (.iload_n 1, 1) := by decide +kernel
theorem dX10_shops_13 : decode cX10_shops 13 = .ok (.iconst 4, 1) := by decide +kernel
theorem dX10_shops_14 : decode cX10_shops 14 = .ok (.invokevirtual 141, 3) := by decide +kernel
theorem dX10_shops_17 : decode cX10_shops 17 = .ok (.invokevirtual 398, 3) := by decide +kernel
theorem dX10_shops_20 : decode cX10_shops 20 = .ok (.goto 4, 3) := by decide +kernel
theorem dX10_shops_23 : decode cX10_shops 23 = .ok (.iconst (-1), 1) := by decide +kernel
theorem dX10_shops_24 : decode cX10_shops 24 = .ok (.istore_n 2, 1) := by decide +kernel
theorem dX10_shops_25 : decode cX10_shops 25 = .ok (.iload_n 2, 1) := by decide +kernel
theorem dX10_shops_26 : decode cX10_shops 26 = .ok (.iconst (-1), 1) := by decide +kernel
theorem dX10_shops_27 : decode cX10_shops 27 = .ok (.if_icmp .ne 4, 3) := by decide +kernel
theorem dX10_shops_30 : decode cX10_shops 30 = .ok (.return_, 1) := by decide +kernel
theorem dX10_shops_31 : decode cX10_shops 31 = .ok (.aload_n 0, 1) := by decide +kernel
theorem dX10_shops_32 : decode cX10_shops 32 = .ok (.iload_n 1, 1) := by decide +kernel
theorem dX10_shops_33 : decode cX10_shops 33 = .ok (.iload_n 2, 1) := by decide +kernel
theorem dX10_shops_34 : decode cX10_shops 34 = .ok (.invokevirtual 200, 3) := by decide +kernel
theorem dX10_shops_37 : decode cX10_shops 37 = .ok (.istore_n 3, 1) := by decide +kernel
theorem dX10_shops_38 : decode cX10_shops 38 = .ok (.return_, 1) := by decide +kernel
theorem dX10_bargains_0 : decode cX10_bargains 0 = .ok (.aload_n 0, 1) := by decide +kernel
theorem dX10_bargains_1 : decode cX10_bargains 1 = .ok (.iload_n 1, 1) := by decide +kernel
theorem dX10_bargains_2 : decode cX10_bargains 2 = .ok (.invokevirtual 401, 3) := by decide +kernel
theorem dX10_bargains_5 : decode cX10_bargains 5 = .ok (.istore_n 2, 1) := by decide +kernel
theorem dX10_bargains_6 : decode cX10_bargains 6 = .ok (.aload_n 0, 1) := by decide +kernel
theorem dX10_bargains_7 : decode cX10_bargains 7 = .ok (.iload_n 1, 1) := by decide +kernel
theorem dX10_bargains_8 : decode cX10_bargains 8 = .ok (.iconst 5, 1) := by decide +kernel
theorem dX10_bargains_9 : decode cX10_bargains 9 = .ok (.invokevirtual 224, 3) := by decide +kernel
theorem dX10_bargains_12 : decode cX10_bargains 12 = .ok (.iconst (-1), 1) := by decide +kernel
theorem dX10_bargains_13 : decode cX10_bargains 13 = .ok (.if_icmp .ne 11, 3) := by decide +kernel
theorem dX10_bargains_16 : decode cX10_bargains 16 = .ok (.aload_n 0, 1) := by decide +kernel
theorem dX10_bargains_17 : decode cX10_bargains 17 = .ok (.iload_n 1, 1) := by decide +kernel
theorem dX10_bargains_18 : decode cX10_bargains 18 = .ok (.invokevirtual 392, 3) := by decide +kernel
theorem dX10_bargains_21 : decode cX10_bargains 21 = .ok (.goto 10, 3) := by decide +kernel
theorem dX10_bargains_24 : decode cX10_bargains 24 = .ok (.aload_n 0, 1) := by decide +kernel
theorem dX10_bargains_25 : decode cX10_bargains 25 = .ok (.iload_n 1, 1) := by decide +kernel
theorem dX10_bargains_26 : decode cX10_bargains 26 = .ok (.bipush 6, 2) := by decide +kernel
theorem dX10_bargains_28 : decode cX10_bargains 28 = .ok (.invokevirtual 224, 3) := by decide +kernel
theorem dX10_bargains_31 : decode cX10_bargains 31 = .ok (.istore_n 3, 1) := by decide +kernel
theorem dX10_bargains_32 : decode cX10_bargains 32 = .ok (.iload_n 2, 1) := by decide +kernel
theorem dX10_bargains_33 : decode cX10_bargains 33 = .ok (.iconst (-1), 1) := by decide +kernel
theorem dX10_bargains_34 : decode cX10_bargains 34 = .ok (.if_icmp .eq 13, 3) := by decide +kernel
theorem dX10_bargains_37 : decode cX10_bargains 37 = .ok (.aload_n 0, 1) := by decide +kernel
theorem dX10_bargains_38 : decode cX10_bargains 38 = .ok (.iload_n 1, 1) := by decide +kernel
theorem dX10_bargains_39 : decode cX10_bargains 39 = .ok (.iload_n 2, 1) := by decide +kernel
theorem dX10_bargains_40 : decode cX10_bargains 40 = .ok (.invokevirtual 371, 3) := by decide +kernel
theorem dX10_bargains_43 : decode cX10_bargains 43 = .ok (.iload_n 3, 1) := by decide +kernel
theorem dX10_bargains_44 : decode cX10_bargains 44 = .ok (.if_icmp .gt 5, 3) := by decide +kernel
theorem dX10_bargains_47 : decode cX10_bargains 47 = .ok (.iconst 0, 1) := by decide +kernel
theorem dX10_bargains_48 : decode cX10_bargains 48 = .ok (.ireturn, 1) := by decide +kernel
theorem dX10_bargains_49 : decode cX10_bargains 49 = .ok (.aload_n 0, 1) := by decide +kernel
theorem dX10_bargains_50 : decode cX10_bargains 50 = .ok (.iload_n 1, 1) := by decide +kernel
theorem dX10_bargains_51 : decode cX10_bargains 51 = .ok (.iload_n 2, 1) := by decide +kernel
theorem dX10_bargains_52 : decode cX10_bargains 52 = .ok (.invokevirtual 206, 3) := by decide +kernel
theorem dX10_bargains_55 : decode cX10_bargains 55 = .ok (.istore 4, 2) := by decide +kernel
theorem dX10_bargains_57 : decode cX10_bargains 57 = .ok (.iconst 1, 1) := by decide +kernel
theorem dX10_bargains_58 : decode cX10_bargains 58 = .ok (.ireturn, 1) := by decide +kernel
theorem dX10_bargainsOnce_0 : decode cX10_bargainsOnce 0 = .ok (.aload_n 0, 1) := by decide +kernel
theorem dX10_bargainsOnce_1 : decode cX10_bargainsOnce 1 = .ok (.iload_n 1, 1) := by decide +kernel
theorem dX10_bargainsOnce_2 : decode cX10_bargainsOnce 2 = .ok (.bipush 6, 2) := by decide +kernel
theorem dX10_bargainsOnce_4 : decode cX10_bargainsOnce 4 = .ok (.invokevirtual 141, 3) := by decide +kernel
theorem dX10_bargainsOnce_7 : decode cX10_bargainsOnce 7 = .ok (.ifCond .ne 7, 3) := by decide +kernel
theorem dX10_bargainsOnce_10 : decode cX10_bargainsOnce 10 = .ok (.iconst 1, 1) := by decide +kernel
theorem dX10_bargainsOnce_11 : decode cX10_bargainsOnce 11 = .ok (.goto 4, 3) := by decide +kernel
theorem dX10_bargainsOnce_14 : decode cX10_bargainsOnce 14 = .ok (.iconst 0, 1) := by decide +kernel
theorem dX10_bargainsOnce_15 : decode cX10_bargainsOnce 15 = .ok (.istore_n 2, 1) := by decide +kernel
theorem dX10_bargainsOnce_16 : decode cX10_bargainsOnce 16 = .ok (.iconst 0, 1) := by decide +kernel
theorem dX10_bargainsOnce_17 : decode cX10_bargainsOnce 17 = .ok (.istore_n 3, 1) := by decide +kernel
theorem dX10_bargainsOnce_18 : decode cX10_bargainsOnce 18 = .ok (.iload_n 3, 1) := by decide +kernel
theorem dX10_bargainsOnce_19 : decode cX10_bargainsOnce 19 = .ok (.aload_n 0, 1) := by decide +kernel
theorem dX10_bargainsOnce_20 : decode cX10_bargainsOnce 20 = .ok (.getfield 9, 3) := by decide +kernel
theorem dX10_bargainsOnce_23 : decode cX10_bargainsOnce 23 = .ok (.iconst 4, 1) := by decide +kernel
theorem dX10_bargainsOnce_24 : decode cX10_bargainsOnce 24 = .ok (.iaload, 1) := by decide +kernel
theorem dX10_bargainsOnce_25 : decode cX10_bargainsOnce 25 = .ok (.if_icmp .ge 28, 3) := by decide +kernel
theorem dX10_bargainsOnce_28 : decode cX10_bargainsOnce 28 = .ok (.iload_n 2, 1) := by decide +kernel
theorem dX10_bargainsOnce_29 : decode cX10_bargainsOnce 29 = .ok (.ifCond .ne 24, 3) := by decide +kernel
theorem dX10_bargainsOnce_32 : decode cX10_bargainsOnce 32 = .ok (.aload_n 0, 1) := by decide +kernel
theorem dX10_bargainsOnce_33 : decode cX10_bargainsOnce 33 = .ok (.iload_n 3, 1) := by decide +kernel
theorem dX10_bargainsOnce_34 : decode cX10_bargainsOnce 34 = .ok (.iload_n 1, 1) := by decide +kernel
theorem dX10_bargainsOnce_35 : decode cX10_bargainsOnce 35 = .ok (.invokevirtual 343, 3) := by decide +kernel
theorem dX10_bargainsOnce_38 : decode cX10_bargainsOnce 38 = .ok (.ifCond .eq 9, 3) := by decide +kernel
theorem dX10_bargainsOnce_41 : decode cX10_bargainsOnce 41 = .ok (.aload_n 0, 1) := by decide +kernel
theorem dX10_bargainsOnce_42 : decode cX10_bargainsOnce 42 = .ok (.iload_n 3, 1) := by decide +kernel
theorem dX10_bargainsOnce_43 : decode cX10_bargainsOnce 43 = .ok (.invokevirtual 404, 3) := by decide +kernel
theorem dX10_bargainsOnce_46 : decode cX10_bargainsOnce 46 = .ok (.istore_n 2, 1) := by decide +kernel
theorem dX10_bargainsOnce_47 : decode cX10_bargainsOnce 47 = .ok (.iinc 3 1, 3) := by decide +kernel
theorem dX10_bargainsOnce_50 : decode cX10_bargainsOnce 50 = .ok (.goto (-32), 3) := by decide +kernel
theorem dX10_bargainsOnce_53 : decode cX10_bargainsOnce 53 = .ok (.return_, 1) := by decide +kernel
theorem dX10_dearest_0 : decode cX10_dearest 0 = .ok (.iconst (-1), 1) := by decide +kernel
theorem dX10_dearest_1 : decode cX10_dearest 1 = .ok (.istore_n 2, 1) := by decide +kernel
theorem dX10_dearest_2 : decode cX10_dearest 2 = .ok (.iconst 0, 1) := by decide +kernel
theorem dX10_dearest_3 : decode cX10_dearest 3 = .ok (.istore_n 3, 1) := by decide +kernel
theorem dX10_dearest_4 : decode cX10_dearest 4 = .ok (.iload_n 3, 1) := by decide +kernel
theorem dX10_dearest_5 : decode cX10_dearest 5 = .ok (.aload_n 0, 1) := by decide +kernel
theorem dX10_dearest_6 : decode cX10_dearest 6 = .ok (.getfield 9, 3) := by decide +kernel
theorem dX10_dearest_9 : decode cX10_dearest 9 = .ok (.iconst 4, 1) := by decide +kernel
theorem dX10_dearest_10 : decode cX10_dearest 10 = .ok (.iaload, 1) := by decide +kernel
theorem dX10_dearest_11 : decode cX10_dearest 11 = .ok (.if_icmp .ge 50, 3) := by decide +kernel
theorem dX10_dearest_14 : decode cX10_dearest 14 = .ok (.aload_n 0, 1) := by decide +kernel
theorem dX10_dearest_15 : decode cX10_dearest 15 = .ok (.iload_n 3, 1) := by decide +kernel
theorem dX10_dearest_16 : decode cX10_dearest 16 = .ok (.invokevirtual 350, 3) := by decide +kernel
theorem dX10_dearest_19 : decode cX10_dearest 19 = .ok (.ifCond .eq 36, 3) := by decide +kernel
theorem dX10_dearest_22 : decode cX10_dearest 22 = .ok (.aload_n 0, 1) := by decide +kernel
theorem dX10_dearest_23 : decode cX10_dearest 23 = .ok (.iload_n 3, 1) := by decide +kernel
theorem dX10_dearest_24 : decode cX10_dearest 24 = .ok (.iconst 4, 1) := by decide +kernel
theorem dX10_dearest_25 : decode cX10_dearest 25 = .ok (.invokevirtual 224, 3) := by decide +kernel
theorem dX10_dearest_28 : decode cX10_dearest 28 = .ok (.iload_n 1, 1) := by decide +kernel
theorem dX10_dearest_29 : decode cX10_dearest 29 = .ok (.if_icmp .eq 6, 3) := by decide +kernel
theorem dX10_dearest_32 : decode cX10_dearest 32 = .ok (.goto 23, 3) := by decide +kernel
theorem dX10_dearest_35 : decode cX10_dearest 35 = .ok (.iload_n 2, 1) := by decide +kernel
theorem dX10_dearest_36 : decode cX10_dearest 36 = .ok (.iconst (-1), 1) := by decide +kernel
theorem dX10_dearest_37 : decode cX10_dearest 37 = .ok (.if_icmp .eq 16, 3) := by decide +kernel
theorem dX10_dearest_40 : decode cX10_dearest 40 = .ok (.aload_n 0, 1) := by decide +kernel
theorem dX10_dearest_41 : decode cX10_dearest 41 = .ok (.iload_n 3, 1) := by decide +kernel
theorem dX10_dearest_42 : decode cX10_dearest 42 = .ok (.invokevirtual 392, 3) := by decide +kernel
theorem dX10_dearest_45 : decode cX10_dearest 45 = .ok (.aload_n 0, 1) := by decide +kernel
theorem dX10_dearest_46 : decode cX10_dearest 46 = .ok (.iload_n 2, 1) := by decide +kernel
theorem dX10_dearest_47 : decode cX10_dearest 47 = .ok (.invokevirtual 392, 3) := by decide +kernel
theorem dX10_dearest_50 : decode cX10_dearest 50 = .ok (.if_icmp .le 5, 3) := by decide +kernel
theorem dX10_dearest_53 : decode cX10_dearest 53 = .ok (.iload_n 3, 1) := by decide +kernel
theorem dX10_dearest_54 : decode cX10_dearest 54 = .ok (.istore_n 2, 1) := by decide +kernel
theorem dX10_dearest_55 : decode cX10_dearest 55 = .ok (.iinc 3 1, 3) := by decide +kernel
theorem dX10_dearest_58 : decode cX10_dearest 58 = .ok (.goto (-54), 3) := by decide +kernel
theorem dX10_dearest_61 : decode cX10_dearest 61 = .ok (.iload_n 2, 1) := by decide +kernel
theorem dX10_dearest_62 : decode cX10_dearest 62 = .ok (.ireturn, 1) := by decide +kernel
theorem dX10_bidOf_0 : decode cX10_bidOf 0 = .ok (.aload_n 0, 1) := by decide +kernel
theorem dX10_bidOf_1 : decode cX10_bidOf 1 = .ok (.iload_n 1, 1) := by decide +kernel
theorem dX10_bidOf_2 : decode cX10_bidOf 2 = .ok (.iconst 0, 1) := by decide +kernel
theorem dX10_bidOf_3 : decode cX10_bidOf 3 = .ok (.invokevirtual 141, 3) := by decide +kernel
theorem dX10_bidOf_6 : decode cX10_bidOf 6 = .ok (.iconst 2, 1) := by decide +kernel
theorem dX10_bidOf_7 : decode cX10_bidOf 7 = .ok (.idiv, 1) := by decide +kernel
theorem dX10_bidOf_8 : decode cX10_bidOf 8 = .ok (.aload_n 0, 1) := by decide +kernel
theorem dX10_bidOf_9 : decode cX10_bidOf 9 = .ok (.iload_n 2, 1) := by decide +kernel
theorem dX10_bidOf_10 : decode cX10_bidOf 10 = .ok (.invokevirtual 392, 3) := by decide +kernel
theorem dX10_bidOf_13 : decode cX10_bidOf 13 = .ok (.invokestatic 389, 3) := by decide +kernel
theorem dX10_bidOf_16 : decode cX10_bidOf 16 = .ok (.ireturn, 1) := by decide +kernel
theorem dX10_bidder_0 : decode cX10_bidder 0 = .ok (.iconst (-1), 1) := by decide +kernel
theorem dX10_bidder_1 : decode cX10_bidder 1 = .ok (.istore_n 2, 1) := by decide +kernel
theorem dX10_bidder_2 : decode cX10_bidder 2 = .ok (.iconst 0, 1) := by decide +kernel
theorem dX10_bidder_3 : decode cX10_bidder 3 = .ok (.istore_n 3, 1) := by decide +kernel
theorem dX10_bidder_4 : decode cX10_bidder 4 = .ok (.iload_n 3, 1) := by decide +kernel
theorem dX10_bidder_5 : decode cX10_bidder 5 = .ok (.aload_n 0, 1) := by decide +kernel
theorem dX10_bidder_6 : decode cX10_bidder 6 = .ok (.getfield 9, 3) := by decide +kernel
theorem dX10_bidder_9 : decode cX10_bidder 9 = .ok (.iconst 2, 1) := by decide +kernel
theorem dX10_bidder_10 : decode cX10_bidder 10 = .ok (.iaload, 1) := by decide +kernel
theorem dX10_bidder_11 : decode cX10_bidder 11 = .ok (.if_icmp .ge 43, 3) := by decide +kernel
theorem dX10_bidder_14 : decode cX10_bidder 14 = .ok (.aload_n 0, 1) := by decide +kernel
theorem dX10_bidder_15 : decode cX10_bidder 15 = .ok (.iload_n 3, 1) := by decide +kernel
theorem dX10_bidder_16 : decode cX10_bidder 16 = .ok (.invokevirtual 177, 3) := by decide +kernel
theorem dX10_bidder_19 : decode cX10_bidder 19 = .ok (.iconst 4, 1) := by decide +kernel
theorem dX10_bidder_20 : decode cX10_bidder 20 = .ok (.if_icmp .ne 6, 3) := by decide +kernel
theorem dX10_bidder_23 : decode cX10_bidder 23 = .ok (.goto 25, 3) := by decide +kernel
theorem dX10_bidder_26 : decode cX10_bidder 26 = .ok (.iload_n 2, 1) := by decide +kernel
theorem dX10_bidder_27 : decode cX10_bidder 27 = .ok (.iconst (-1), 1) := by decide +kernel
theorem dX10_bidder_28 : decode cX10_bidder 28 = .ok (.if_icmp .eq 18, 3) := by decide +kernel
theorem dX10_bidder_31 : decode cX10_bidder 31 = .ok (.aload_n 0, 1) := by decide +kernel
theorem dX10_bidder_32 : decode cX10_bidder 32 = .ok (.iload_n 3, 1) := by decide +kernel
theorem dX10_bidder_33 : decode cX10_bidder 33 = .ok (.iload_n 1, 1) := by decide +kernel
theorem dX10_bidder_34 : decode cX10_bidder 34 = .ok (.invokevirtual 407, 3) := by decide +kernel
theorem dX10_bidder_37 : decode cX10_bidder 37 = .ok (.aload_n 0, 1) := by decide +kernel
theorem dX10_bidder_38 : decode cX10_bidder 38 = .ok (.iload_n 2, 1) := by decide +kernel
theorem dX10_bidder_39 : decode cX10_bidder 39 = .ok (.iload_n 1, 1) := by decide +kernel
theorem dX10_bidder_40 : decode cX10_bidder 40 = .ok (.invokevirtual 407, 3) := by decide +kernel
theorem dX10_bidder_43 : decode cX10_bidder 43 = .ok (.if_icmp .le 5, 3) := by decide +kernel
theorem dX10_bidder_46 : decode cX10_bidder 46 = .ok (.iload_n 3, 1) := by decide +kernel
theorem dX10_bidder_47 : decode cX10_bidder 47 = .ok (.istore_n 2, 1) := by decide +kernel
theorem dX10_bidder_48 : decode cX10_bidder 48 = .ok (.iinc 3 1, 3) := by decide +kernel
theorem dX10_bidder_51 : decode cX10_bidder 51 = .ok (.goto (-47), 3) := by decide +kernel
theorem dX10_bidder_54 : decode cX10_bidder 54 = .ok (.iload_n 2, 1) := by decide +kernel
theorem dX10_bidder_55 : decode cX10_bidder 55 = .ok (.ireturn, 1) := by decide +kernel
theorem dX10_auctions_0 : decode cX10_auctions 0 = .ok (.aload_n 0, 1) := by decide +kernel
theorem dX10_auctions_1 : decode cX10_auctions 1 = .ok (.iload_n 1, 1) := by decide +kernel
theorem dX10_auctions_2 : decode cX10_auctions 2 = .ok (.invokevirtual 410, 3) := by decide +kernel
theorem dX10_auctions_5 : decode cX10_auctions 5 = .ok (.istore_n 2, 1) := by decide +kernel
theorem dX10_auctions_6 : decode cX10_auctions 6 = .ok (.iload_n 2, 1) := by decide +kernel
theorem dX10_auctions_7 : decode cX10_auctions 7 = .ok (.iconst (-1), 1) := by decide +kernel
theorem dX10_auctions_8 : decode cX10_auctions 8 = .ok (.if_icmp .ne 7, 3) := by decide +kernel
theorem dX10_auctions_11 : decode cX10_auctions 11 = .ok (.iconst (-1), 1) := by decide +kernel
theorem dX10_auctions_12 : decode cX10_auctions 12 = .ok (.goto 8, 3) := by decide +kernel
theorem dX10_auctions_15 : decode cX10_auctions 15 = .ok (.aload_n 0, 1) := by decide +kernel
theorem dX10_auctions_16 : decode cX10_auctions 16 = .ok (.iload_n 2, 1) := by decide +kernel
theorem dX10_auctions_17 : decode cX10_auctions 17 = .ok (.invokevirtual 413, 3) := by decide +kernel
theorem dX10_auctions_20 : decode cX10_auctions 20 = .ok (.istore_n 3, 1) := by decide +kernel
theorem dX10_auctions_21 : decode cX10_auctions 21 = .ok (.iload_n 3, 1) := by decide +kernel
theorem dX10_auctions_22 : decode cX10_auctions 22 = .ok (.iconst (-1), 1) := by decide +kernel
theorem dX10_auctions_23 : decode cX10_auctions 23 = .ok (.if_icmp .eq 23, 3) := by decide +kernel
theorem dX10_auctions_26 : decode cX10_auctions 26 = .ok (.aload_n 0, 1) := by decide +kernel
theorem dX10_auctions_27 : decode cX10_auctions 27 = .ok (.iload_n 3, 1) := by decide +kernel
theorem dX10_auctions_28 : decode cX10_auctions 28 = .ok (.iload_n 2, 1) := by decide +kernel
theorem dX10_auctions_29 : decode cX10_auctions 29 = .ok (.invokevirtual 407, 3) := by decide +kernel
theorem dX10_auctions_32 : decode cX10_auctions 32 = .ok (.iconst 1, 1) := by decide +kernel
theorem dX10_auctions_33 : decode cX10_auctions 33 = .ok (.aload_n 0, 1) := by decide +kernel
theorem dX10_auctions_34 : decode cX10_auctions 34 = .ok (.iload_n 2, 1) := by decide +kernel
theorem dX10_auctions_35 : decode cX10_auctions 35 = .ok (.invokevirtual 392, 3) := by decide +kernel
theorem dX10_auctions_38 : decode cX10_auctions 38 = .ok (.iconst 2, 1) := by decide +kernel
theorem dX10_auctions_39 : decode cX10_auctions 39 = .ok (.idiv, 1) := by decide +kernel
theorem dX10_auctions_40 : decode cX10_auctions 40 = .ok (.invokestatic 363, 3) := by decide +kernel
theorem dX10_auctions_43 : decode cX10_auctions 43 = .ok (.if_icmp .ge 4, 3) := by decide +kernel
theorem dX10_auctions_46 : decode cX10_auctions 46 = .ok (.return_, 1) := by decide +kernel
theorem dX10_auctions_47 : decode cX10_auctions 47 = .ok (.aload_n 0, 1) := by decide +kernel
theorem dX10_auctions_48 : decode cX10_auctions 48 = .ok (.iload_n 3, 1) := by decide +kernel
theorem dX10_auctions_49 : decode cX10_auctions 49 = .ok (.iload_n 2, 1) := by decide +kernel
theorem dX10_auctions_50 : decode cX10_auctions 50 = .ok (.aload_n 0, 1) := by decide +kernel
theorem dX10_auctions_51 : decode cX10_auctions 51 = .ok (.iload_n 3, 1) := by decide +kernel
theorem dX10_auctions_52 : decode cX10_auctions 52 = .ok (.iload_n 2, 1) := by decide +kernel
theorem dX10_auctions_53 : decode cX10_auctions 53 = .ok (.invokevirtual 407, 3) := by decide +kernel
theorem dX10_auctions_56 : decode cX10_auctions 56 = .ok (.invokevirtual 386, 3) := by decide +kernel
theorem dX10_auctions_59 : decode cX10_auctions 59 = .ok (.return_, 1) := by decide +kernel
theorem dX10_poorest_0 : decode cX10_poorest 0 = .ok (.iconst 0, 1) := by decide +kernel
theorem dX10_poorest_1 : decode cX10_poorest 1 = .ok (.istore_n 1, 1) := by decide +kernel
theorem dX10_poorest_2 : decode cX10_poorest 2 = .ok (.iconst 1, 1) := by decide +kernel
theorem dX10_poorest_3 : decode cX10_poorest 3 = .ok (.istore_n 2, 1) := by decide +kernel
theorem dX10_poorest_4 : decode cX10_poorest 4 = .ok (.iload_n 2, 1) := by decide +kernel
theorem dX10_poorest_5 : decode cX10_poorest 5 = .ok (.aload_n 0, 1) := by decide +kernel
theorem dX10_poorest_6 : decode cX10_poorest 6 = .ok (.getfield 9, 3) := by decide +kernel
theorem dX10_poorest_9 : decode cX10_poorest 9 = .ok (.iconst 3, 1) := by decide +kernel
theorem dX10_poorest_10 : decode cX10_poorest 10 = .ok (.iaload, 1) := by decide +kernel
theorem dX10_poorest_11 : decode cX10_poorest 11 = .ok (.if_icmp .ge 26, 3) := by decide +kernel
theorem dX10_poorest_14 : decode cX10_poorest 14 = .ok (.aload_n 0, 1) := by decide +kernel
theorem dX10_poorest_15 : decode cX10_poorest 15 = .ok (.iload_n 2, 1) := by decide +kernel
theorem dX10_poorest_16 : decode cX10_poorest 16 = .ok (.iconst 1, 1) := by decide +kernel
theorem dX10_poorest_17 : decode cX10_poorest 17 = .ok (.invokevirtual 356, 3) := by decide +kernel
theorem dX10_poorest_20 : decode cX10_poorest 20 = .ok (.aload_n 0, 1) := by decide +kernel
theorem dX10_poorest_21 : decode cX10_poorest 21 = .ok (.iload_n 1, 1) := by decide +kernel
theorem dX10_poorest_22 : decode cX10_poorest 22 = .ok (.iconst 1, 1) := by decide +kernel
theorem dX10_poorest_23 : decode cX10_poorest 23 = .ok (.invokevirtual 356, 3) := by decide +kernel
theorem dX10_poorest_26 : decode cX10_poorest 26 = .ok (.if_icmp .ge 5, 3) := by decide +kernel
theorem dX10_poorest_29 : decode cX10_poorest 29 = .ok (.iload_n 2, 1) := by decide +kernel
theorem dX10_poorest_30 : decode cX10_poorest 30 = .ok (.istore_n 1, 1) := by decide +kernel
theorem dX10_poorest_31 : decode cX10_poorest 31 = .ok (.iinc 2 1, 3) := by decide +kernel
theorem dX10_poorest_34 : decode cX10_poorest 34 = .ok (.goto (-30), 3) := by decide +kernel
theorem dX10_poorest_37 : decode cX10_poorest 37 = .ok (.iload_n 1, 1) := by decide +kernel
theorem dX10_poorest_38 : decode cX10_poorest 38 = .ok (.ireturn, 1) := by decide +kernel
theorem dX10_paysTax_0 : decode cX10_paysTax 0 = .ok (.aload_n 0, 1) := by decide +kernel
theorem dX10_paysTax_1 : decode cX10_paysTax 1 = .ok (.aload_n 0, 1) := by decide +kernel
theorem dX10_paysTax_2 : decode cX10_paysTax 2 = .ok (.invokevirtual 416, 3) := by decide +kernel
theorem dX10_paysTax_5 : decode cX10_paysTax 5 = .ok (.iload_n 1, 1) := by decide +kernel
theorem dX10_paysTax_6 : decode cX10_paysTax 6 = .ok (.aload_n 0, 1) := by decide +kernel
theorem dX10_paysTax_7 : decode cX10_paysTax 7 = .ok (.iload_n 1, 1) := by decide +kernel
theorem dX10_paysTax_8 : decode cX10_paysTax 8 = .ok (.iconst 0, 1) := by decide +kernel
theorem dX10_paysTax_9 : decode cX10_paysTax 9 = .ok (.invokevirtual 141, 3) := by decide +kernel
theorem dX10_paysTax_12 : decode cX10_paysTax 12 = .ok (.aload_n 0, 1) := by decide +kernel
theorem dX10_paysTax_13 : decode cX10_paysTax 13 = .ok (.getfield 9, 3) := by decide +kernel
theorem dX10_paysTax_16 : decode cX10_paysTax 16 = .ok (.bipush 10, 2) := by decide +kernel
theorem dX10_paysTax_18 : decode cX10_paysTax 18 = .ok (.iaload, 1) := by decide +kernel
theorem dX10_paysTax_19 : decode cX10_paysTax 19 = .ok (.imul, 1) := by decide +kernel
theorem dX10_paysTax_20 : decode cX10_paysTax 20 = .ok (.bipush 100, 2) := by decide +kernel
theorem dX10_paysTax_22 : decode cX10_paysTax 22 = .ok (.idiv, 1) := by decide +kernel
theorem dX10_paysTax_23 : decode cX10_paysTax 23 = .ok (.ineg, 1) := by decide +kernel
theorem dX10_paysTax_24 : decode cX10_paysTax 24 = .ok (.invokevirtual 380, 3) := by decide +kernel
theorem dX10_paysTax_27 : decode cX10_paysTax 27 = .ok (.return_, 1) := by decide +kernel
theorem dX10_wears_0 : decode cX10_wears 0 = .ok (.aload_n 0, 1) := by decide +kernel
theorem dX10_wears_1 : decode cX10_wears 1 = .ok (.iload_n 1, 1) := by decide +kernel
theorem dX10_wears_2 : decode cX10_wears 2 = .ok (.invokevirtual 221, 3) := by decide +kernel
theorem dX10_wears_5 : decode cX10_wears 5 = .ok (.ifCond .ne 12, 3) := by decide +kernel
theorem dX10_wears_8 : decode cX10_wears 8 = .ok (.aload_n 0, 1) := by decide +kernel
theorem dX10_wears_9 : decode cX10_wears 9 = .ok (.iload_n 1, 1) := by decide +kernel
theorem dX10_wears_10 : decode cX10_wears 10 = .ok (.invokevirtual 350, 3) := by decide +kernel
theorem dX10_wears_13 : decode cX10_wears 13 = .ok (.ifCond .ne 4, 3) := by decide +kernel
theorem dX10_wears_16 : decode cX10_wears 16 = .ok (.return_, 1) := by decide +kernel
theorem dX10_wears_17 : decode cX10_wears 17 = .ok (.aload_n 0, 1) := by decide +kernel
theorem dX10_wears_18 : decode cX10_wears 18 = .ok (.iload_n 1, 1) := by decide +kernel
theorem dX10_wears_19 : decode cX10_wears 19 = .ok (.iconst 2, 1) := by decide +kernel
theorem dX10_wears_20 : decode cX10_wears 20 = .ok (.aload_n 0, 1) := by decide +kernel
theorem dX10_wears_21 : decode cX10_wears 21 = .ok (.iload_n 1, 1) := by decide +kernel
theorem dX10_wears_22 : decode cX10_wears 22 = .ok (.iconst 2, 1) := by decide +kernel
theorem dX10_wears_23 : decode cX10_wears 23 = .ok (.invokevirtual 224, 3) := by decide +kernel
theorem dX10_wears_26 : decode cX10_wears 26 = .ok (.iconst 1, 1) := by decide +kernel
theorem dX10_wears_27 : decode cX10_wears 27 = .ok (.iadd, 1) := by decide +kernel
theorem dX10_wears_28 : decode cX10_wears 28 = .ok (.invokevirtual 180, 3) := by decide +kernel
theorem dX10_wears_31 : decode cX10_wears 31 = .ok (.aload_n 0, 1) := by decide +kernel
theorem dX10_wears_32 : decode cX10_wears 32 = .ok (.iload_n 1, 1) := by decide +kernel
theorem dX10_wears_33 : decode cX10_wears 33 = .ok (.iconst 2, 1) := by decide +kernel
theorem dX10_wears_34 : decode cX10_wears 34 = .ok (.invokevirtual 224, 3) := by decide +kernel
theorem dX10_wears_37 : decode cX10_wears 37 = .ok (.bipush 10, 2) := by decide +kernel
theorem dX10_wears_39 : decode cX10_wears 39 = .ok (.if_icmp .ne 10, 3) := by decide +kernel
theorem dX10_wears_42 : decode cX10_wears 42 = .ok (.aload_n 0, 1) := by decide +kernel
theorem dX10_wears_43 : decode cX10_wears 43 = .ok (.iload_n 1, 1) := by decide +kernel
theorem dX10_wears_44 : decode cX10_wears 44 = .ok (.iconst 3, 1) := by decide +kernel
theorem dX10_wears_45 : decode cX10_wears 45 = .ok (.iconst (-1), 1) := by decide +kernel
theorem dX10_wears_46 : decode cX10_wears 46 = .ok (.invokevirtual 383, 3) := by decide +kernel
theorem dX10_wears_49 : decode cX10_wears 49 = .ok (.return_, 1) := by decide +kernel
theorem dX10_passes_0 : decode cX10_passes 0 = .ok (.iconst 0, 1) := by decide +kernel
theorem dX10_passes_1 : decode cX10_passes 1 = .ok (.istore_n 1, 1) := by decide +kernel
theorem dX10_passes_2 : decode cX10_passes 2 = .ok (.iload_n 1, 1) := by decide +kernel
theorem dX10_passes_3 : decode cX10_passes 3 = .ok (.aload_n 0, 1) := by decide +kernel
theorem dX10_passes_4 : decode cX10_passes 4 = .ok (.getfield 9, 3) := by decide +kernel
theorem dX10_passes_7 : decode cX10_passes 7 = .ok (.iconst 2, 1) := by decide +kernel
theorem dX10_passes_8 : decode cX10_passes 8 = .ok (.iaload, 1) := by decide +kernel
theorem dX10_passes_9 : decode cX10_passes 9 = .ok (.if_icmp .ge 14, 3) := by decide +kernel
theorem dX10_passes_12 : decode cX10_passes 12 = .ok (.aload_n 0, 1) := by decide +kernel
theorem dX10_passes_13 : decode cX10_passes 13 = .ok (.iload_n 1, 1) := by decide +kernel
theorem dX10_passes_14 : decode cX10_passes 14 = .ok (.invokevirtual 419, 3) := by decide +kernel
theorem dX10_passes_17 : decode cX10_passes 17 = .ok (.iinc 1 1, 3) := by decide +kernel
theorem dX10_passes_20 : decode cX10_passes 20 = .ok (.goto (-18), 3) := by decide +kernel
theorem dX10_passes_23 : decode cX10_passes 23 = .ok (.iconst 0, 1) := by decide +kernel
theorem dX10_passes_24 : decode cX10_passes 24 = .ok (.istore_n 1, 1) := by decide +kernel
theorem dX10_passes_25 : decode cX10_passes 25 = .ok (.iload_n 1, 1) := by decide +kernel
theorem dX10_passes_26 : decode cX10_passes 26 = .ok (.aload_n 0, 1) := by decide +kernel
theorem dX10_passes_27 : decode cX10_passes 27 = .ok (.getfield 9, 3) := by decide +kernel
theorem dX10_passes_30 : decode cX10_passes 30 = .ok (.iconst 2, 1) := by decide +kernel
theorem dX10_passes_31 : decode cX10_passes 31 = .ok (.iaload, 1) := by decide +kernel
theorem dX10_passes_32 : decode cX10_passes 32 = .ok (.if_icmp .ge 14, 3) := by decide +kernel
theorem dX10_passes_35 : decode cX10_passes 35 = .ok (.aload_n 0, 1) := by decide +kernel
theorem dX10_passes_36 : decode cX10_passes 36 = .ok (.iload_n 1, 1) := by decide +kernel
theorem dX10_passes_37 : decode cX10_passes 37 = .ok (.invokevirtual 422, 3) := by decide +kernel
theorem dX10_passes_40 : decode cX10_passes 40 = .ok (.iinc 1 1, 3) := by decide +kernel
theorem dX10_passes_43 : decode cX10_passes 43 = .ok (.goto (-18), 3) := by decide +kernel
theorem dX10_passes_46 : decode cX10_passes 46 = .ok (.iconst 0, 1) := by decide +kernel
theorem dX10_passes_47 : decode cX10_passes 47 = .ok (.istore_n 1, 1) := by decide +kernel
theorem dX10_passes_48 : decode cX10_passes 48 = .ok (.iload_n 1, 1) := by decide +kernel
theorem dX10_passes_49 : decode cX10_passes 49 = .ok (.aload_n 0, 1) := by decide +kernel
theorem dX10_passes_50 : decode cX10_passes 50 = .ok (.getfield 9, 3) := by decide +kernel
theorem dX10_passes_53 : decode cX10_passes 53 = .ok (.iconst 2, 1) := by decide +kernel
theorem dX10_passes_54 : decode cX10_passes 54 = .ok (.iaload, 1) := by decide +kernel
theorem dX10_passes_55 : decode cX10_passes 55 = .ok (.if_icmp .ge 14, 3) := by decide +kernel
theorem dX10_passes_58 : decode cX10_passes 58 = .ok (.aload_n 0, 1) := by decide +kernel
theorem dX10_passes_59 : decode cX10_passes 59 = .ok (.iload_n 1, 1) := by decide +kernel
theorem dX10_passes_60 : decode cX10_passes 60 = .ok (.invokevirtual 425, 3) := by decide +kernel
theorem dX10_passes_63 : decode cX10_passes 63 = .ok (.iinc 1 1, 3) := by decide +kernel
theorem dX10_passes_66 : decode cX10_passes 66 = .ok (.goto (-18), 3) := by decide +kernel
theorem dX10_passes_69 : decode cX10_passes 69 = .ok (.iconst 0, 1) := by decide +kernel
theorem dX10_passes_70 : decode cX10_passes 70 = .ok (.istore_n 1, 1) := by decide +kernel
theorem dX10_passes_71 : decode cX10_passes 71 = .ok (.iload_n 1, 1) := by decide +kernel
theorem dX10_passes_72 : decode cX10_passes 72 = .ok (.aload_n 0, 1) := by decide +kernel
theorem dX10_passes_73 : decode cX10_passes 73 = .ok (.getfield 9, 3) := by decide +kernel
theorem dX10_passes_76 : decode cX10_passes 76 = .ok (.iconst 3, 1) := by decide +kernel
theorem dX10_passes_77 : decode cX10_passes 77 = .ok (.iaload, 1) := by decide +kernel
theorem dX10_passes_78 : decode cX10_passes 78 = .ok (.if_icmp .ge 28, 3) := by decide +kernel
theorem dX10_passes_81 : decode cX10_passes 81 = .ok (.aload_n 0, 1) := by decide +kernel
theorem dX10_passes_82 : decode cX10_passes 82 = .ok (.invokevirtual 377, 3) := by decide +kernel
theorem dX10_passes_85 : decode cX10_passes 85 = .ok (.aload_n 0, 1) := by decide +kernel
theorem dX10_passes_86 : decode cX10_passes 86 = .ok (.getfield 9, 3) := by decide +kernel
theorem dX10_passes_89 : decode cX10_passes 89 = .ok (.bipush 8, 2) := by decide +kernel
theorem dX10_passes_91 : decode cX10_passes 91 = .ok (.iaload, 1) := by decide +kernel
theorem dX10_passes_92 : decode cX10_passes 92 = .ok (.if_icmp .ne 14, 3) := by decide +kernel
theorem dX10_passes_95 : decode cX10_passes 95 = .ok (.aload_n 0, 1) := by decide +kernel
theorem dX10_passes_96 : decode cX10_passes 96 = .ok (.iload_n 1, 1) := by decide +kernel
theorem dX10_passes_97 : decode cX10_passes 97 = .ok (.invokevirtual 428, 3) := by decide +kernel
theorem dX10_passes_100 : decode cX10_passes 100 = .ok (.iinc 1 1, 3) := by decide +kernel
theorem dX10_passes_103 : decode cX10_passes 103 = .ok (.goto (-32), 3) := by decide +kernel
theorem dX10_passes_106 : decode cX10_passes 106 = .ok (.iconst 0, 1) := by decide +kernel
theorem dX10_passes_107 : decode cX10_passes 107 = .ok (.istore_n 1, 1) := by decide +kernel
theorem dX10_passes_108 : decode cX10_passes 108 = .ok (.iload_n 1, 1) := by decide +kernel
theorem dX10_passes_109 : decode cX10_passes 109 = .ok (.aload_n 0, 1) := by decide +kernel
theorem dX10_passes_110 : decode cX10_passes 110 = .ok (.getfield 9, 3) := by decide +kernel
theorem dX10_passes_113 : decode cX10_passes 113 = .ok (.iconst 2, 1) := by decide +kernel
theorem dX10_passes_114 : decode cX10_passes 114 = .ok (.iaload, 1) := by decide +kernel
theorem dX10_passes_115 : decode cX10_passes 115 = .ok (.if_icmp .ge 37, 3) := by decide +kernel
theorem dX10_passes_118 : decode cX10_passes 118 = .ok (.aload_n 0, 1) := by decide +kernel
theorem dX10_passes_119 : decode cX10_passes 119 = .ok (.getfield 9, 3) := by decide +kernel
theorem dX10_passes_122 : decode cX10_passes 122 = .ok (.iconst 3, 1) := by decide +kernel
theorem dX10_passes_123 : decode cX10_passes 123 = .ok (.iaload, 1) := by decide +kernel
theorem dX10_passes_124 : decode cX10_passes 124 = .ok (.ifCond .le 28, 3) := by decide +kernel
theorem dX10_passes_127 : decode cX10_passes 127 = .ok (.aload_n 0, 1) := by decide +kernel
theorem dX10_passes_128 : decode cX10_passes 128 = .ok (.invokevirtual 377, 3) := by decide +kernel
theorem dX10_passes_131 : decode cX10_passes 131 = .ok (.aload_n 0, 1) := by decide +kernel
theorem dX10_passes_132 : decode cX10_passes 132 = .ok (.getfield 9, 3) := by decide +kernel
theorem dX10_passes_135 : decode cX10_passes 135 = .ok (.bipush 9, 2) := by decide +kernel
theorem dX10_passes_137 : decode cX10_passes 137 = .ok (.iaload, 1) := by decide +kernel
theorem dX10_passes_138 : decode cX10_passes 138 = .ok (.if_icmp .ne 14, 3) := by decide +kernel
theorem dX10_passes_141 : decode cX10_passes 141 = .ok (.aload_n 0, 1) := by decide +kernel
theorem dX10_passes_142 : decode cX10_passes 142 = .ok (.iload_n 1, 1) := by decide +kernel
theorem dX10_passes_143 : decode cX10_passes 143 = .ok (.invokevirtual 431, 3) := by decide +kernel
theorem dX10_passes_146 : decode cX10_passes 146 = .ok (.iinc 1 1, 3) := by decide +kernel
theorem dX10_passes_149 : decode cX10_passes 149 = .ok (.goto (-41), 3) := by decide +kernel
theorem dX10_passes_152 : decode cX10_passes 152 = .ok (.aload_n 0, 1) := by decide +kernel
theorem dX10_passes_153 : decode cX10_passes 153 = .ok (.getfield 9, 3) := by decide +kernel
theorem dX10_passes_156 : decode cX10_passes 156 = .ok (.iconst 1, 1) := by decide +kernel
theorem dX10_passes_157 : decode cX10_passes 157 = .ok (.dup2, 1) := by decide +kernel
theorem dX10_passes_158 : decode cX10_passes 158 = .ok (.iaload, 1) := by decide +kernel
theorem dX10_passes_159 : decode cX10_passes 159 = .ok (.iconst 1, 1) := by decide +kernel
theorem dX10_passes_160 : decode cX10_passes 160 = .ok (.iadd, 1) := by decide +kernel
theorem dX10_passes_161 : decode cX10_passes 161 = .ok (.iastore, 1) := by decide +kernel
theorem dX10_passes_162 : decode cX10_passes 162 = .ok (.iconst 0, 1) := by decide +kernel
theorem dX10_passes_163 : decode cX10_passes 163 = .ok (.istore_n 1, 1) := by decide +kernel
theorem dX10_passes_164 : decode cX10_passes 164 = .ok (.iload_n 1, 1) := by decide +kernel
theorem dX10_passes_165 : decode cX10_passes 165 = .ok (.aload_n 0, 1) := by decide +kernel
theorem dX10_passes_166 : decode cX10_passes 166 = .ok (.getfield 9, 3) := by decide +kernel
theorem dX10_passes_169 : decode cX10_passes 169 = .ok (.iconst 4, 1) := by decide +kernel
theorem dX10_passes_170 : decode cX10_passes 170 = .ok (.iaload, 1) := by decide +kernel
theorem dX10_passes_171 : decode cX10_passes 171 = .ok (.if_icmp .ge 21, 3) := by decide +kernel
theorem dX10_passes_174 : decode cX10_passes 174 = .ok (.aload_n 0, 1) := by decide +kernel
theorem dX10_passes_175 : decode cX10_passes 175 = .ok (.invokevirtual 377, 3) := by decide +kernel
theorem dX10_passes_178 : decode cX10_passes 178 = .ok (.ifCond .ne 14, 3) := by decide +kernel
theorem dX10_passes_181 : decode cX10_passes 181 = .ok (.aload_n 0, 1) := by decide +kernel
theorem dX10_passes_182 : decode cX10_passes 182 = .ok (.iload_n 1, 1) := by decide +kernel
theorem dX10_passes_183 : decode cX10_passes 183 = .ok (.invokevirtual 434, 3) := by decide +kernel
theorem dX10_passes_186 : decode cX10_passes 186 = .ok (.iinc 1 1, 3) := by decide +kernel
theorem dX10_passes_189 : decode cX10_passes 189 = .ok (.goto (-25), 3) := by decide +kernel
theorem dX10_passes_192 : decode cX10_passes 192 = .ok (.return_, 1) := by decide +kernel
theorem dX10_passesMany_0 : decode cX10_passesMany 0 = .ok (.iconst 0, 1) := by decide +kernel
theorem dX10_passesMany_1 : decode cX10_passesMany 1 = .ok (.istore_n 2, 1) := by decide +kernel
theorem dX10_passesMany_2 : decode cX10_passesMany 2 = .ok (.iload_n 2, 1) := by decide +kernel
theorem dX10_passesMany_3 : decode cX10_passesMany 3 = .ok (.iload_n 1, 1) := by decide +kernel
theorem dX10_passesMany_4 : decode cX10_passesMany 4 = .ok (.if_icmp .ge 13, 3) := by decide +kernel
theorem dX10_passesMany_7 : decode cX10_passesMany 7 = .ok (.aload_n 0, 1) := by decide +kernel
theorem dX10_passesMany_8 : decode cX10_passesMany 8 = .ok (.invokevirtual 437, 3) := by decide +kernel
theorem dX10_passesMany_11 : decode cX10_passesMany 11 = .ok (.iinc 2 1, 3) := by decide +kernel
theorem dX10_passesMany_14 : decode cX10_passesMany 14 = .ok (.goto (-12), 3) := by decide +kernel
theorem dX10_passesMany_17 : decode cX10_passesMany 17 = .ok (.return_, 1) := by decide +kernel
theorem dX10_look_0 : decode cX10_look 0 = .ok (.aload_n 0, 1) := by decide +kernel
theorem dX10_look_1 : decode cX10_look 1 = .ok (.invokevirtual 440, 3) := by decide +kernel
theorem dX10_look_4 : decode cX10_look 4 = .ok (.ifCond .eq 12, 3) := by decide +kernel
theorem dX10_look_7 : decode cX10_look 7 = .ok (.aload_n 0, 1) := by decide +kernel
theorem dX10_look_8 : decode cX10_look 8 = .ok (.getfield 9, 3) := by decide +kernel
theorem dX10_look_11 : decode cX10_look 11 = .ok (.iload_n 1, 1) := by decide +kernel
theorem dX10_look_12 : decode cX10_look 12 = .ok (.iaload, 1) := by decide +kernel
theorem dX10_look_13 : decode cX10_look 13 = .ok (.goto 4, 3) := by decide +kernel
theorem dX10_look_16 : decode cX10_look 16 = .ok (.iconst 0, 1) := by decide +kernel
theorem dX10_look_17 : decode cX10_look 17 = .ok (.ireturn, 1) := by decide +kernel
theorem dX10_day_0 : decode cX10_day 0 = .ok (.aload_n 0, 1) := by decide +kernel
theorem dX10_day_1 : decode cX10_day 1 = .ok (.iconst 1, 1) := by decide +kernel
theorem dX10_day_2 : decode cX10_day 2 = .ok (.invokevirtual 444, 3) := by decide +kernel
theorem dX10_day_5 : decode cX10_day 5 = .ok (.ireturn, 1) := by decide +kernel
theorem dX10_yearLength_0 : decode cX10_yearLength 0 = .ok (.aload_n 0, 1) := by decide +kernel
theorem dX10_yearLength_1 : decode cX10_yearLength 1 = .ok (.iconst 0, 1) := by decide +kernel
theorem dX10_yearLength_2 : decode cX10_yearLength 2 = .ok (.invokevirtual 444, 3) := by decide +kernel
theorem dX10_yearLength_5 : decode cX10_yearLength 5 = .ok (.ireturn, 1) := by decide +kernel
theorem dX10_dayOfYear_0 : decode cX10_dayOfYear 0 = .ok (.aload_n 0, 1) := by decide +kernel
theorem dX10_dayOfYear_1 : decode cX10_dayOfYear 1 = .ok (.invokevirtual 440, 3) := by decide +kernel
theorem dX10_dayOfYear_4 : decode cX10_dayOfYear 4 = .ok (.ifCond .eq 10, 3) := by decide +kernel
theorem dX10_dayOfYear_7 : decode cX10_dayOfYear 7 = .ok (.aload_n 0, 1) := by decide +kernel
theorem dX10_dayOfYear_8 : decode cX10_dayOfYear 8 = .ok (.invokevirtual 377, 3) := by decide +kernel
theorem dX10_dayOfYear_11 : decode cX10_dayOfYear 11 = .ok (.goto 4, 3) := by decide +kernel
theorem dX10_dayOfYear_14 : decode cX10_dayOfYear 14 = .ok (.iconst 0, 1) := by decide +kernel
theorem dX10_dayOfYear_15 : decode cX10_dayOfYear 15 = .ok (.ireturn, 1) := by decide +kernel
theorem dX10_wishesIn_0 : decode cX10_wishesIn 0 = .ok (.iconst 0, 1) := by decide +kernel
theorem dX10_wishesIn_1 : decode cX10_wishesIn 1 = .ok (.istore_n 2, 1) := by decide +kernel
theorem dX10_wishesIn_2 : decode cX10_wishesIn 2 = .ok (.iconst 0, 1) := by decide +kernel
theorem dX10_wishesIn_3 : decode cX10_wishesIn 3 = .ok (.istore_n 3, 1) := by decide +kernel
theorem dX10_wishesIn_4 : decode cX10_wishesIn 4 = .ok (.iload_n 3, 1) := by decide +kernel
theorem dX10_wishesIn_5 : decode cX10_wishesIn 5 = .ok (.aload_n 0, 1) := by decide +kernel
theorem dX10_wishesIn_6 : decode cX10_wishesIn 6 = .ok (.getfield 9, 3) := by decide +kernel
theorem dX10_wishesIn_9 : decode cX10_wishesIn 9 = .ok (.iconst 4, 1) := by decide +kernel
theorem dX10_wishesIn_10 : decode cX10_wishesIn 10 = .ok (.iaload, 1) := by decide +kernel
theorem dX10_wishesIn_11 : decode cX10_wishesIn 11 = .ok (.if_icmp .ge 30, 3) := by decide +kernel
theorem dX10_wishesIn_14 : decode cX10_wishesIn 14 = .ok (.iload_n 2, 1) := by decide +kernel
theorem dX10_wishesIn_15 : decode cX10_wishesIn 15 = .ok (.aload_n 0, 1) := by decide +kernel
theorem dX10_wishesIn_16 : decode cX10_wishesIn 16 = .ok (.iload_n 3, 1) := by decide +kernel
theorem dX10_wishesIn_17 : decode cX10_wishesIn 17 = .ok (.iconst 3, 1) := by decide +kernel
theorem dX10_wishesIn_18 : decode cX10_wishesIn 18 = .ok (.invokevirtual 224, 3) := by decide +kernel
theorem dX10_wishesIn_21 : decode cX10_wishesIn 21 = .ok (.iload_n 1, 1) := by decide +kernel
theorem dX10_wishesIn_22 : decode cX10_wishesIn 22 = .ok (.if_icmp .ne 7, 3) := by decide +kernel
theorem dX10_wishesIn_25 : decode cX10_wishesIn 25 = .ok (.iconst 1, 1) := by decide +kernel
theorem dX10_wishesIn_26 : decode cX10_wishesIn 26 = .ok (.goto 4, 3) := by decide +kernel
theorem dX10_wishesIn_29 : decode cX10_wishesIn 29 = .ok (.iconst 0, 1) := by decide +kernel
theorem dX10_wishesIn_30 : decode cX10_wishesIn 30 = .ok (.invokestatic 346, 3) := by decide +kernel
theorem dX10_wishesIn_33 : decode cX10_wishesIn 33 = .ok (.iadd, 1) := by decide +kernel
theorem dX10_wishesIn_34 : decode cX10_wishesIn 34 = .ok (.istore_n 2, 1) := by decide +kernel
theorem dX10_wishesIn_35 : decode cX10_wishesIn 35 = .ok (.iinc 3 1, 3) := by decide +kernel
theorem dX10_wishesIn_38 : decode cX10_wishesIn 38 = .ok (.goto (-34), 3) := by decide +kernel
theorem dX10_wishesIn_41 : decode cX10_wishesIn 41 = .ok (.iload_n 2, 1) := by decide +kernel
theorem dX10_wishesIn_42 : decode cX10_wishesIn 42 = .ok (.ireturn, 1) := by decide +kernel
theorem dX10_grantedCount_0 : decode cX10_grantedCount 0 = .ok (.aload_n 0, 1) := by decide +kernel
theorem dX10_grantedCount_1 : decode cX10_grantedCount 1 = .ok (.invokevirtual 440, 3) := by decide +kernel
theorem dX10_grantedCount_4 : decode cX10_grantedCount 4 = .ok (.ifCond .eq 11, 3) := by decide +kernel
theorem dX10_grantedCount_7 : decode cX10_grantedCount 7 = .ok (.aload_n 0, 1) := by decide +kernel
theorem dX10_grantedCount_8 : decode cX10_grantedCount 8 = .ok (.iconst 2, 1) := by decide +kernel
theorem dX10_grantedCount_9 : decode cX10_grantedCount 9 = .ok (.invokevirtual 447, 3) := by decide +kernel
theorem dX10_grantedCount_12 : decode cX10_grantedCount 12 = .ok (.goto 4, 3) := by decide +kernel
theorem dX10_grantedCount_15 : decode cX10_grantedCount 15 = .ok (.iconst 0, 1) := by decide +kernel
theorem dX10_grantedCount_16 : decode cX10_grantedCount 16 = .ok (.ireturn, 1) := by decide +kernel
theorem dX10_fadedCount_0 : decode cX10_fadedCount 0 = .ok (.aload_n 0, 1) := by decide +kernel
theorem dX10_fadedCount_1 : decode cX10_fadedCount 1 = .ok (.invokevirtual 440, 3) := by decide +kernel
theorem dX10_fadedCount_4 : decode cX10_fadedCount 4 = .ok (.ifCond .eq 11, 3) := by decide +kernel
theorem dX10_fadedCount_7 : decode cX10_fadedCount 7 = .ok (.aload_n 0, 1) := by decide +kernel
theorem dX10_fadedCount_8 : decode cX10_fadedCount 8 = .ok (.iconst 3, 1) := by decide +kernel
theorem dX10_fadedCount_9 : decode cX10_fadedCount 9 = .ok (.invokevirtual 447, 3) := by decide +kernel
theorem dX10_fadedCount_12 : decode cX10_fadedCount 12 = .ok (.goto 4, 3) := by decide +kernel
theorem dX10_fadedCount_15 : decode cX10_fadedCount 15 = .ok (.iconst 0, 1) := by decide +kernel
theorem dX10_fadedCount_16 : decode cX10_fadedCount 16 = .ok (.ireturn, 1) := by decide +kernel
theorem dX10_imbalance_0 : decode cX10_imbalance 0 = .ok (.aload_n 0, 1) := by decide +kernel
theorem dX10_imbalance_1 : decode cX10_imbalance 1 = .ok (.invokevirtual 440, 3) := by decide +kernel
theorem dX10_imbalance_4 : decode cX10_imbalance 4 = .ok (.ifCond .ne 5, 3) := by decide +kernel
theorem dX10_imbalance_7 : decode cX10_imbalance 7 = .ok (.iconst 0, 1) := by decide +kernel
theorem dX10_imbalance_8 : decode cX10_imbalance 8 = .ok (.ireturn, 1) := by decide +kernel
theorem dX10_imbalance_9 : decode cX10_imbalance 9 = .ok (.iconst 0, 1) := by decide +kernel
theorem dX10_imbalance_10 : decode cX10_imbalance 10 = .ok (.istore_n 1, 1) := by decide +kernel
theorem dX10_imbalance_11 : decode cX10_imbalance 11 = .ok (.iconst 0, 1) := by decide +kernel
theorem dX10_imbalance_12 : decode cX10_imbalance 12 = .ok (.istore_n 2, 1) := by decide +kernel
theorem dX10_imbalance_13 : decode cX10_imbalance 13 = .ok (.iload_n 2, 1) := by decide +kernel
theorem dX10_imbalance_14 : decode cX10_imbalance 14 = .ok (.aload_n 0, 1) := by decide +kernel
theorem dX10_imbalance_15 : decode cX10_imbalance 15 = .ok (.getfield 9, 3) := by decide +kernel
theorem dX10_imbalance_18 : decode cX10_imbalance 18 = .ok (.iconst 2, 1) := by decide +kernel
theorem dX10_imbalance_19 : decode cX10_imbalance 19 = .ok (.iaload, 1) := by decide +kernel
theorem dX10_imbalance_20 : decode cX10_imbalance 20 = .ok (.if_icmp .ge 18, 3) := by decide +kernel
theorem dX10_imbalance_23 : decode cX10_imbalance 23 = .ok (.iload_n 1, 1) := by decide +kernel
theorem dX10_imbalance_24 : decode cX10_imbalance 24 = .ok (.aload_n 0, 1) := by decide +kernel
theorem dX10_imbalance_25 : decode cX10_imbalance 25 = .ok (.iload_n 2, 1) := by decide +kernel
theorem dX10_imbalance_26 : decode cX10_imbalance 26 = .ok (.iconst 0, 1) := by decide +kernel
theorem dX10_imbalance_27 : decode cX10_imbalance 27 = .ok (.invokevirtual 141, 3) := by decide +kernel
theorem dX10_imbalance_30 : decode cX10_imbalance 30 = .ok (.iadd, 1) := by decide +kernel
theorem dX10_imbalance_31 : decode cX10_imbalance 31 = .ok (.istore_n 1, 1) := by decide +kernel
theorem dX10_imbalance_32 : decode cX10_imbalance 32 = .ok (.iinc 2 1, 3) := by decide +kernel
theorem dX10_imbalance_35 : decode cX10_imbalance 35 = .ok (.goto (-22), 3) := by decide +kernel
theorem dX10_imbalance_38 : decode cX10_imbalance 38 = .ok (.iconst 0, 1) := by decide +kernel
theorem dX10_imbalance_39 : decode cX10_imbalance 39 = .ok (.istore_n 2, 1) := by decide +kernel
theorem dX10_imbalance_40 : decode cX10_imbalance 40 = .ok (.iload_n 2, 1) := by decide +kernel
theorem dX10_imbalance_41 : decode cX10_imbalance 41 = .ok (.aload_n 0, 1) := by decide +kernel
theorem dX10_imbalance_42 : decode cX10_imbalance 42 = .ok (.getfield 9, 3) := by decide +kernel
theorem dX10_imbalance_45 : decode cX10_imbalance 45 = .ok (.iconst 3, 1) := by decide +kernel
theorem dX10_imbalance_46 : decode cX10_imbalance 46 = .ok (.iaload, 1) := by decide +kernel
theorem dX10_imbalance_47 : decode cX10_imbalance 47 = .ok (.if_icmp .ge 18, 3) := by decide +kernel
theorem dX10_imbalance_50 : decode cX10_imbalance 50 = .ok (.iload_n 1, 1) := by decide +kernel
theorem dX10_imbalance_51 : decode cX10_imbalance 51 = .ok (.aload_n 0, 1) := by decide +kernel
theorem dX10_imbalance_52 : decode cX10_imbalance 52 = .ok (.iload_n 2, 1) := by decide +kernel
theorem dX10_imbalance_53 : decode cX10_imbalance 53 = .ok (.iconst 1, 1) := by decide +kernel
theorem dX10_imbalance_54 : decode cX10_imbalance 54 = .ok (.invokevirtual 356, 3) := by decide +kernel
theorem dX10_imbalance_57 : decode cX10_imbalance 57 = .ok (.iadd, 1) := by decide +kernel
theorem dX10_imbalance_58 : decode cX10_imbalance 58 = .ok (.istore_n 1, 1) := by decide +kernel
theorem dX10_imbalance_59 : decode cX10_imbalance 59 = .ok (.iinc 2 1, 3) := by decide +kernel
theorem dX10_imbalance_62 : decode cX10_imbalance 62 = .ok (.goto (-22), 3) := by decide +kernel
theorem dX10_imbalance_65 : decode cX10_imbalance 65 = .ok (.aload_n 0, 1) := by decide +kernel
theorem dX10_imbalance_66 : decode cX10_imbalance 66 = .ok (.iconst 0, 1) := by decide +kernel
theorem dX10_imbalance_67 : decode cX10_imbalance 67 = .ok (.invokevirtual 447, 3) := by decide +kernel
theorem dX10_imbalance_70 : decode cX10_imbalance 70 = .ok (.aload_n 0, 1) := by decide +kernel
theorem dX10_imbalance_71 : decode cX10_imbalance 71 = .ok (.iconst 1, 1) := by decide +kernel
theorem dX10_imbalance_72 : decode cX10_imbalance 72 = .ok (.invokevirtual 447, 3) := by decide +kernel
theorem dX10_imbalance_75 : decode cX10_imbalance 75 = .ok (.iadd, 1) := by decide +kernel
theorem dX10_imbalance_76 : decode cX10_imbalance 76 = .ok (.aload_n 0, 1) := by decide +kernel
theorem dX10_imbalance_77 : decode cX10_imbalance 77 = .ok (.iconst 2, 1) := by decide +kernel
theorem dX10_imbalance_78 : decode cX10_imbalance 78 = .ok (.invokevirtual 447, 3) := by decide +kernel
theorem dX10_imbalance_81 : decode cX10_imbalance 81 = .ok (.iadd, 1) := by decide +kernel
theorem dX10_imbalance_82 : decode cX10_imbalance 82 = .ok (.aload_n 0, 1) := by decide +kernel
theorem dX10_imbalance_83 : decode cX10_imbalance 83 = .ok (.iconst 3, 1) := by decide +kernel
theorem dX10_imbalance_84 : decode cX10_imbalance 84 = .ok (.invokevirtual 447, 3) := by decide +kernel
theorem dX10_imbalance_87 : decode cX10_imbalance 87 = .ok (.iadd, 1) := by decide +kernel
theorem dX10_imbalance_88 : decode cX10_imbalance 88 = .ok (.istore_n 2, 1) := by decide +kernel
theorem dX10_imbalance_89 : decode cX10_imbalance 89 = .ok (.iload_n 1, 1) := by decide +kernel
theorem dX10_imbalance_90 : decode cX10_imbalance 90 = .ok (.aload_n 0, 1) := by decide +kernel
theorem dX10_imbalance_91 : decode cX10_imbalance 91 = .ok (.getfield 9, 3) := by decide +kernel
theorem dX10_imbalance_94 : decode cX10_imbalance 94 = .ok (.bipush 7, 2) := by decide +kernel
theorem dX10_imbalance_96 : decode cX10_imbalance 96 = .ok (.iaload, 1) := by decide +kernel
theorem dX10_imbalance_97 : decode cX10_imbalance 97 = .ok (.isub, 1) := by decide +kernel
theorem dX10_imbalance_98 : decode cX10_imbalance 98 = .ok (.invokestatic 450, 3) := by decide +kernel
theorem dX10_imbalance_101 : decode cX10_imbalance 101 = .ok (.aload_n 0, 1) := by decide +kernel
theorem dX10_imbalance_102 : decode cX10_imbalance 102 = .ok (.getfield 9, 3) := by decide +kernel
theorem dX10_imbalance_105 : decode cX10_imbalance 105 = .ok (.iconst 4, 1) := by decide +kernel
theorem dX10_imbalance_106 : decode cX10_imbalance 106 = .ok (.iaload, 1) := by decide +kernel
theorem dX10_imbalance_107 : decode cX10_imbalance 107 = .ok (.iload_n 2, 1) := by decide +kernel
theorem dX10_imbalance_108 : decode cX10_imbalance 108 = .ok (.isub, 1) := by decide +kernel
theorem dX10_imbalance_109 : decode cX10_imbalance 109 = .ok (.invokestatic 450, 3) := by decide +kernel
theorem dX10_imbalance_112 : decode cX10_imbalance 112 = .ok (.iadd, 1) := by decide +kernel
theorem dX10_imbalance_113 : decode cX10_imbalance 113 = .ok (.ireturn, 1) := by decide +kernel
theorem dX10_averageWear_0 : decode cX10_averageWear 0 = .ok (.aload_n 0, 1) := by decide +kernel
theorem dX10_averageWear_1 : decode cX10_averageWear 1 = .ok (.invokevirtual 440, 3) := by decide +kernel
theorem dX10_averageWear_4 : decode cX10_averageWear 4 = .ok (.ifCond .ne 5, 3) := by decide +kernel
theorem dX10_averageWear_7 : decode cX10_averageWear 7 = .ok (.dconst 0, 1) := by decide +kernel
theorem dX10_averageWear_8 : decode cX10_averageWear 8 = .ok (.dreturn, 1) := by decide +kernel
theorem dX10_averageWear_9 : decode cX10_averageWear 9 = .ok (.aload_n 0, 1) := by decide +kernel
theorem dX10_averageWear_10 : decode cX10_averageWear 10 = .ok (.iconst 0, 1) := by decide +kernel
theorem dX10_averageWear_11 : decode cX10_averageWear 11 = .ok (.invokevirtual 447, 3) := by decide +kernel
theorem dX10_averageWear_14 : decode cX10_averageWear 14 = .ok (.aload_n 0, 1) := by decide +kernel
theorem dX10_averageWear_15 : decode cX10_averageWear 15 = .ok (.iconst 1, 1) := by decide +kernel
theorem dX10_averageWear_16 : decode cX10_averageWear 16 = .ok (.invokevirtual 447, 3) := by decide +kernel
theorem dX10_averageWear_19 : decode cX10_averageWear 19 = .ok (.iadd, 1) := by decide +kernel
theorem dX10_averageWear_20 : decode cX10_averageWear 20 = .ok (.istore_n 1, 1) := by decide +kernel
theorem dX10_averageWear_21 : decode cX10_averageWear 21 = .ok (.iconst 0, 1) := by decide +kernel
theorem dX10_averageWear_22 : decode cX10_averageWear 22 = .ok (.istore_n 2, 1) := by decide +kernel
theorem dX10_averageWear_23 : decode cX10_averageWear 23 = .ok (.iconst 0, 1) := by decide +kernel
theorem dX10_averageWear_24 : decode cX10_averageWear 24 = .ok (.istore_n 3, 1) := by decide +kernel
theorem dX10_averageWear_25 : decode cX10_averageWear 25 = .ok (.iload_n 3, 1) := by decide +kernel
theorem dX10_averageWear_26 : decode cX10_averageWear 26 = .ok (.aload_n 0, 1) := by decide +kernel
theorem dX10_averageWear_27 : decode cX10_averageWear 27 = .ok (.getfield 9, 3) := by decide +kernel
theorem dX10_averageWear_30 : decode cX10_averageWear 30 = .ok (.iconst 4, 1) := by decide +kernel
theorem dX10_averageWear_31 : decode cX10_averageWear 31 = .ok (.iaload, 1) := by decide +kernel
theorem dX10_averageWear_32 : decode cX10_averageWear 32 = .ok (.if_icmp .ge 38, 3) := by decide +kernel
theorem dX10_averageWear_35 : decode cX10_averageWear 35 = .ok (.iload_n 2, 1) := by decide +kernel
theorem dX10_averageWear_36 : decode cX10_averageWear 36 = .ok (.aload_n 0, 1) := by decide +kernel
theorem dX10_averageWear_37 : decode cX10_averageWear 37 = .ok (.iload_n 3, 1) := by decide +kernel
theorem dX10_averageWear_38 : decode cX10_averageWear 38 = .ok (.invokevirtual 221, 3) := by decide +kernel
theorem dX10_averageWear_41 : decode cX10_averageWear 41 = .ok (.ifCond .ne 11, 3) := by decide +kernel
theorem dX10_averageWear_44 : decode cX10_averageWear 44 = .ok (.aload_n 0, 1) := by decide +kernel
theorem dX10_averageWear_45 : decode cX10_averageWear 45 = .ok (.iload_n 3, 1) := by decide +kernel
theorem dX10_averageWear_46 : decode cX10_averageWear 46 = .ok (.invokevirtual 350, 3) := by decide +kernel
theorem dX10_averageWear_49 : decode cX10_averageWear 49 = .ok (.ifCond .eq 12, 3) := by decide +kernel
theorem dX10_averageWear_52 : decode cX10_averageWear 52 = .ok (.aload_n 0, 1) := by decide +kernel
theorem dX10_averageWear_53 : decode cX10_averageWear 53 = .ok (.iload_n 3, 1) := by decide +kernel
theorem dX10_averageWear_54 : decode cX10_averageWear 54 = .ok (.iconst 2, 1) := by decide +kernel
theorem dX10_averageWear_55 : decode cX10_averageWear 55 = .ok (.invokevirtual 224, 3) := by decide +kernel
theorem dX10_averageWear_58 : decode cX10_averageWear 58 = .ok (.goto 4, 3) := by decide +kernel
theorem dX10_averageWear_61 : decode cX10_averageWear 61 = .ok (.iconst 0, 1) := by decide +kernel
theorem dX10_averageWear_62 : decode cX10_averageWear 62 = .ok (.iadd, 1) := by decide +kernel
theorem dX10_averageWear_63 : decode cX10_averageWear 63 = .ok (.istore_n 2, 1) := by decide +kernel
theorem dX10_averageWear_64 : decode cX10_averageWear 64 = .ok (.iinc 3 1, 3) := by decide +kernel
theorem dX10_averageWear_67 : decode cX10_averageWear 67 = .ok (.goto (-42), 3) := by decide +kernel
theorem dX10_averageWear_70 : decode cX10_averageWear 70 = .ok (.iload_n 1, 1) := by decide +kernel
theorem dX10_averageWear_71 : decode cX10_averageWear 71 = .ok (.ifCond .ne 7, 3) := by decide +kernel
theorem dX10_averageWear_74 : decode cX10_averageWear 74 = .ok (.dconst 0, 1) := by decide +kernel
theorem dX10_averageWear_75 : decode cX10_averageWear 75 = .ok (.goto 8, 3) := by decide +kernel
theorem dX10_averageWear_78 : decode cX10_averageWear 78 = .ok (.iload_n 2, 1) := by decide +kernel
theorem dX10_averageWear_79 : decode cX10_averageWear 79 = .ok (.i2d, 1) := by decide +kernel
theorem dX10_averageWear_80 : decode cX10_averageWear 80 = .ok (.iload_n 1, 1) := by decide +kernel
theorem dX10_averageWear_81 : decode cX10_averageWear 81 = .ok (.i2d, 1) := by decide +kernel
theorem dX10_averageWear_82 : decode cX10_averageWear 82 = .ok (.ddiv, 1) := by decide +kernel
theorem dX10_averageWear_83 : decode cX10_averageWear 83 = .ok (.dreturn, 1) := by decide +kernel
theorem dX10_averageStars_0 : decode cX10_averageStars 0 = .ok (.aload_n 0, 1) := by decide +kernel
theorem dX10_averageStars_1 : decode cX10_averageStars 1 = .ok (.invokevirtual 440, 3) := by decide +kernel
theorem dX10_averageStars_4 : decode cX10_averageStars 4 = .ok (.ifCond .ne 5, 3) := by decide +kernel
theorem dX10_averageStars_7 : decode cX10_averageStars 7 = .ok (.fconst 0, 1) := by decide +kernel
theorem dX10_averageStars_8 : decode cX10_averageStars 8 = .ok (.freturn, 1) := by decide +kernel
theorem dX10_averageStars_9 : decode cX10_averageStars 9 = .ok (.iconst 0, 1) := by decide +kernel
theorem dX10_averageStars_10 : decode cX10_averageStars 10 = .ok (.istore_n 1, 1) := by decide +kernel
theorem dX10_averageStars_11 : decode cX10_averageStars 11 = .ok (.iconst 0, 1) := by decide +kernel
theorem dX10_averageStars_12 : decode cX10_averageStars 12 = .ok (.istore_n 2, 1) := by decide +kernel
theorem dX10_averageStars_13 : decode cX10_averageStars 13 = .ok (.iload_n 2, 1) := by decide +kernel
theorem dX10_averageStars_14 : decode cX10_averageStars 14 = .ok (.aload_n 0, 1) := by decide +kernel
theorem dX10_averageStars_15 : decode cX10_averageStars 15 = .ok (.getfield 9, 3) := by decide +kernel
theorem dX10_averageStars_18 : decode cX10_averageStars 18 = .ok (.iconst 3, 1) := by decide +kernel
theorem dX10_averageStars_19 : decode cX10_averageStars 19 = .ok (.iaload, 1) := by decide +kernel
theorem dX10_averageStars_20 : decode cX10_averageStars 20 = .ok (.if_icmp .ge 18, 3) := by decide +kernel
theorem dX10_averageStars_23 : decode cX10_averageStars 23 = .ok (.iload_n 1, 1) := by decide +kernel
theorem dX10_averageStars_24 : decode cX10_averageStars 24 = .ok (.aload_n 0, 1) := by decide +kernel
theorem dX10_averageStars_25 : decode cX10_averageStars 25 = .ok (.iload_n 2, 1) := by decide +kernel
theorem dX10_averageStars_26 : decode cX10_averageStars 26 = .ok (.iconst 2, 1) := by decide +kernel
theorem dX10_averageStars_27 : decode cX10_averageStars 27 = .ok (.invokevirtual 356, 3) := by decide +kernel
theorem dX10_averageStars_30 : decode cX10_averageStars 30 = .ok (.iadd, 1) := by decide +kernel
theorem dX10_averageStars_31 : decode cX10_averageStars 31 = .ok (.istore_n 1, 1) := by decide +kernel
theorem dX10_averageStars_32 : decode cX10_averageStars 32 = .ok (.iinc 2 1, 3) := by decide +kernel
theorem dX10_averageStars_35 : decode cX10_averageStars 35 = .ok (.goto (-22), 3) := by decide +kernel
theorem dX10_averageStars_38 : decode cX10_averageStars 38 = .ok (.iload_n 1, 1) := by decide +kernel
theorem dX10_averageStars_39 : decode cX10_averageStars 39 = .ok (.i2f, 1) := by decide +kernel
theorem dX10_averageStars_40 : decode cX10_averageStars 40 = .ok (.aload_n 0, 1) := by decide +kernel
theorem dX10_averageStars_41 : decode cX10_averageStars 41 = .ok (.getfield 9, 3) := by decide +kernel
theorem dX10_averageStars_44 : decode cX10_averageStars 44 = .ok (.iconst 3, 1) := by decide +kernel
theorem dX10_averageStars_45 : decode cX10_averageStars 45 = .ok (.iaload, 1) := by decide +kernel
theorem dX10_averageStars_46 : decode cX10_averageStars 46 = .ok (.i2f, 1) := by decide +kernel
theorem dX10_averageStars_47 : decode cX10_averageStars 47 = .ok (.fdiv, 1) := by decide +kernel
theorem dX10_averageStars_48 : decode cX10_averageStars 48 = .ok (.freturn, 1) := by decide +kernel
theorem dX10_isPerson_0 : decode cX10_isPerson 0 = .ok (.aload_n 0, 1) := by decide +kernel
theorem dX10_isPerson_1 : decode cX10_isPerson 1 = .ok (.getfield 44, 3) := by decide +kernel
theorem dX10_isPerson_4 : decode cX10_isPerson 4 = .ok (.ifCond .eq 23, 3) := by decide +kernel
theorem dX10_isPerson_7 : decode cX10_isPerson 7 = .ok (.iload_n 1, 1) := by decide +kernel
theorem dX10_isPerson_8 : decode cX10_isPerson 8 = .ok (.iconst 0, 1) := by decide +kernel
theorem dX10_isPerson_9 : decode cX10_isPerson 9 = .ok (.aload_n 0, 1) := by decide +kernel
theorem dX10_isPerson_10 : decode cX10_isPerson 10 = .ok (.getfield 9, 3) := by decide +kernel
theorem dX10_isPerson_13 : decode cX10_isPerson 13 = .ok (.iconst 2, 1) := by decide +kernel
theorem dX10_isPerson_14 : decode cX10_isPerson 14 = .ok (.iaload, 1) := by decide +kernel
theorem dX10_isPerson_15 : decode cX10_isPerson 15 = .ok (.iconst 1, 1) := by decide +kernel
theorem dX10_isPerson_16 : decode cX10_isPerson 16 = .ok (.isub, 1) := by decide +kernel
theorem dX10_isPerson_17 : decode cX10_isPerson 17 = .ok (.invokestatic 69, 3) := by decide +kernel
theorem dX10_isPerson_20 : decode cX10_isPerson 20 = .ok (.ifCond .eq 7, 3) := by decide +kernel
theorem dX10_isPerson_23 : decode cX10_isPerson 23 = .ok (.iconst 1, 1) := by decide +kernel
theorem dX10_isPerson_24 : decode cX10_isPerson 24 = .ok (.goto 4, 3) := by decide +kernel
theorem dX10_isPerson_27 : decode cX10_isPerson 27 = .ok (.iconst 0, 1) := by decide +kernel
theorem dX10_isPerson_28 : decode cX10_isPerson 28 = .ok (.ireturn, 1) := by decide +kernel
theorem dX10_isStall_0 : decode cX10_isStall 0 = .ok (.aload_n 0, 1) := by decide +kernel
theorem dX10_isStall_1 : decode cX10_isStall 1 = .ok (.getfield 44, 3) := by decide +kernel
theorem dX10_isStall_4 : decode cX10_isStall 4 = .ok (.ifCond .eq 23, 3) := by decide +kernel
theorem dX10_isStall_7 : decode cX10_isStall 7 = .ok (.iload_n 1, 1) := by decide +kernel
theorem dX10_isStall_8 : decode cX10_isStall 8 = .ok (.iconst 0, 1) := by decide +kernel
theorem dX10_isStall_9 : decode cX10_isStall 9 = .ok (.aload_n 0, 1) := by decide +kernel
theorem dX10_isStall_10 : decode cX10_isStall 10 = .ok (.getfield 9, 3) := by decide +kernel
theorem dX10_isStall_13 : decode cX10_isStall 13 = .ok (.iconst 3, 1) := by decide +kernel
theorem dX10_isStall_14 : decode cX10_isStall 14 = .ok (.iaload, 1) := by decide +kernel
theorem dX10_isStall_15 : decode cX10_isStall 15 = .ok (.iconst 1, 1) := by decide +kernel
theorem dX10_isStall_16 : decode cX10_isStall 16 = .ok (.isub, 1) := by decide +kernel
theorem dX10_isStall_17 : decode cX10_isStall 17 = .ok (.invokestatic 69, 3) := by decide +kernel
theorem dX10_isStall_20 : decode cX10_isStall 20 = .ok (.ifCond .eq 7, 3) := by decide +kernel
theorem dX10_isStall_23 : decode cX10_isStall 23 = .ok (.iconst 1, 1) := by decide +kernel
theorem dX10_isStall_24 : decode cX10_isStall 24 = .ok (.goto 4, 3) := by decide +kernel
theorem dX10_isStall_27 : decode cX10_isStall 27 = .ok (.iconst 0, 1) := by decide +kernel
theorem dX10_isStall_28 : decode cX10_isStall 28 = .ok (.ireturn, 1) := by decide +kernel
theorem dX10_isWish_0 : decode cX10_isWish 0 = .ok (.aload_n 0, 1) := by decide +kernel
theorem dX10_isWish_1 : decode cX10_isWish 1 = .ok (.getfield 44, 3) := by decide +kernel
theorem dX10_isWish_4 : decode cX10_isWish 4 = .ok (.ifCond .eq 23, 3) := by decide +kernel
theorem dX10_isWish_7 : decode cX10_isWish 7 = .ok (.iload_n 1, 1) := by decide +kernel
theorem dX10_isWish_8 : decode cX10_isWish 8 = .ok (.iconst 0, 1) := by decide +kernel
theorem dX10_isWish_9 : decode cX10_isWish 9 = .ok (.aload_n 0, 1) := by decide +kernel
theorem dX10_isWish_10 : decode cX10_isWish 10 = .ok (.getfield 9, 3) := by decide +kernel
theorem dX10_isWish_13 : decode cX10_isWish 13 = .ok (.iconst 4, 1) := by decide +kernel
theorem dX10_isWish_14 : decode cX10_isWish 14 = .ok (.iaload, 1) := by decide +kernel
theorem dX10_isWish_15 : decode cX10_isWish 15 = .ok (.iconst 1, 1) := by decide +kernel
theorem dX10_isWish_16 : decode cX10_isWish 16 = .ok (.isub, 1) := by decide +kernel
theorem dX10_isWish_17 : decode cX10_isWish 17 = .ok (.invokestatic 69, 3) := by decide +kernel
theorem dX10_isWish_20 : decode cX10_isWish 20 = .ok (.ifCond .eq 7, 3) := by decide +kernel
theorem dX10_isWish_23 : decode cX10_isWish 23 = .ok (.iconst 1, 1) := by decide +kernel
theorem dX10_isWish_24 : decode cX10_isWish 24 = .ok (.goto 4, 3) := by decide +kernel
theorem dX10_isWish_27 : decode cX10_isWish 27 = .ok (.iconst 0, 1) := by decide +kernel
theorem dX10_isWish_28 : decode cX10_isWish 28 = .ok (.ireturn, 1) := by decide +kernel
theorem dX10_mayPerson_0 : decode cX10_mayPerson 0 = .ok (.aload_n 0, 1) := by decide +kernel
theorem dX10_mayPerson_1 : decode cX10_mayPerson 1 = .ok (.aload_n 0, 1) := by decide +kernel
theorem dX10_mayPerson_2 : decode cX10_mayPerson 2 = .ok (.getfield 44, 3) := by decide +kernel
theorem dX10_mayPerson_5 : decode cX10_mayPerson 5 = .ok (.aload_n 0, 1) := by decide +kernel
theorem dX10_mayPerson_6 : decode cX10_mayPerson 6 = .ok (.iload_n 1, 1) := by decide +kernel
theorem dX10_mayPerson_7 : decode cX10_mayPerson 7 = .ok (.invokevirtual 453, 3) := by decide +kernel
theorem dX10_mayPerson_10 : decode cX10_mayPerson 10 = .ok (.invokevirtual 456, 3) := by decide +kernel
theorem dX10_mayPerson_13 : decode cX10_mayPerson 13 = .ok (.ireturn, 1) := by decide +kernel
theorem dX10_mayStall_0 : decode cX10_mayStall 0 = .ok (.aload_n 0, 1) := by decide +kernel
theorem dX10_mayStall_1 : decode cX10_mayStall 1 = .ok (.aload_n 0, 1) := by decide +kernel
theorem dX10_mayStall_2 : decode cX10_mayStall 2 = .ok (.getfield 44, 3) := by decide +kernel
theorem dX10_mayStall_5 : decode cX10_mayStall 5 = .ok (.aload_n 0, 1) := by decide +kernel
theorem dX10_mayStall_6 : decode cX10_mayStall 6 = .ok (.iload_n 1, 1) := by decide +kernel
theorem dX10_mayStall_7 : decode cX10_mayStall 7 = .ok (.invokevirtual 460, 3) := by decide +kernel
theorem dX10_mayStall_10 : decode cX10_mayStall 10 = .ok (.invokevirtual 456, 3) := by decide +kernel
theorem dX10_mayStall_13 : decode cX10_mayStall 13 = .ok (.ireturn, 1) := by decide +kernel
theorem dX10_mayWish_0 : decode cX10_mayWish 0 = .ok (.aload_n 0, 1) := by decide +kernel
theorem dX10_mayWish_1 : decode cX10_mayWish 1 = .ok (.aload_n 0, 1) := by decide +kernel
theorem dX10_mayWish_2 : decode cX10_mayWish 2 = .ok (.getfield 44, 3) := by decide +kernel
theorem dX10_mayWish_5 : decode cX10_mayWish 5 = .ok (.aload_n 0, 1) := by decide +kernel
theorem dX10_mayWish_6 : decode cX10_mayWish 6 = .ok (.iload_n 1, 1) := by decide +kernel
theorem dX10_mayWish_7 : decode cX10_mayWish 7 = .ok (.invokevirtual 463, 3) := by decide +kernel
theorem dX10_mayWish_10 : decode cX10_mayWish 10 = .ok (.invokevirtual 456, 3) := by decide +kernel
theorem dX10_mayWish_13 : decode cX10_mayWish 13 = .ok (.ireturn, 1) := by decide +kernel
theorem dX10_personCount_0 : decode cX10_personCount 0 = .ok (.aload_n 0, 1) := by decide +kernel
theorem dX10_personCount_1 : decode cX10_personCount 1 = .ok (.iconst 2, 1) := by decide +kernel
theorem dX10_personCount_2 : decode cX10_personCount 2 = .ok (.invokevirtual 444, 3) := by decide +kernel
theorem dX10_personCount_5 : decode cX10_personCount 5 = .ok (.ireturn, 1) := by decide +kernel
theorem dX10_letter_0 : decode cX10_letter 0 = .ok (.iload_n 2, 1) := by decide +kernel
theorem dX10_letter_1 : decode cX10_letter 1 = .ok (.iconst 0, 1) := by decide +kernel
theorem dX10_letter_2 : decode cX10_letter 2 = .ok (.aload_n 0, 1) := by decide +kernel
theorem dX10_letter_3 : decode cX10_letter 3 = .ok (.getfield 9, 3) := by decide +kernel
theorem dX10_letter_6 : decode cX10_letter 6 = .ok (.iload_n 1, 1) := by decide +kernel
theorem dX10_letter_7 : decode cX10_letter 7 = .ok (.iaload, 1) := by decide +kernel
theorem dX10_letter_8 : decode cX10_letter 8 = .ok (.iconst 1, 1) := by decide +kernel
theorem dX10_letter_9 : decode cX10_letter 9 = .ok (.isub, 1) := by decide +kernel
theorem dX10_letter_10 : decode cX10_letter 10 = .ok (.invokestatic 69, 3) := by decide +kernel
theorem dX10_letter_13 : decode cX10_letter 13 = .ok (.ifCond .eq 16, 3) := by decide +kernel
theorem dX10_letter_16 : decode cX10_letter 16 = .ok (.aload_n 0, 1) := by decide +kernel
theorem dX10_letter_17 : decode cX10_letter 17 = .ok (.getfield 9, 3) := by decide +kernel
theorem dX10_letter_20 : decode cX10_letter 20 = .ok (.iload_n 1, 1) := by decide +kernel
theorem dX10_letter_21 : decode cX10_letter 21 = .ok (.iconst 1, 1) := by decide +kernel
theorem dX10_letter_22 : decode cX10_letter 22 = .ok (.iadd, 1) := by decide +kernel
theorem dX10_letter_23 : decode cX10_letter 23 = .ok (.iload_n 2, 1) := by decide +kernel
theorem dX10_letter_24 : decode cX10_letter 24 = .ok (.iadd, 1) := by decide +kernel
theorem dX10_letter_25 : decode cX10_letter 25 = .ok (.iaload, 1) := by decide +kernel
theorem dX10_letter_26 : decode cX10_letter 26 = .ok (.goto 4, 3) := by decide +kernel
theorem dX10_letter_29 : decode cX10_letter 29 = .ok (.iconst (-1), 1) := by decide +kernel
theorem dX10_letter_30 : decode cX10_letter 30 = .ok (.ireturn, 1) := by decide +kernel
theorem dX10_personLetter_0 : decode cX10_personLetter 0 = .ok (.aload_n 0, 1) := by decide +kernel
theorem dX10_personLetter_1 : decode cX10_personLetter 1 = .ok (.iload_n 1, 1) := by decide +kernel
theorem dX10_personLetter_2 : decode cX10_personLetter 2 = .ok (.invokevirtual 466, 3) := by decide +kernel
theorem dX10_personLetter_5 : decode cX10_personLetter 5 = .ok (.ifCond .eq 21, 3) := by decide +kernel
theorem dX10_personLetter_8 : decode cX10_personLetter 8 = .ok (.aload_n 0, 1) := by decide +kernel
theorem dX10_personLetter_9 : decode cX10_personLetter 9 = .ok (.bipush 11, 2) := by decide +kernel
theorem dX10_personLetter_11 : decode cX10_personLetter 11 = .ok (.bipush 14, 2) := by decide +kernel
theorem dX10_personLetter_13 : decode cX10_personLetter 13 = .ok (.iload_n 1, 1) := by decide +kernel
theorem dX10_personLetter_14 : decode cX10_personLetter 14 = .ok (.imul, 1) := by decide +kernel
theorem dX10_personLetter_15 : decode cX10_personLetter 15 = .ok (.iadd, 1) := by decide +kernel
theorem dX10_personLetter_16 : decode cX10_personLetter 16 = .ok (.bipush 7, 2) := by decide +kernel
theorem dX10_personLetter_18 : decode cX10_personLetter 18 = .ok (.iadd, 1) := by decide +kernel
theorem dX10_personLetter_19 : decode cX10_personLetter 19 = .ok (.iload_n 2, 1) := by decide +kernel
theorem dX10_personLetter_20 : decode cX10_personLetter 20 = .ok (.invokevirtual 469, 3) := by decide +kernel
theorem dX10_personLetter_23 : decode cX10_personLetter 23 = .ok (.goto 4, 3) := by decide +kernel
theorem dX10_personLetter_26 : decode cX10_personLetter 26 = .ok (.iconst 0, 1) := by decide +kernel
theorem dX10_personLetter_27 : decode cX10_personLetter 27 = .ok (.ireturn, 1) := by decide +kernel
theorem dX10_coins_0 : decode cX10_coins 0 = .ok (.aload_n 0, 1) := by decide +kernel
theorem dX10_coins_1 : decode cX10_coins 1 = .ok (.iload_n 1, 1) := by decide +kernel
theorem dX10_coins_2 : decode cX10_coins 2 = .ok (.invokevirtual 466, 3) := by decide +kernel
theorem dX10_coins_5 : decode cX10_coins 5 = .ok (.ifCond .eq 12, 3) := by decide +kernel
theorem dX10_coins_8 : decode cX10_coins 8 = .ok (.aload_n 0, 1) := by decide +kernel
theorem dX10_coins_9 : decode cX10_coins 9 = .ok (.iload_n 1, 1) := by decide +kernel
theorem dX10_coins_10 : decode cX10_coins 10 = .ok (.iconst 0, 1) := by decide +kernel
theorem dX10_coins_11 : decode cX10_coins 11 = .ok (.invokevirtual 141, 3) := by decide +kernel
theorem dX10_coins_14 : decode cX10_coins 14 = .ok (.goto 4, 3) := by decide +kernel
theorem dX10_coins_17 : decode cX10_coins 17 = .ok (.iconst 0, 1) := by decide +kernel
theorem dX10_coins_18 : decode cX10_coins 18 = .ok (.ireturn, 1) := by decide +kernel
theorem dX10_birthday_0 : decode cX10_birthday 0 = .ok (.aload_n 0, 1) := by decide +kernel
theorem dX10_birthday_1 : decode cX10_birthday 1 = .ok (.iload_n 1, 1) := by decide +kernel
theorem dX10_birthday_2 : decode cX10_birthday 2 = .ok (.invokevirtual 466, 3) := by decide +kernel
theorem dX10_birthday_5 : decode cX10_birthday 5 = .ok (.ifCond .eq 12, 3) := by decide +kernel
theorem dX10_birthday_8 : decode cX10_birthday 8 = .ok (.aload_n 0, 1) := by decide +kernel
theorem dX10_birthday_9 : decode cX10_birthday 9 = .ok (.iload_n 1, 1) := by decide +kernel
theorem dX10_birthday_10 : decode cX10_birthday 10 = .ok (.iconst 1, 1) := by decide +kernel
theorem dX10_birthday_11 : decode cX10_birthday 11 = .ok (.invokevirtual 141, 3) := by decide +kernel
theorem dX10_birthday_14 : decode cX10_birthday 14 = .ok (.goto 4, 3) := by decide +kernel
theorem dX10_birthday_17 : decode cX10_birthday 17 = .ok (.iconst 0, 1) := by decide +kernel
theorem dX10_birthday_18 : decode cX10_birthday 18 = .ok (.ireturn, 1) := by decide +kernel
theorem dX10_candles_0 : decode cX10_candles 0 = .ok (.aload_n 0, 1) := by decide +kernel
theorem dX10_candles_1 : decode cX10_candles 1 = .ok (.iload_n 1, 1) := by decide +kernel
theorem dX10_candles_2 : decode cX10_candles 2 = .ok (.invokevirtual 466, 3) := by decide +kernel
theorem dX10_candles_5 : decode cX10_candles 5 = .ok (.ifCond .eq 12, 3) := by decide +kernel
theorem dX10_candles_8 : decode cX10_candles 8 = .ok (.aload_n 0, 1) := by decide +kernel
theorem dX10_candles_9 : decode cX10_candles 9 = .ok (.iload_n 1, 1) := by decide +kernel
theorem dX10_candles_10 : decode cX10_candles 10 = .ok (.iconst 2, 1) := by decide +kernel
theorem dX10_candles_11 : decode cX10_candles 11 = .ok (.invokevirtual 141, 3) := by decide +kernel
theorem dX10_candles_14 : decode cX10_candles 14 = .ok (.goto 4, 3) := by decide +kernel
theorem dX10_candles_17 : decode cX10_candles 17 = .ok (.iconst 0, 1) := by decide +kernel
theorem dX10_candles_18 : decode cX10_candles 18 = .ok (.ireturn, 1) := by decide +kernel
theorem dX10_happiness_0 : decode cX10_happiness 0 = .ok (.aload_n 0, 1) := by decide +kernel
theorem dX10_happiness_1 : decode cX10_happiness 1 = .ok (.iload_n 1, 1) := by decide +kernel
theorem dX10_happiness_2 : decode cX10_happiness 2 = .ok (.invokevirtual 466, 3) := by decide +kernel
theorem dX10_happiness_5 : decode cX10_happiness 5 = .ok (.ifCond .eq 12, 3) := by decide +kernel
theorem dX10_happiness_8 : decode cX10_happiness 8 = .ok (.aload_n 0, 1) := by decide +kernel
theorem dX10_happiness_9 : decode cX10_happiness 9 = .ok (.iload_n 1, 1) := by decide +kernel
theorem dX10_happiness_10 : decode cX10_happiness 10 = .ok (.iconst 3, 1) := by decide +kernel
theorem dX10_happiness_11 : decode cX10_happiness 11 = .ok (.invokevirtual 141, 3) := by decide +kernel
theorem dX10_happiness_14 : decode cX10_happiness 14 = .ok (.goto 4, 3) := by decide +kernel
theorem dX10_happiness_17 : decode cX10_happiness 17 = .ok (.iconst 0, 1) := by decide +kernel
theorem dX10_happiness_18 : decode cX10_happiness 18 = .ok (.ireturn, 1) := by decide +kernel
theorem dX10_ownedCount_0 : decode cX10_ownedCount 0 = .ok (.aload_n 0, 1) := by decide +kernel
theorem dX10_ownedCount_1 : decode cX10_ownedCount 1 = .ok (.iload_n 1, 1) := by decide +kernel
theorem dX10_ownedCount_2 : decode cX10_ownedCount 2 = .ok (.invokevirtual 466, 3) := by decide +kernel
theorem dX10_ownedCount_5 : decode cX10_ownedCount 5 = .ok (.ifCond .eq 11, 3) := by decide +kernel
theorem dX10_ownedCount_8 : decode cX10_ownedCount 8 = .ok (.aload_n 0, 1) := by decide +kernel
theorem dX10_ownedCount_9 : decode cX10_ownedCount 9 = .ok (.iload_n 1, 1) := by decide +kernel
theorem dX10_ownedCount_10 : decode cX10_ownedCount 10 = .ok (.invokevirtual 177, 3) := by decide +kernel
theorem dX10_ownedCount_13 : decode cX10_ownedCount 13 = .ok (.goto 4, 3) := by decide +kernel
theorem dX10_ownedCount_16 : decode cX10_ownedCount 16 = .ok (.iconst 0, 1) := by decide +kernel
theorem dX10_ownedCount_17 : decode cX10_ownedCount 17 = .ok (.ireturn, 1) := by decide +kernel
theorem dX10_shoppingLimit_0 : decode cX10_shoppingLimit 0 = .ok (.aload_n 0, 1) := by decide +kernel
theorem dX10_shoppingLimit_1 : decode cX10_shoppingLimit 1 = .ok (.iload_n 1, 1) := by decide +kernel
theorem dX10_shoppingLimit_2 : decode cX10_shoppingLimit 2 = .ok (.invokevirtual 466, 3) := by decide +kernel
theorem dX10_shoppingLimit_5 : decode cX10_shoppingLimit 5 = .ok (.ifCond .eq 12, 3) := by decide +kernel
theorem dX10_shoppingLimit_8 : decode cX10_shoppingLimit 8 = .ok (.aload_n 0, 1) := by decide +kernel
theorem dX10_shoppingLimit_9 : decode cX10_shoppingLimit 9 = .ok (.iload_n 1, 1) := by decide +kernel
theorem dX10_shoppingLimit_10 : decode cX10_shoppingLimit 10 = .ok (.iconst 4, 1) := by decide +kernel
theorem dX10_shoppingLimit_11 : decode cX10_shoppingLimit 11 = .ok (.invokevirtual 141, 3) := by decide +kernel
theorem dX10_shoppingLimit_14 : decode cX10_shoppingLimit 14 = .ok (.goto 4, 3) := by decide +kernel
theorem dX10_shoppingLimit_17 : decode cX10_shoppingLimit 17 = .ok (.iconst 0, 1) := by decide +kernel
theorem dX10_shoppingLimit_18 : decode cX10_shoppingLimit 18 = .ok (.ireturn, 1) := by decide +kernel
theorem dX10_daysUntilBirthday_0 : decode cX10_daysUntilBirthday 0 = .ok (.aload_n 0, 1) := by decide +kernel
theorem dX10_daysUntilBirthday_1 : decode cX10_daysUntilBirthday 1 = .ok (.iload_n 1, 1) := by decide +kernel
theorem dX10_daysUntilBirthday_2 : decode cX10_daysUntilBirthday 2 = .ok (.invokevirtual 466, 3) := by decide +kernel
theorem dX10_daysUntilBirthday_5 : decode cX10_daysUntilBirthday 5 = .ok (.ifCond .eq 31, 3) := by decide +kernel
theorem dX10_daysUntilBirthday_8 : decode cX10_daysUntilBirthday 8 = .ok (.aload_n 0, 1) := by decide +kernel
theorem dX10_daysUntilBirthday_9 : decode cX10_daysUntilBirthday 9 = .ok (.iload_n 1, 1) := by decide +kernel
theorem dX10_daysUntilBirthday_10 : decode cX10_daysUntilBirthday 10 = .ok (.iconst 1, 1) := by decide +kernel
theorem dX10_daysUntilBirthday_11 : decode cX10_daysUntilBirthday 11 = .ok (.invokevirtual 141, 3) := by decide +kernel
theorem dX10_daysUntilBirthday_14 : decode cX10_daysUntilBirthday 14 = .ok (.aload_n 0, 1) := by decide +kernel
theorem dX10_daysUntilBirthday_15 : decode cX10_daysUntilBirthday 15 = .ok (.getfield 9, 3) := by decide +kernel
theorem dX10_daysUntilBirthday_18 : decode cX10_daysUntilBirthday 18 = .ok (.iconst 0, 1) := by decide +kernel
theorem dX10_daysUntilBirthday_19 : decode cX10_daysUntilBirthday 19 = .ok (.iaload, 1) := by decide +kernel
theorem dX10_daysUntilBirthday_20 : decode cX10_daysUntilBirthday 20 = .ok (.iadd, 1) := by decide +kernel
theorem dX10_daysUntilBirthday_21 : decode cX10_daysUntilBirthday 21 = .ok (.aload_n 0, 1) := by decide +kernel
theorem dX10_daysUntilBirthday_22 : decode cX10_daysUntilBirthday 22 = .ok (.invokevirtual 377, 3) := by decide +kernel
theorem dX10_daysUntilBirthday_25 : decode cX10_daysUntilBirthday 25 = .ok (.isub, 1) := by decide +kernel
theorem dX10_daysUntilBirthday_26 : decode cX10_daysUntilBirthday 26 = .ok (.aload_n 0, 1) := by decide +kernel
theorem dX10_daysUntilBirthday_27 : decode cX10_daysUntilBirthday 27 = .ok (.getfield 9, 3) := by decide +kernel
theorem dX10_daysUntilBirthday_30 : decode cX10_daysUntilBirthday 30 = .ok (.iconst 0, 1) := by decide +kernel
theorem dX10_daysUntilBirthday_31 : decode cX10_daysUntilBirthday 31 = .ok (.iaload, 1) := by decide +kernel
theorem dX10_daysUntilBirthday_32 : decode cX10_daysUntilBirthday 32 = .ok (.irem, 1) := by decide +kernel
theorem dX10_daysUntilBirthday_33 : decode cX10_daysUntilBirthday 33 = .ok (.goto 4, 3) := by decide +kernel
theorem dX10_daysUntilBirthday_36 : decode cX10_daysUntilBirthday 36 = .ok (.iconst 0, 1) := by decide +kernel
theorem dX10_daysUntilBirthday_37 : decode cX10_daysUntilBirthday 37 = .ok (.ireturn, 1) := by decide +kernel
theorem dX10_stallCount_0 : decode cX10_stallCount 0 = .ok (.aload_n 0, 1) := by decide +kernel
theorem dX10_stallCount_1 : decode cX10_stallCount 1 = .ok (.iconst 3, 1) := by decide +kernel
theorem dX10_stallCount_2 : decode cX10_stallCount 2 = .ok (.invokevirtual 444, 3) := by decide +kernel
theorem dX10_stallCount_5 : decode cX10_stallCount 5 = .ok (.ireturn, 1) := by decide +kernel
theorem dX10_cash_0 : decode cX10_cash 0 = .ok (.aload_n 0, 1) := by decide +kernel
theorem dX10_cash_1 : decode cX10_cash 1 = .ok (.iload_n 1, 1) := by decide +kernel
theorem dX10_cash_2 : decode cX10_cash 2 = .ok (.invokevirtual 472, 3) := by decide +kernel
theorem dX10_cash_5 : decode cX10_cash 5 = .ok (.ifCond .eq 12, 3) := by decide +kernel
theorem dX10_cash_8 : decode cX10_cash 8 = .ok (.aload_n 0, 1) := by decide +kernel
theorem dX10_cash_9 : decode cX10_cash 9 = .ok (.iload_n 1, 1) := by decide +kernel
theorem dX10_cash_10 : decode cX10_cash 10 = .ok (.iconst 1, 1) := by decide +kernel
theorem dX10_cash_11 : decode cX10_cash 11 = .ok (.invokevirtual 356, 3) := by decide +kernel
theorem dX10_cash_14 : decode cX10_cash 14 = .ok (.goto 4, 3) := by decide +kernel
theorem dX10_cash_17 : decode cX10_cash 17 = .ok (.iconst 0, 1) := by decide +kernel
theorem dX10_cash_18 : decode cX10_cash 18 = .ok (.ireturn, 1) := by decide +kernel
theorem dX10_stars_0 : decode cX10_stars 0 = .ok (.aload_n 0, 1) := by decide +kernel
theorem dX10_stars_1 : decode cX10_stars 1 = .ok (.iload_n 1, 1) := by decide +kernel
theorem dX10_stars_2 : decode cX10_stars 2 = .ok (.invokevirtual 472, 3) := by decide +kernel
theorem dX10_stars_5 : decode cX10_stars 5 = .ok (.ifCond .eq 12, 3) := by decide +kernel
theorem dX10_stars_8 : decode cX10_stars 8 = .ok (.aload_n 0, 1) := by decide +kernel
theorem dX10_stars_9 : decode cX10_stars 9 = .ok (.iload_n 1, 1) := by decide +kernel
theorem dX10_stars_10 : decode cX10_stars 10 = .ok (.iconst 2, 1) := by decide +kernel
theorem dX10_stars_11 : decode cX10_stars 11 = .ok (.invokevirtual 356, 3) := by decide +kernel
theorem dX10_stars_14 : decode cX10_stars 14 = .ok (.goto 4, 3) := by decide +kernel
theorem dX10_stars_17 : decode cX10_stars 17 = .ok (.iconst 0, 1) := by decide +kernel
theorem dX10_stars_18 : decode cX10_stars 18 = .ok (.ireturn, 1) := by decide +kernel
theorem dX10_margin_0 : decode cX10_margin 0 = .ok (.aload_n 0, 1) := by decide +kernel
theorem dX10_margin_1 : decode cX10_margin 1 = .ok (.iload_n 1, 1) := by decide +kernel
theorem dX10_margin_2 : decode cX10_margin 2 = .ok (.invokevirtual 472, 3) := by decide +kernel
theorem dX10_margin_5 : decode cX10_margin 5 = .ok (.ifCond .eq 12, 3) := by decide +kernel
theorem dX10_margin_8 : decode cX10_margin 8 = .ok (.aload_n 0, 1) := by decide +kernel
theorem dX10_margin_9 : decode cX10_margin 9 = .ok (.iload_n 1, 1) := by decide +kernel
theorem dX10_margin_10 : decode cX10_margin 10 = .ok (.iconst 3, 1) := by decide +kernel
theorem dX10_margin_11 : decode cX10_margin 11 = .ok (.invokevirtual 356, 3) := by decide +kernel
theorem dX10_margin_14 : decode cX10_margin 14 = .ok (.goto 4, 3) := by decide +kernel
theorem dX10_margin_17 : decode cX10_margin 17 = .ok (.iconst 0, 1) := by decide +kernel
theorem dX10_margin_18 : decode cX10_margin 18 = .ok (.ireturn, 1) := by decide +kernel
theorem dX10_stockCount_0 : decode cX10_stockCount 0 = .ok (.aload_n 0, 1) := by decide +kernel
theorem dX10_stockCount_1 : decode cX10_stockCount 1 = .ok (.iload_n 1, 1) := by decide +kernel
theorem dX10_stockCount_2 : decode cX10_stockCount 2 = .ok (.invokevirtual 472, 3) := by decide +kernel
theorem dX10_stockCount_5 : decode cX10_stockCount 5 = .ok (.ifCond .eq 11, 3) := by decide +kernel
theorem dX10_stockCount_8 : decode cX10_stockCount 8 = .ok (.aload_n 0, 1) := by decide +kernel
theorem dX10_stockCount_9 : decode cX10_stockCount 9 = .ok (.iload_n 1, 1) := by decide +kernel
theorem dX10_stockCount_10 : decode cX10_stockCount 10 = .ok (.invokevirtual 353, 3) := by decide +kernel
theorem dX10_stockCount_13 : decode cX10_stockCount 13 = .ok (.goto 4, 3) := by decide +kernel
theorem dX10_stockCount_16 : decode cX10_stockCount 16 = .ok (.iconst 0, 1) := by decide +kernel
theorem dX10_stockCount_17 : decode cX10_stockCount 17 = .ok (.ireturn, 1) := by decide +kernel
theorem dX10_wishLetter_0 : decode cX10_wishLetter 0 = .ok (.aload_n 0, 1) := by decide +kernel
theorem dX10_wishLetter_1 : decode cX10_wishLetter 1 = .ok (.iload_n 1, 1) := by decide +kernel
theorem dX10_wishLetter_2 : decode cX10_wishLetter 2 = .ok (.invokevirtual 475, 3) := by decide +kernel
theorem dX10_wishLetter_5 : decode cX10_wishLetter 5 = .ok (.ifCond .eq 21, 3) := by decide +kernel
theorem dX10_wishLetter_8 : decode cX10_wishLetter 8 = .ok (.aload_n 0, 1) := by decide +kernel
theorem dX10_wishLetter_9 : decode cX10_wishLetter 9 = .ok (.bipush 115, 2) := by decide +kernel
theorem dX10_wishLetter_11 : decode cX10_wishLetter 11 = .ok (.bipush 15, 2) := by decide +kernel
theorem dX10_wishLetter_13 : decode cX10_wishLetter 13 = .ok (.iload_n 1, 1) := by decide +kernel
theorem dX10_wishLetter_14 : decode cX10_wishLetter 14 = .ok (.imul, 1) := by decide +kernel
theorem dX10_wishLetter_15 : decode cX10_wishLetter 15 = .ok (.iadd, 1) := by decide +kernel
theorem dX10_wishLetter_16 : decode cX10_wishLetter 16 = .ok (.bipush 8, 2) := by decide +kernel
theorem dX10_wishLetter_18 : decode cX10_wishLetter 18 = .ok (.iadd, 1) := by decide +kernel
theorem dX10_wishLetter_19 : decode cX10_wishLetter 19 = .ok (.iload_n 2, 1) := by decide +kernel
theorem dX10_wishLetter_20 : decode cX10_wishLetter 20 = .ok (.invokevirtual 469, 3) := by decide +kernel
theorem dX10_wishLetter_23 : decode cX10_wishLetter 23 = .ok (.goto 4, 3) := by decide +kernel
theorem dX10_wishLetter_26 : decode cX10_wishLetter 26 = .ok (.iconst 0, 1) := by decide +kernel
theorem dX10_wishLetter_27 : decode cX10_wishLetter 27 = .ok (.ireturn, 1) := by decide +kernel
theorem dX10_baseValue_0 : decode cX10_baseValue 0 = .ok (.aload_n 0, 1) := by decide +kernel
theorem dX10_baseValue_1 : decode cX10_baseValue 1 = .ok (.iload_n 1, 1) := by decide +kernel
theorem dX10_baseValue_2 : decode cX10_baseValue 2 = .ok (.invokevirtual 475, 3) := by decide +kernel
theorem dX10_baseValue_5 : decode cX10_baseValue 5 = .ok (.ifCond .eq 12, 3) := by decide +kernel
theorem dX10_baseValue_8 : decode cX10_baseValue 8 = .ok (.aload_n 0, 1) := by decide +kernel
theorem dX10_baseValue_9 : decode cX10_baseValue 9 = .ok (.iload_n 1, 1) := by decide +kernel
theorem dX10_baseValue_10 : decode cX10_baseValue 10 = .ok (.iconst 0, 1) := by decide +kernel
theorem dX10_baseValue_11 : decode cX10_baseValue 11 = .ok (.invokevirtual 224, 3) := by decide +kernel
theorem dX10_baseValue_14 : decode cX10_baseValue 14 = .ok (.goto 4, 3) := by decide +kernel
theorem dX10_baseValue_17 : decode cX10_baseValue 17 = .ok (.iconst 0, 1) := by decide +kernel
theorem dX10_baseValue_18 : decode cX10_baseValue 18 = .ok (.ireturn, 1) := by decide +kernel
theorem dX10_strength_0 : decode cX10_strength 0 = .ok (.aload_n 0, 1) := by decide +kernel
theorem dX10_strength_1 : decode cX10_strength 1 = .ok (.iload_n 1, 1) := by decide +kernel
theorem dX10_strength_2 : decode cX10_strength 2 = .ok (.invokevirtual 475, 3) := by decide +kernel
theorem dX10_strength_5 : decode cX10_strength 5 = .ok (.ifCond .eq 12, 3) := by decide +kernel
theorem dX10_strength_8 : decode cX10_strength 8 = .ok (.aload_n 0, 1) := by decide +kernel
theorem dX10_strength_9 : decode cX10_strength 9 = .ok (.iload_n 1, 1) := by decide +kernel
theorem dX10_strength_10 : decode cX10_strength 10 = .ok (.iconst 1, 1) := by decide +kernel
theorem dX10_strength_11 : decode cX10_strength 11 = .ok (.invokevirtual 224, 3) := by decide +kernel
theorem dX10_strength_14 : decode cX10_strength 14 = .ok (.goto 4, 3) := by decide +kernel
theorem dX10_strength_17 : decode cX10_strength 17 = .ok (.iconst 0, 1) := by decide +kernel
theorem dX10_strength_18 : decode cX10_strength 18 = .ok (.ireturn, 1) := by decide +kernel
theorem dX10_wear_0 : decode cX10_wear 0 = .ok (.aload_n 0, 1) := by decide +kernel
theorem dX10_wear_1 : decode cX10_wear 1 = .ok (.iload_n 1, 1) := by decide +kernel
theorem dX10_wear_2 : decode cX10_wear 2 = .ok (.invokevirtual 475, 3) := by decide +kernel
theorem dX10_wear_5 : decode cX10_wear 5 = .ok (.ifCond .eq 12, 3) := by decide +kernel
theorem dX10_wear_8 : decode cX10_wear 8 = .ok (.aload_n 0, 1) := by decide +kernel
theorem dX10_wear_9 : decode cX10_wear 9 = .ok (.iload_n 1, 1) := by decide +kernel
theorem dX10_wear_10 : decode cX10_wear 10 = .ok (.iconst 2, 1) := by decide +kernel
theorem dX10_wear_11 : decode cX10_wear 11 = .ok (.invokevirtual 224, 3) := by decide +kernel
theorem dX10_wear_14 : decode cX10_wear 14 = .ok (.goto 4, 3) := by decide +kernel
theorem dX10_wear_17 : decode cX10_wear 17 = .ok (.iconst 0, 1) := by decide +kernel
theorem dX10_wear_18 : decode cX10_wear 18 = .ok (.ireturn, 1) := by decide +kernel
theorem dX10_value_0 : decode cX10_value 0 = .ok (.aload_n 0, 1) := by decide +kernel
theorem dX10_value_1 : decode cX10_value 1 = .ok (.iload_n 1, 1) := by decide +kernel
theorem dX10_value_2 : decode cX10_value 2 = .ok (.invokevirtual 475, 3) := by decide +kernel
theorem dX10_value_5 : decode cX10_value 5 = .ok (.ifCond .eq 11, 3) := by decide +kernel
theorem dX10_value_8 : decode cX10_value 8 = .ok (.aload_n 0, 1) := by decide +kernel
theorem dX10_value_9 : decode cX10_value 9 = .ok (.iload_n 1, 1) := by decide +kernel
theorem dX10_value_10 : decode cX10_value 10 = .ok (.invokevirtual 392, 3) := by decide +kernel
theorem dX10_value_13 : decode cX10_value 13 = .ok (.goto 4, 3) := by decide +kernel
theorem dX10_value_16 : decode cX10_value 16 = .ok (.iconst 0, 1) := by decide +kernel
theorem dX10_value_17 : decode cX10_value 17 = .ok (.ireturn, 1) := by decide +kernel
theorem dX10_owner_0 : decode cX10_owner 0 = .ok (.aload_n 0, 1) := by decide +kernel
theorem dX10_owner_1 : decode cX10_owner 1 = .ok (.iload_n 1, 1) := by decide +kernel
theorem dX10_owner_2 : decode cX10_owner 2 = .ok (.invokevirtual 475, 3) := by decide +kernel
theorem dX10_owner_5 : decode cX10_owner 5 = .ok (.ifCond .ne 5, 3) := by decide +kernel
theorem dX10_owner_8 : decode cX10_owner 8 = .ok (.iconst 0, 1) := by decide +kernel
theorem dX10_owner_9 : decode cX10_owner 9 = .ok (.ireturn, 1) := by decide +kernel
theorem dX10_owner_10 : decode cX10_owner 10 = .ok (.aload_n 0, 1) := by decide +kernel
theorem dX10_owner_11 : decode cX10_owner 11 = .ok (.iload_n 1, 1) := by decide +kernel
theorem dX10_owner_12 : decode cX10_owner 12 = .ok (.invokevirtual 221, 3) := by decide +kernel
theorem dX10_owner_15 : decode cX10_owner 15 = .ok (.ifCond .eq 12, 3) := by decide +kernel
theorem dX10_owner_18 : decode cX10_owner 18 = .ok (.aload_n 0, 1) := by decide +kernel
theorem dX10_owner_19 : decode cX10_owner 19 = .ok (.iload_n 1, 1) := by decide +kernel
theorem dX10_owner_20 : decode cX10_owner 20 = .ok (.iconst 4, 1) := by decide +kernel
theorem dX10_owner_21 : decode cX10_owner 21 = .ok (.invokevirtual 224, 3) := by decide +kernel
theorem dX10_owner_24 : decode cX10_owner 24 = .ok (.goto 4, 3) := by decide +kernel
theorem dX10_owner_27 : decode cX10_owner 27 = .ok (.iconst (-1), 1) := by decide +kernel
theorem dX10_owner_28 : decode cX10_owner 28 = .ok (.ireturn, 1) := by decide +kernel
theorem dX10_stallOf_0 : decode cX10_stallOf 0 = .ok (.aload_n 0, 1) := by decide +kernel
theorem dX10_stallOf_1 : decode cX10_stallOf 1 = .ok (.iload_n 1, 1) := by decide +kernel
theorem dX10_stallOf_2 : decode cX10_stallOf 2 = .ok (.invokevirtual 475, 3) := by decide +kernel
theorem dX10_stallOf_5 : decode cX10_stallOf 5 = .ok (.ifCond .ne 5, 3) := by decide +kernel
theorem dX10_stallOf_8 : decode cX10_stallOf 8 = .ok (.iconst 0, 1) := by decide +kernel
theorem dX10_stallOf_9 : decode cX10_stallOf 9 = .ok (.ireturn, 1) := by decide +kernel
theorem dX10_stallOf_10 : decode cX10_stallOf 10 = .ok (.aload_n 0, 1) := by decide +kernel
theorem dX10_stallOf_11 : decode cX10_stallOf 11 = .ok (.iload_n 1, 1) := by decide +kernel
theorem dX10_stallOf_12 : decode cX10_stallOf 12 = .ok (.invokevirtual 350, 3) := by decide +kernel
theorem dX10_stallOf_15 : decode cX10_stallOf 15 = .ok (.ifCond .eq 12, 3) := by decide +kernel
theorem dX10_stallOf_18 : decode cX10_stallOf 18 = .ok (.aload_n 0, 1) := by decide +kernel
theorem dX10_stallOf_19 : decode cX10_stallOf 19 = .ok (.iload_n 1, 1) := by decide +kernel
theorem dX10_stallOf_20 : decode cX10_stallOf 20 = .ok (.iconst 4, 1) := by decide +kernel
theorem dX10_stallOf_21 : decode cX10_stallOf 21 = .ok (.invokevirtual 224, 3) := by decide +kernel
theorem dX10_stallOf_24 : decode cX10_stallOf 24 = .ok (.goto 4, 3) := by decide +kernel
theorem dX10_stallOf_27 : decode cX10_stallOf 27 = .ok (.iconst (-1), 1) := by decide +kernel
theorem dX10_stallOf_28 : decode cX10_stallOf 28 = .ok (.ireturn, 1) := by decide +kernel
theorem dX10_isGranted_0 : decode cX10_isGranted 0 = .ok (.aload_n 0, 1) := by decide +kernel
theorem dX10_isGranted_1 : decode cX10_isGranted 1 = .ok (.iload_n 1, 1) := by decide +kernel
theorem dX10_isGranted_2 : decode cX10_isGranted 2 = .ok (.invokevirtual 475, 3) := by decide +kernel
theorem dX10_isGranted_5 : decode cX10_isGranted 5 = .ok (.ifCond .eq 17, 3) := by decide +kernel
theorem dX10_isGranted_8 : decode cX10_isGranted 8 = .ok (.aload_n 0, 1) := by decide +kernel
theorem dX10_isGranted_9 : decode cX10_isGranted 9 = .ok (.iload_n 1, 1) := by decide +kernel
theorem dX10_isGranted_10 : decode cX10_isGranted 10 = .ok (.iconst 3, 1) := by decide +kernel
theorem dX10_isGranted_11 : decode cX10_isGranted 11 = .ok (.invokevirtual 224, 3) := by decide +kernel
theorem dX10_isGranted_14 : decode cX10_isGranted 14 = .ok (.iconst 2, 1) := by decide +kernel
theorem dX10_isGranted_15 : decode cX10_isGranted 15 = .ok (.if_icmp .ne 7, 3) := by decide +kernel
theorem dX10_isGranted_18 : decode cX10_isGranted 18 = .ok (.iconst 1, 1) := by decide +kernel
theorem dX10_isGranted_19 : decode cX10_isGranted 19 = .ok (.goto 4, 3) := by decide +kernel
theorem dX10_isGranted_22 : decode cX10_isGranted 22 = .ok (.iconst 0, 1) := by decide +kernel
theorem dX10_isGranted_23 : decode cX10_isGranted 23 = .ok (.ireturn, 1) := by decide +kernel
theorem dX10_purchaseDay_0 : decode cX10_purchaseDay 0 = .ok (.aload_n 0, 1) := by decide +kernel
theorem dX10_purchaseDay_1 : decode cX10_purchaseDay 1 = .ok (.iload_n 1, 1) := by decide +kernel
theorem dX10_purchaseDay_2 : decode cX10_purchaseDay 2 = .ok (.invokevirtual 475, 3) := by decide +kernel
theorem dX10_purchaseDay_5 : decode cX10_purchaseDay 5 = .ok (.ifCond .eq 12, 3) := by decide +kernel
theorem dX10_purchaseDay_8 : decode cX10_purchaseDay 8 = .ok (.aload_n 0, 1) := by decide +kernel
theorem dX10_purchaseDay_9 : decode cX10_purchaseDay 9 = .ok (.iload_n 1, 1) := by decide +kernel
theorem dX10_purchaseDay_10 : decode cX10_purchaseDay 10 = .ok (.iconst 5, 1) := by decide +kernel
theorem dX10_purchaseDay_11 : decode cX10_purchaseDay 11 = .ok (.invokevirtual 224, 3) := by decide +kernel
theorem dX10_purchaseDay_14 : decode cX10_purchaseDay 14 = .ok (.goto 4, 3) := by decide +kernel
theorem dX10_purchaseDay_17 : decode cX10_purchaseDay 17 = .ok (.iconst 0, 1) := by decide +kernel
theorem dX10_purchaseDay_18 : decode cX10_purchaseDay 18 = .ok (.ireturn, 1) := by decide +kernel
theorem dX10_purchasePrice_0 : decode cX10_purchasePrice 0 = .ok (.aload_n 0, 1) := by decide +kernel
theorem dX10_purchasePrice_1 : decode cX10_purchasePrice 1 = .ok (.iload_n 1, 1) := by decide +kernel
theorem dX10_purchasePrice_2 : decode cX10_purchasePrice 2 = .ok (.invokevirtual 475, 3) := by decide +kernel
theorem dX10_purchasePrice_5 : decode cX10_purchasePrice 5 = .ok (.ifCond .eq 13, 3) := by decide +kernel
theorem dX10_purchasePrice_8 : decode cX10_purchasePrice 8 = .ok (.aload_n 0, 1) := by decide +kernel
theorem dX10_purchasePrice_9 : decode cX10_purchasePrice 9 = .ok (.iload_n 1, 1) := by decide +kernel
theorem dX10_purchasePrice_10 : decode cX10_purchasePrice 10 = .ok (.bipush 6, 2) := by decide +kernel
theorem dX10_purchasePrice_12 : decode cX10_purchasePrice 12 = .ok (.invokevirtual 224, 3) := by decide +kernel
theorem dX10_purchasePrice_15 : decode cX10_purchasePrice 15 = .ok (.goto 4, 3) := by decide +kernel
theorem dX10_purchasePrice_18 : decode cX10_purchasePrice 18 = .ok (.iconst 0, 1) := by decide +kernel
theorem dX10_purchasePrice_19 : decode cX10_purchasePrice 19 = .ok (.ireturn, 1) := by decide +kernel
theorem dX10_price_0 : decode cX10_price 0 = .ok (.aload_n 0, 1) := by decide +kernel
theorem dX10_price_1 : decode cX10_price 1 = .ok (.iload_n 1, 1) := by decide +kernel
theorem dX10_price_2 : decode cX10_price 2 = .ok (.invokevirtual 475, 3) := by decide +kernel
theorem dX10_price_5 : decode cX10_price 5 = .ok (.ifCond .ne 5, 3) := by decide +kernel
theorem dX10_price_8 : decode cX10_price 8 = .ok (.iconst 0, 1) := by decide +kernel
theorem dX10_price_9 : decode cX10_price 9 = .ok (.ireturn, 1) := by decide +kernel
theorem dX10_price_10 : decode cX10_price 10 = .ok (.aload_n 0, 1) := by decide +kernel
theorem dX10_price_11 : decode cX10_price 11 = .ok (.iload_n 1, 1) := by decide +kernel
theorem dX10_price_12 : decode cX10_price 12 = .ok (.invokevirtual 350, 3) := by decide +kernel
theorem dX10_price_15 : decode cX10_price 15 = .ok (.ifCond .eq 11, 3) := by decide +kernel
theorem dX10_price_18 : decode cX10_price 18 = .ok (.aload_n 0, 1) := by decide +kernel
theorem dX10_price_19 : decode cX10_price 19 = .ok (.iload_n 1, 1) := by decide +kernel
theorem dX10_price_20 : decode cX10_price 20 = .ok (.invokevirtual 368, 3) := by decide +kernel
theorem dX10_price_23 : decode cX10_price 23 = .ok (.goto 4, 3) := by decide +kernel
theorem dX10_price_26 : decode cX10_price 26 = .ok (.iconst (-1), 1) := by decide +kernel
theorem dX10_price_27 : decode cX10_price 27 = .ok (.ireturn, 1) := by decide +kernel
theorem dX10_offer_0 : decode cX10_offer 0 = .ok (.aload_n 0, 1) := by decide +kernel
theorem dX10_offer_1 : decode cX10_offer 1 = .ok (.aload_n 0, 1) := by decide +kernel
theorem dX10_offer_2 : decode cX10_offer 2 = .ok (.getfield 44, 3) := by decide +kernel
theorem dX10_offer_5 : decode cX10_offer 5 = .ok (.aload_n 0, 1) := by decide +kernel
theorem dX10_offer_6 : decode cX10_offer 6 = .ok (.iload_n 1, 1) := by decide +kernel
theorem dX10_offer_7 : decode cX10_offer 7 = .ok (.invokevirtual 463, 3) := by decide +kernel
theorem dX10_offer_10 : decode cX10_offer 10 = .ok (.ifCond .eq 15, 3) := by decide +kernel
theorem dX10_offer_13 : decode cX10_offer 13 = .ok (.aload_n 0, 1) := by decide +kernel
theorem dX10_offer_14 : decode cX10_offer 14 = .ok (.iload_n 2, 1) := by decide +kernel
theorem dX10_offer_15 : decode cX10_offer 15 = .ok (.invokevirtual 460, 3) := by decide +kernel
theorem dX10_offer_18 : decode cX10_offer 18 = .ok (.ifCond .eq 7, 3) := by decide +kernel
theorem dX10_offer_21 : decode cX10_offer 21 = .ok (.iconst 1, 1) := by decide +kernel
theorem dX10_offer_22 : decode cX10_offer 22 = .ok (.goto 4, 3) := by decide +kernel
theorem dX10_offer_25 : decode cX10_offer 25 = .ok (.iconst 0, 1) := by decide +kernel
theorem dX10_offer_26 : decode cX10_offer 26 = .ok (.invokevirtual 456, 3) := by decide +kernel
theorem dX10_offer_29 : decode cX10_offer 29 = .ok (.ifCond .ne 5, 3) := by decide +kernel
theorem dX10_offer_32 : decode cX10_offer 32 = .ok (.iconst 0, 1) := by decide +kernel
theorem dX10_offer_33 : decode cX10_offer 33 = .ok (.ireturn, 1) := by decide +kernel
theorem dX10_offer_34 : decode cX10_offer 34 = .ok (.aload_n 0, 1) := by decide +kernel
theorem dX10_offer_35 : decode cX10_offer 35 = .ok (.iload_n 1, 1) := by decide +kernel
theorem dX10_offer_36 : decode cX10_offer 36 = .ok (.invokevirtual 221, 3) := by decide +kernel
theorem dX10_offer_39 : decode cX10_offer 39 = .ok (.ifCond .eq 12, 3) := by decide +kernel
theorem dX10_offer_42 : decode cX10_offer 42 = .ok (.aload_n 0, 1) := by decide +kernel
theorem dX10_offer_43 : decode cX10_offer 43 = .ok (.iload_n 1, 1) := by decide +kernel
theorem dX10_offer_44 : decode cX10_offer 44 = .ok (.iload_n 2, 1) := by decide +kernel
theorem dX10_offer_45 : decode cX10_offer 45 = .ok (.invokevirtual 371, 3) := by decide +kernel
theorem dX10_offer_48 : decode cX10_offer 48 = .ok (.goto 4, 3) := by decide +kernel
theorem dX10_offer_51 : decode cX10_offer 51 = .ok (.iconst (-1), 1) := by decide +kernel
theorem dX10_offer_52 : decode cX10_offer 52 = .ok (.ireturn, 1) := by decide +kernel
theorem dX10_refund_0 : decode cX10_refund 0 = .ok (.aload_n 0, 1) := by decide +kernel
theorem dX10_refund_1 : decode cX10_refund 1 = .ok (.iload_n 1, 1) := by decide +kernel
theorem dX10_refund_2 : decode cX10_refund 2 = .ok (.invokevirtual 475, 3) := by decide +kernel
theorem dX10_refund_5 : decode cX10_refund 5 = .ok (.ifCond .ne 5, 3) := by decide +kernel
theorem dX10_refund_8 : decode cX10_refund 8 = .ok (.iconst 0, 1) := by decide +kernel
theorem dX10_refund_9 : decode cX10_refund 9 = .ok (.ireturn, 1) := by decide +kernel
theorem dX10_refund_10 : decode cX10_refund 10 = .ok (.aload_n 0, 1) := by decide +kernel
theorem dX10_refund_11 : decode cX10_refund 11 = .ok (.iload_n 1, 1) := by decide +kernel
theorem dX10_refund_12 : decode cX10_refund 12 = .ok (.iconst 5, 1) := by decide +kernel
theorem dX10_refund_13 : decode cX10_refund 13 = .ok (.invokevirtual 224, 3) := by decide +kernel
theorem dX10_refund_16 : decode cX10_refund 16 = .ok (.iconst (-1), 1) := by decide +kernel
theorem dX10_refund_17 : decode cX10_refund 17 = .ok (.if_icmp .ne 7, 3) := by decide +kernel
theorem dX10_refund_20 : decode cX10_refund 20 = .ok (.iconst (-1), 1) := by decide +kernel
theorem dX10_refund_21 : decode cX10_refund 21 = .ok (.goto 8, 3) := by decide +kernel
theorem dX10_refund_24 : decode cX10_refund 24 = .ok (.aload_n 0, 1) := by decide +kernel
theorem dX10_refund_25 : decode cX10_refund 25 = .ok (.iload_n 1, 1) := by decide +kernel
theorem dX10_refund_26 : decode cX10_refund 26 = .ok (.invokevirtual 374, 3) := by decide +kernel
theorem dX10_refund_29 : decode cX10_refund 29 = .ok (.ireturn, 1) := by decide +kernel
theorem dX10_buyObstacle_0 : decode cX10_buyObstacle 0 = .ok (.aload_n 0, 1) := by decide +kernel
theorem dX10_buyObstacle_1 : decode cX10_buyObstacle 1 = .ok (.aload_n 0, 1) := by decide +kernel
theorem dX10_buyObstacle_2 : decode cX10_buyObstacle 2 = .ok (.getfield 44, 3) := by decide +kernel
theorem dX10_buyObstacle_5 : decode cX10_buyObstacle 5 = .ok (.aload_n 0, 1) := by decide +kernel
theorem dX10_buyObstacle_6 : decode cX10_buyObstacle 6 = .ok (.iload_n 1, 1) := by decide +kernel
theorem dX10_buyObstacle_7 : decode cX10_buyObstacle 7 = .ok (.invokevirtual 453, 3) := by decide +kernel
theorem dX10_buyObstacle_10 : decode cX10_buyObstacle 10 = .ok (.ifCond .eq 15, 3) := by decide +kernel
theorem dX10_buyObstacle_13 : decode cX10_buyObstacle 13 = .ok (.aload_n 0, 1) := by decide +kernel
theorem dX10_buyObstacle_14 : decode cX10_buyObstacle 14 = .ok (.iload_n 2, 1) := by decide +kernel
theorem dX10_buyObstacle_15 : decode cX10_buyObstacle 15 = .ok (.invokevirtual 463, 3) := by decide +kernel
theorem dX10_buyObstacle_18 : decode cX10_buyObstacle 18 = .ok (.ifCond .eq 7, 3) := by decide +kernel
theorem dX10_buyObstacle_21 : decode cX10_buyObstacle 21 = .ok (.iconst 1, 1) := by decide +kernel
theorem dX10_buyObstacle_22 : decode cX10_buyObstacle 22 = .ok (.goto 4, 3) := by decide +kernel
theorem dX10_buyObstacle_25 : decode cX10_buyObstacle 25 = .ok (.iconst 0, 1) := by decide +kernel
theorem dX10_buyObstacle_26 : decode cX10_buyObstacle 26 = .ok (.invokevirtual 456, 3) := by decide +kernel
theorem dX10_buyObstacle_29 : decode cX10_buyObstacle 29 = .ok (.ifCond .eq 12, 3) := by decide +kernel
theorem dX10_buyObstacle_32 : decode cX10_buyObstacle 32 = .ok (.aload_n 0, 1) := by decide +kernel
theorem dX10_buyObstacle_33 : decode cX10_buyObstacle 33 = .ok (.iload_n 1, 1) := by decide +kernel
theorem dX10_buyObstacle_34 : decode cX10_buyObstacle 34 = .ok (.iload_n 2, 1) := by decide +kernel
theorem dX10_buyObstacle_35 : decode cX10_buyObstacle 35 = .ok (.invokevirtual 197, 3) := by decide +kernel
theorem dX10_buyObstacle_38 : decode cX10_buyObstacle 38 = .ok (.goto 4, 3) := by decide +kernel
theorem dX10_buyObstacle_41 : decode cX10_buyObstacle 41 = .ok (.iconst 0, 1) := by decide +kernel
theorem dX10_buyObstacle_42 : decode cX10_buyObstacle 42 = .ok (.ireturn, 1) := by decide +kernel
theorem dX10_sellObstacle_0 : decode cX10_sellObstacle 0 = .ok (.aload_n 0, 1) := by decide +kernel
theorem dX10_sellObstacle_1 : decode cX10_sellObstacle 1 = .ok (.aload_n 0, 1) := by decide +kernel
theorem dX10_sellObstacle_2 : decode cX10_sellObstacle 2 = .ok (.getfield 44, 3) := by decide +kernel
theorem dX10_sellObstacle_5 : decode cX10_sellObstacle 5 = .ok (.aload_n 0, 1) := by decide +kernel
theorem dX10_sellObstacle_6 : decode cX10_sellObstacle 6 = .ok (.iload_n 1, 1) := by decide +kernel
theorem dX10_sellObstacle_7 : decode cX10_sellObstacle 7 = .ok (.invokevirtual 463, 3) := by decide +kernel
theorem dX10_sellObstacle_10 : decode cX10_sellObstacle 10 = .ok (.ifCond .eq 15, 3) := by decide +kernel
theorem dX10_sellObstacle_13 : decode cX10_sellObstacle 13 = .ok (.aload_n 0, 1) := by decide +kernel
theorem dX10_sellObstacle_14 : decode cX10_sellObstacle 14 = .ok (.iload_n 2, 1) := by decide +kernel
theorem dX10_sellObstacle_15 : decode cX10_sellObstacle 15 = .ok (.invokevirtual 460, 3) := by decide +kernel
theorem dX10_sellObstacle_18 : decode cX10_sellObstacle 18 = .ok (.ifCond .eq 7, 3) := by decide +kernel
theorem dX10_sellObstacle_21 : decode cX10_sellObstacle 21 = .ok (.iconst 1, 1) := by decide +kernel
theorem dX10_sellObstacle_22 : decode cX10_sellObstacle 22 = .ok (.goto 4, 3) := by decide +kernel
theorem dX10_sellObstacle_25 : decode cX10_sellObstacle 25 = .ok (.iconst 0, 1) := by decide +kernel
theorem dX10_sellObstacle_26 : decode cX10_sellObstacle 26 = .ok (.invokevirtual 456, 3) := by decide +kernel
theorem dX10_sellObstacle_29 : decode cX10_sellObstacle 29 = .ok (.ifCond .eq 12, 3) := by decide +kernel
theorem dX10_sellObstacle_32 : decode cX10_sellObstacle 32 = .ok (.aload_n 0, 1) := by decide +kernel
theorem dX10_sellObstacle_33 : decode cX10_sellObstacle 33 = .ok (.iload_n 1, 1) := by decide +kernel
theorem dX10_sellObstacle_34 : decode cX10_sellObstacle 34 = .ok (.iload_n 2, 1) := by decide +kernel
theorem dX10_sellObstacle_35 : decode cX10_sellObstacle 35 = .ok (.invokevirtual 203, 3) := by decide +kernel
theorem dX10_sellObstacle_38 : decode cX10_sellObstacle 38 = .ok (.goto 4, 3) := by decide +kernel
theorem dX10_sellObstacle_41 : decode cX10_sellObstacle 41 = .ok (.iconst 0, 1) := by decide +kernel
theorem dX10_sellObstacle_42 : decode cX10_sellObstacle 42 = .ok (.ireturn, 1) := by decide +kernel
theorem dX10_returnObstacle_0 : decode cX10_returnObstacle 0 = .ok (.aload_n 0, 1) := by decide +kernel
theorem dX10_returnObstacle_1 : decode cX10_returnObstacle 1 = .ok (.iload_n 1, 1) := by decide +kernel
theorem dX10_returnObstacle_2 : decode cX10_returnObstacle 2 = .ok (.invokevirtual 475, 3) := by decide +kernel
theorem dX10_returnObstacle_5 : decode cX10_returnObstacle 5 = .ok (.ifCond .eq 11, 3) := by decide +kernel
theorem dX10_returnObstacle_8 : decode cX10_returnObstacle 8 = .ok (.aload_n 0, 1) := by decide +kernel
theorem dX10_returnObstacle_9 : decode cX10_returnObstacle 9 = .ok (.iload_n 1, 1) := by decide +kernel
theorem dX10_returnObstacle_10 : decode cX10_returnObstacle 10 = .ok (.invokevirtual 209, 3) := by decide +kernel
theorem dX10_returnObstacle_13 : decode cX10_returnObstacle 13 = .ok (.goto 4, 3) := by decide +kernel
theorem dX10_returnObstacle_16 : decode cX10_returnObstacle 16 = .ok (.iconst 0, 1) := by decide +kernel
theorem dX10_returnObstacle_17 : decode cX10_returnObstacle 17 = .ok (.ireturn, 1) := by decide +kernel
theorem dX10_grantObstacle_0 : decode cX10_grantObstacle 0 = .ok (.aload_n 0, 1) := by decide +kernel
theorem dX10_grantObstacle_1 : decode cX10_grantObstacle 1 = .ok (.iload_n 1, 1) := by decide +kernel
theorem dX10_grantObstacle_2 : decode cX10_grantObstacle 2 = .ok (.invokevirtual 475, 3) := by decide +kernel
theorem dX10_grantObstacle_5 : decode cX10_grantObstacle 5 = .ok (.ifCond .eq 11, 3) := by decide +kernel
theorem dX10_grantObstacle_8 : decode cX10_grantObstacle 8 = .ok (.aload_n 0, 1) := by decide +kernel
theorem dX10_grantObstacle_9 : decode cX10_grantObstacle 9 = .ok (.iload_n 1, 1) := by decide +kernel
theorem dX10_grantObstacle_10 : decode cX10_grantObstacle 10 = .ok (.invokevirtual 215, 3) := by decide +kernel
theorem dX10_grantObstacle_13 : decode cX10_grantObstacle 13 = .ok (.goto 4, 3) := by decide +kernel
theorem dX10_grantObstacle_16 : decode cX10_grantObstacle 16 = .ok (.iconst 0, 1) := by decide +kernel
theorem dX10_grantObstacle_17 : decode cX10_grantObstacle 17 = .ok (.ireturn, 1) := by decide +kernel
theorem dX10_cheapestWish_0 : decode cX10_cheapestWish 0 = .ok (.aload_n 0, 1) := by decide +kernel
theorem dX10_cheapestWish_1 : decode cX10_cheapestWish 1 = .ok (.iload_n 1, 1) := by decide +kernel
theorem dX10_cheapestWish_2 : decode cX10_cheapestWish 2 = .ok (.invokevirtual 466, 3) := by decide +kernel
theorem dX10_cheapestWish_5 : decode cX10_cheapestWish 5 = .ok (.ifCond .eq 17, 3) := by decide +kernel
theorem dX10_cheapestWish_8 : decode cX10_cheapestWish 8 = .ok (.aload_n 0, 1) := by decide +kernel
theorem dX10_cheapestWish_9 : decode cX10_cheapestWish 9 = .ok (.iload_n 1, 1) := by decide +kernel
theorem dX10_cheapestWish_10 : decode cX10_cheapestWish 10 = .ok (.aload_n 0, 1) := by decide +kernel
theorem dX10_cheapestWish_11 : decode cX10_cheapestWish 11 = .ok (.iload_n 1, 1) := by decide +kernel
theorem dX10_cheapestWish_12 : decode cX10_cheapestWish 12 = .ok (.iconst 0, 1) := by decide +kernel
theorem dX10_cheapestWish_13 : decode cX10_cheapestWish 13 = .ok (.invokevirtual 141, 3) := by decide +kernel
theorem dX10_cheapestWish_16 : decode cX10_cheapestWish 16 = .ok (.invokevirtual 398, 3) := by decide +kernel
theorem dX10_cheapestWish_19 : decode cX10_cheapestWish 19 = .ok (.goto 4, 3) := by decide +kernel
theorem dX10_cheapestWish_22 : decode cX10_cheapestWish 22 = .ok (.iconst 0, 1) := by decide +kernel
theorem dX10_cheapestWish_23 : decode cX10_cheapestWish 23 = .ok (.ireturn, 1) := by decide +kernel
theorem dX10_bestGrant_0 : decode cX10_bestGrant 0 = .ok (.aload_n 0, 1) := by decide +kernel
theorem dX10_bestGrant_1 : decode cX10_bestGrant 1 = .ok (.iload_n 1, 1) := by decide +kernel
theorem dX10_bestGrant_2 : decode cX10_bestGrant 2 = .ok (.invokevirtual 466, 3) := by decide +kernel
theorem dX10_bestGrant_5 : decode cX10_bestGrant 5 = .ok (.ifCond .eq 11, 3) := by decide +kernel
theorem dX10_bestGrant_8 : decode cX10_bestGrant 8 = .ok (.aload_n 0, 1) := by decide +kernel
theorem dX10_bestGrant_9 : decode cX10_bestGrant 9 = .ok (.iload_n 1, 1) := by decide +kernel
theorem dX10_bestGrant_10 : decode cX10_bestGrant 10 = .ok (.invokevirtual 395, 3) := by decide +kernel
theorem dX10_bestGrant_13 : decode cX10_bestGrant 13 = .ok (.goto 4, 3) := by decide +kernel
theorem dX10_bestGrant_16 : decode cX10_bestGrant 16 = .ok (.iconst 0, 1) := by decide +kernel
theorem dX10_bestGrant_17 : decode cX10_bestGrant 17 = .ok (.ireturn, 1) := by decide +kernel
theorem dX10_bestOffer_0 : decode cX10_bestOffer 0 = .ok (.aload_n 0, 1) := by decide +kernel
theorem dX10_bestOffer_1 : decode cX10_bestOffer 1 = .ok (.iload_n 1, 1) := by decide +kernel
theorem dX10_bestOffer_2 : decode cX10_bestOffer 2 = .ok (.invokevirtual 475, 3) := by decide +kernel
theorem dX10_bestOffer_5 : decode cX10_bestOffer 5 = .ok (.ifCond .eq 11, 3) := by decide +kernel
theorem dX10_bestOffer_8 : decode cX10_bestOffer 8 = .ok (.aload_n 0, 1) := by decide +kernel
theorem dX10_bestOffer_9 : decode cX10_bestOffer 9 = .ok (.iload_n 1, 1) := by decide +kernel
theorem dX10_bestOffer_10 : decode cX10_bestOffer 10 = .ok (.invokevirtual 401, 3) := by decide +kernel
theorem dX10_bestOffer_13 : decode cX10_bestOffer 13 = .ok (.goto 4, 3) := by decide +kernel
theorem dX10_bestOffer_16 : decode cX10_bestOffer 16 = .ok (.iconst 0, 1) := by decide +kernel
theorem dX10_bestOffer_17 : decode cX10_bestOffer 17 = .ok (.ireturn, 1) := by decide +kernel
theorem dX10_areDays_0 : decode cX10_areDays 0 = .ok (.iload_n 0, 1) := by decide +kernel
theorem dX10_areDays_1 : decode cX10_areDays 1 = .ok (.iconst 0, 1) := by decide +kernel
theorem dX10_areDays_2 : decode cX10_areDays 2 = .ok (.sipush 300, 3) := by decide +kernel
theorem dX10_areDays_5 : decode cX10_areDays 5 = .ok (.invokestatic 69, 3) := by decide +kernel
theorem dX10_areDays_8 : decode cX10_areDays 8 = .ok (.ireturn, 1) := by decide +kernel
theorem dX10_coinsAfter_0 : decode cX10_coinsAfter 0 = .ok (.aload_n 0, 1) := by decide +kernel
theorem dX10_coinsAfter_1 : decode cX10_coinsAfter 1 = .ok (.aload_n 0, 1) := by decide +kernel
theorem dX10_coinsAfter_2 : decode cX10_coinsAfter 2 = .ok (.getfield 44, 3) := by decide +kernel
theorem dX10_coinsAfter_5 : decode cX10_coinsAfter 5 = .ok (.aload_n 0, 1) := by decide +kernel
theorem dX10_coinsAfter_6 : decode cX10_coinsAfter 6 = .ok (.iload_n 1, 1) := by decide +kernel
theorem dX10_coinsAfter_7 : decode cX10_coinsAfter 7 = .ok (.invokevirtual 453, 3) := by decide +kernel
theorem dX10_coinsAfter_10 : decode cX10_coinsAfter 10 = .ok (.iload_n 2, 1) := by decide +kernel
theorem dX10_coinsAfter_11 : decode cX10_coinsAfter 11 = .ok (.invokestatic 478, 3) := by decide +kernel
theorem dX10_coinsAfter_14 : decode cX10_coinsAfter 14 = .ok (.invokevirtual 40, 3) := by decide +kernel
theorem dX10_coinsAfter_17 : decode cX10_coinsAfter 17 = .ok (.ifCond .ne 5, 3) := by decide +kernel
theorem dX10_coinsAfter_20 : decode cX10_coinsAfter 20 = .ok (.iconst 0, 1) := by decide +kernel
theorem dX10_coinsAfter_21 : decode cX10_coinsAfter 21 = .ok (.ireturn, 1) := by decide +kernel
theorem dX10_coinsAfter_22 : decode cX10_coinsAfter 22 = .ok (.aload_n 0, 1) := by decide +kernel
theorem dX10_coinsAfter_23 : decode cX10_coinsAfter 23 = .ok (.invokevirtual 331, 3) := by decide +kernel
theorem dX10_coinsAfter_26 : decode cX10_coinsAfter 26 = .ok (.aload_n 0, 1) := by decide +kernel
theorem dX10_coinsAfter_27 : decode cX10_coinsAfter 27 = .ok (.iload_n 2, 1) := by decide +kernel
theorem dX10_coinsAfter_28 : decode cX10_coinsAfter 28 = .ok (.invokevirtual 230, 3) := by decide +kernel
theorem dX10_coinsAfter_31 : decode cX10_coinsAfter 31 = .ok (.aload_n 0, 1) := by decide +kernel
theorem dX10_coinsAfter_32 : decode cX10_coinsAfter 32 = .ok (.aload_n 0, 1) := by decide +kernel
theorem dX10_coinsAfter_33 : decode cX10_coinsAfter 33 = .ok (.iload_n 1, 1) := by decide +kernel
theorem dX10_coinsAfter_34 : decode cX10_coinsAfter 34 = .ok (.iconst 0, 1) := by decide +kernel
theorem dX10_coinsAfter_35 : decode cX10_coinsAfter 35 = .ok (.invokevirtual 141, 3) := by decide +kernel
theorem dX10_coinsAfter_38 : decode cX10_coinsAfter 38 = .ok (.invokevirtual 337, 3) := by decide +kernel
theorem dX10_coinsAfter_41 : decode cX10_coinsAfter 41 = .ok (.ireturn, 1) := by decide +kernel
theorem dX10_valueAfter_0 : decode cX10_valueAfter 0 = .ok (.aload_n 0, 1) := by decide +kernel
theorem dX10_valueAfter_1 : decode cX10_valueAfter 1 = .ok (.aload_n 0, 1) := by decide +kernel
theorem dX10_valueAfter_2 : decode cX10_valueAfter 2 = .ok (.getfield 44, 3) := by decide +kernel
theorem dX10_valueAfter_5 : decode cX10_valueAfter 5 = .ok (.aload_n 0, 1) := by decide +kernel
theorem dX10_valueAfter_6 : decode cX10_valueAfter 6 = .ok (.iload_n 1, 1) := by decide +kernel
theorem dX10_valueAfter_7 : decode cX10_valueAfter 7 = .ok (.invokevirtual 463, 3) := by decide +kernel
theorem dX10_valueAfter_10 : decode cX10_valueAfter 10 = .ok (.iload_n 2, 1) := by decide +kernel
theorem dX10_valueAfter_11 : decode cX10_valueAfter 11 = .ok (.invokestatic 478, 3) := by decide +kernel
theorem dX10_valueAfter_14 : decode cX10_valueAfter 14 = .ok (.invokevirtual 40, 3) := by decide +kernel
theorem dX10_valueAfter_17 : decode cX10_valueAfter 17 = .ok (.ifCond .ne 5, 3) := by decide +kernel
theorem dX10_valueAfter_20 : decode cX10_valueAfter 20 = .ok (.iconst 0, 1) := by decide +kernel
theorem dX10_valueAfter_21 : decode cX10_valueAfter 21 = .ok (.ireturn, 1) := by decide +kernel
theorem dX10_valueAfter_22 : decode cX10_valueAfter 22 = .ok (.aload_n 0, 1) := by decide +kernel
theorem dX10_valueAfter_23 : decode cX10_valueAfter 23 = .ok (.invokevirtual 331, 3) := by decide +kernel
theorem dX10_valueAfter_26 : decode cX10_valueAfter 26 = .ok (.aload_n 0, 1) := by decide +kernel
theorem dX10_valueAfter_27 : decode cX10_valueAfter 27 = .ok (.iload_n 2, 1) := by decide +kernel
theorem dX10_valueAfter_28 : decode cX10_valueAfter 28 = .ok (.invokevirtual 230, 3) := by decide +kernel
theorem dX10_valueAfter_31 : decode cX10_valueAfter 31 = .ok (.aload_n 0, 1) := by decide +kernel
theorem dX10_valueAfter_32 : decode cX10_valueAfter 32 = .ok (.aload_n 0, 1) := by decide +kernel
theorem dX10_valueAfter_33 : decode cX10_valueAfter 33 = .ok (.iload_n 1, 1) := by decide +kernel
theorem dX10_valueAfter_34 : decode cX10_valueAfter 34 = .ok (.invokevirtual 392, 3) := by decide +kernel
theorem dX10_valueAfter_37 : decode cX10_valueAfter 37 = .ok (.invokevirtual 337, 3) := by decide +kernel
theorem dX10_valueAfter_40 : decode cX10_valueAfter 40 = .ok (.ireturn, 1) := by decide +kernel
theorem dX10_daysUntilFaded_0 : decode cX10_daysUntilFaded 0 = .ok (.aload_n 0, 1) := by decide +kernel
theorem dX10_daysUntilFaded_1 : decode cX10_daysUntilFaded 1 = .ok (.iload_n 1, 1) := by decide +kernel
theorem dX10_daysUntilFaded_2 : decode cX10_daysUntilFaded 2 = .ok (.invokevirtual 475, 3) := by decide +kernel
theorem dX10_daysUntilFaded_5 : decode cX10_daysUntilFaded 5 = .ok (.ifCond .ne 5, 3) := by decide +kernel
theorem dX10_daysUntilFaded_8 : decode cX10_daysUntilFaded 8 = .ok (.iconst 0, 1) := by decide +kernel
theorem dX10_daysUntilFaded_9 : decode cX10_daysUntilFaded 9 = .ok (.ireturn, 1) := by decide +kernel
theorem dX10_daysUntilFaded_10 : decode cX10_daysUntilFaded 10 = .ok (.aload_n 0, 1) := by decide +kernel
theorem dX10_daysUntilFaded_11 : decode cX10_daysUntilFaded 11 = .ok (.iload_n 1, 1) := by decide +kernel
theorem dX10_daysUntilFaded_12 : decode cX10_daysUntilFaded 12 = .ok (.iconst 3, 1) := by decide +kernel
theorem dX10_daysUntilFaded_13 : decode cX10_daysUntilFaded 13 = .ok (.invokevirtual 224, 3) := by decide +kernel
theorem dX10_daysUntilFaded_16 : decode cX10_daysUntilFaded 16 = .ok (.iconst 3, 1) := by decide +kernel
theorem dX10_daysUntilFaded_17 : decode cX10_daysUntilFaded 17 = .ok (.if_icmp .ne 5, 3) := by decide +kernel
theorem dX10_daysUntilFaded_20 : decode cX10_daysUntilFaded 20 = .ok (.iconst 0, 1) := by decide +kernel
theorem dX10_daysUntilFaded_21 : decode cX10_daysUntilFaded 21 = .ok (.ireturn, 1) := by decide +kernel
theorem dX10_daysUntilFaded_22 : decode cX10_daysUntilFaded 22 = .ok (.aload_n 0, 1) := by decide +kernel
theorem dX10_daysUntilFaded_23 : decode cX10_daysUntilFaded 23 = .ok (.iload_n 1, 1) := by decide +kernel
theorem dX10_daysUntilFaded_24 : decode cX10_daysUntilFaded 24 = .ok (.iconst 3, 1) := by decide +kernel
theorem dX10_daysUntilFaded_25 : decode cX10_daysUntilFaded 25 = .ok (.invokevirtual 224, 3) := by decide +kernel
theorem dX10_daysUntilFaded_28 : decode cX10_daysUntilFaded 28 = .ok (.iconst 2, 1) := by decide +kernel
theorem dX10_daysUntilFaded_29 : decode cX10_daysUntilFaded 29 = .ok (.if_icmp .ne 5, 3) := by decide +kernel
theorem dX10_daysUntilFaded_32 : decode cX10_daysUntilFaded 32 = .ok (.iconst (-1), 1) := by decide +kernel
theorem dX10_daysUntilFaded_33 : decode cX10_daysUntilFaded 33 = .ok (.ireturn, 1) := by decide +kernel
theorem dX10_daysUntilFaded_34 : decode cX10_daysUntilFaded 34 = .ok (.aload_n 0, 1) := by decide +kernel
theorem dX10_daysUntilFaded_35 : decode cX10_daysUntilFaded 35 = .ok (.getfield 9, 3) := by decide +kernel
theorem dX10_daysUntilFaded_38 : decode cX10_daysUntilFaded 38 = .ok (.iconst 0, 1) := by decide +kernel
theorem dX10_daysUntilFaded_39 : decode cX10_daysUntilFaded 39 = .ok (.iaload, 1) := by decide +kernel
theorem dX10_daysUntilFaded_40 : decode cX10_daysUntilFaded 40 = .ok (.aload_n 0, 1) := by decide +kernel
theorem dX10_daysUntilFaded_41 : decode cX10_daysUntilFaded 41 = .ok (.invokevirtual 377, 3) := by decide +kernel
theorem dX10_daysUntilFaded_44 : decode cX10_daysUntilFaded 44 = .ok (.isub, 1) := by decide +kernel
theorem dX10_daysUntilFaded_45 : decode cX10_daysUntilFaded 45 = .ok (.bipush 9, 2) := by decide +kernel
theorem dX10_daysUntilFaded_47 : decode cX10_daysUntilFaded 47 = .ok (.aload_n 0, 1) := by decide +kernel
theorem dX10_daysUntilFaded_48 : decode cX10_daysUntilFaded 48 = .ok (.iload_n 1, 1) := by decide +kernel
theorem dX10_daysUntilFaded_49 : decode cX10_daysUntilFaded 49 = .ok (.iconst 2, 1) := by decide +kernel
theorem dX10_daysUntilFaded_50 : decode cX10_daysUntilFaded 50 = .ok (.invokevirtual 224, 3) := by decide +kernel
theorem dX10_daysUntilFaded_53 : decode cX10_daysUntilFaded 53 = .ok (.isub, 1) := by decide +kernel
theorem dX10_daysUntilFaded_54 : decode cX10_daysUntilFaded 54 = .ok (.aload_n 0, 1) := by decide +kernel
theorem dX10_daysUntilFaded_55 : decode cX10_daysUntilFaded 55 = .ok (.getfield 9, 3) := by decide +kernel
theorem dX10_daysUntilFaded_58 : decode cX10_daysUntilFaded 58 = .ok (.iconst 0, 1) := by decide +kernel
theorem dX10_daysUntilFaded_59 : decode cX10_daysUntilFaded 59 = .ok (.iaload, 1) := by decide +kernel
theorem dX10_daysUntilFaded_60 : decode cX10_daysUntilFaded 60 = .ok (.imul, 1) := by decide +kernel
theorem dX10_daysUntilFaded_61 : decode cX10_daysUntilFaded 61 = .ok (.iadd, 1) := by decide +kernel
theorem dX10_daysUntilFaded_62 : decode cX10_daysUntilFaded 62 = .ok (.ireturn, 1) := by decide +kernel
theorem dX10_writesByte_0 : decode cX10_writesByte 0 = .ok (.aload_n 0, 1) := by decide +kernel
theorem dX10_writesByte_1 : decode cX10_writesByte 1 = .ok (.getfield 34, 3) := by decide +kernel
theorem dX10_writesByte_4 : decode cX10_writesByte 4 = .ok (.aload_n 0, 1) := by decide +kernel
theorem dX10_writesByte_5 : decode cX10_writesByte 5 = .ok (.getfield 481, 3) := by decide +kernel
theorem dX10_writesByte_8 : decode cX10_writesByte 8 = .ok (.iload_n 1, 1) := by decide +kernel
theorem dX10_writesByte_9 : decode cX10_writesByte 9 = .ok (.i2b, 1) := by decide +kernel
theorem dX10_writesByte_10 : decode cX10_writesByte 10 = .ok (.bastore, 1) := by decide +kernel
theorem dX10_writesByte_11 : decode cX10_writesByte 11 = .ok (.aload_n 0, 1) := by decide +kernel
theorem dX10_writesByte_12 : decode cX10_writesByte 12 = .ok (.dup, 1) := by decide +kernel
theorem dX10_writesByte_13 : decode cX10_writesByte 13 = .ok (.getfield 481, 3) := by decide +kernel
theorem dX10_writesByte_16 : decode cX10_writesByte 16 = .ok (.iconst 1, 1) := by decide +kernel
theorem dX10_writesByte_17 : decode cX10_writesByte 17 = .ok (.iadd, 1) := by decide +kernel
theorem dX10_writesByte_18 : decode cX10_writesByte 18 = .ok (.putfield 481, 3) := by decide +kernel
theorem dX10_writesByte_21 : decode cX10_writesByte 21 = .ok (.return_, 1) := by decide +kernel
theorem dX10_writesNumber_0 : decode cX10_writesNumber 0 = .ok (.iconst 1, 1) := by decide +kernel
theorem dX10_writesNumber_1 : decode cX10_writesNumber 1 = .ok (.istore_n 2, 1) := by decide +kernel
theorem dX10_writesNumber_2 : decode cX10_writesNumber 2 = .ok (.iload_n 1, 1) := by decide +kernel
theorem dX10_writesNumber_3 : decode cX10_writesNumber 3 = .ok (.iload_n 2, 1) := by decide +kernel
theorem dX10_writesNumber_4 : decode cX10_writesNumber 4 = .ok (.idiv, 1) := by decide +kernel
theorem dX10_writesNumber_5 : decode cX10_writesNumber 5 = .ok (.bipush 9, 2) := by decide +kernel
theorem dX10_writesNumber_7 : decode cX10_writesNumber 7 = .ok (.if_icmp .le 11, 3) := by decide +kernel
theorem dX10_writesNumber_10 : decode cX10_writesNumber 10 = .ok (.iload_n 2, 1) := by decide +kernel
theorem dX10_writesNumber_11 : decode cX10_writesNumber 11 = .ok (.bipush 10, 2) := by decide +kernel
theorem dX10_writesNumber_13 : decode cX10_writesNumber 13 = .ok (.imul, 1) := by decide +kernel
theorem dX10_writesNumber_14 : decode cX10_writesNumber 14 = .ok (.istore_n 2, 1) := by decide +kernel
theorem dX10_writesNumber_15 : decode cX10_writesNumber 15 = .ok (.goto (-13), 3) := by decide +kernel
theorem dX10_writesNumber_18 : decode cX10_writesNumber 18 = .ok (.iload_n 2, 1) := by decide +kernel
theorem dX10_writesNumber_19 : decode cX10_writesNumber 19 = .ok (.ifCond .le 24, 3) := by decide +kernel
theorem dX10_writesNumber_22 : decode cX10_writesNumber 22 = .ok (.aload_n 0, 1) := by decide +kernel
theorem dX10_writesNumber_23 : decode cX10_writesNumber 23 = .ok (.bipush 48, 2) := by decide +kernel
theorem dX10_writesNumber_25 : decode cX10_writesNumber 25 = .ok (.iload_n 1, 1) := by decide +kernel
theorem dX10_writesNumber_26 : decode cX10_writesNumber 26 = .ok (.iload_n 2, 1) := by decide +kernel
theorem dX10_writesNumber_27 : decode cX10_writesNumber 27 = .ok (.idiv, 1) := by decide +kernel
theorem dX10_writesNumber_28 : decode cX10_writesNumber 28 = .ok (.bipush 10, 2) := by decide +kernel
theorem dX10_writesNumber_30 : decode cX10_writesNumber 30 = .ok (.irem, 1) := by decide +kernel
theorem dX10_writesNumber_31 : decode cX10_writesNumber 31 = .ok (.iadd, 1) := by decide +kernel
theorem dX10_writesNumber_32 : decode cX10_writesNumber 32 = .ok (.invokevirtual 484, 3) := by decide +kernel
theorem dX10_writesNumber_35 : decode cX10_writesNumber 35 = .ok (.iload_n 2, 1) := by decide +kernel
theorem dX10_writesNumber_36 : decode cX10_writesNumber 36 = .ok (.bipush 10, 2) := by decide +kernel
theorem dX10_writesNumber_38 : decode cX10_writesNumber 38 = .ok (.idiv, 1) := by decide +kernel
theorem dX10_writesNumber_39 : decode cX10_writesNumber 39 = .ok (.istore_n 2, 1) := by decide +kernel
theorem dX10_writesNumber_40 : decode cX10_writesNumber 40 = .ok (.goto (-22), 3) := by decide +kernel
theorem dX10_writesNumber_43 : decode cX10_writesNumber 43 = .ok (.return_, 1) := by decide +kernel
theorem dX10_writesName_0 : decode cX10_writesName 0 = .ok (.iconst 0, 1) := by decide +kernel
theorem dX10_writesName_1 : decode cX10_writesName 1 = .ok (.istore_n 2, 1) := by decide +kernel
theorem dX10_writesName_2 : decode cX10_writesName 2 = .ok (.iload_n 2, 1) := by decide +kernel
theorem dX10_writesName_3 : decode cX10_writesName 3 = .ok (.aload_n 0, 1) := by decide +kernel
theorem dX10_writesName_4 : decode cX10_writesName 4 = .ok (.getfield 9, 3) := by decide +kernel
theorem dX10_writesName_7 : decode cX10_writesName 7 = .ok (.iload_n 1, 1) := by decide +kernel
theorem dX10_writesName_8 : decode cX10_writesName 8 = .ok (.iaload, 1) := by decide +kernel
theorem dX10_writesName_9 : decode cX10_writesName 9 = .ok (.if_icmp .ge 23, 3) := by decide +kernel
theorem dX10_writesName_12 : decode cX10_writesName 12 = .ok (.aload_n 0, 1) := by decide +kernel
theorem dX10_writesName_13 : decode cX10_writesName 13 = .ok (.aload_n 0, 1) := by decide +kernel
theorem dX10_writesName_14 : decode cX10_writesName 14 = .ok (.getfield 9, 3) := by decide +kernel
theorem dX10_writesName_17 : decode cX10_writesName 17 = .ok (.iload_n 1, 1) := by decide +kernel
theorem dX10_writesName_18 : decode cX10_writesName 18 = .ok (.iconst 1, 1) := by decide +kernel
theorem dX10_writesName_19 : decode cX10_writesName 19 = .ok (.iadd, 1) := by decide +kernel
theorem dX10_writesName_20 : decode cX10_writesName 20 = .ok (.iload_n 2, 1) := by decide +kernel
theorem dX10_writesName_21 : decode cX10_writesName 21 = .ok (.iadd, 1) := by decide +kernel
theorem dX10_writesName_22 : decode cX10_writesName 22 = .ok (.iaload, 1) := by decide +kernel
theorem dX10_writesName_23 : decode cX10_writesName 23 = .ok (.invokevirtual 484, 3) := by decide +kernel
theorem dX10_writesName_26 : decode cX10_writesName 26 = .ok (.iinc 2 1, 3) := by decide +kernel
theorem dX10_writesName_29 : decode cX10_writesName 29 = .ok (.goto (-27), 3) := by decide +kernel
theorem dX10_writesName_32 : decode cX10_writesName 32 = .ok (.return_, 1) := by decide +kernel
theorem dX10_writesWish_0 : decode cX10_writesWish 0 = .ok (.aload_n 0, 1) := by decide +kernel
theorem dX10_writesWish_1 : decode cX10_writesWish 1 = .ok (.bipush 115, 2) := by decide +kernel
theorem dX10_writesWish_3 : decode cX10_writesWish 3 = .ok (.bipush 15, 2) := by decide +kernel
theorem dX10_writesWish_5 : decode cX10_writesWish 5 = .ok (.iload_n 1, 1) := by decide +kernel
theorem dX10_writesWish_6 : decode cX10_writesWish 6 = .ok (.imul, 1) := by decide +kernel
theorem dX10_writesWish_7 : decode cX10_writesWish 7 = .ok (.iadd, 1) := by decide +kernel
theorem dX10_writesWish_8 : decode cX10_writesWish 8 = .ok (.bipush 8, 2) := by decide +kernel
theorem dX10_writesWish_10 : decode cX10_writesWish 10 = .ok (.iadd, 1) := by decide +kernel
theorem dX10_writesWish_11 : decode cX10_writesWish 11 = .ok (.invokevirtual 487, 3) := by decide +kernel
theorem dX10_writesWish_14 : decode cX10_writesWish 14 = .ok (.return_, 1) := by decide +kernel
theorem dX10_writeStall_0 : decode cX10_writeStall 0 = .ok (.aload_n 0, 1) := by decide +kernel
theorem dX10_writeStall_1 : decode cX10_writeStall 1 = .ok (.iload_n 1, 1) := by decide +kernel
theorem dX10_writeStall_2 : decode cX10_writeStall 2 = .ok (.invokevirtual 472, 3) := by decide +kernel
theorem dX10_writeStall_5 : decode cX10_writeStall 5 = .ok (.ifCond .ne 5, 3) := by decide +kernel
theorem dX10_writeStall_8 : decode cX10_writeStall 8 = .ok (.iconst 0, 1) := by decide +kernel
theorem dX10_writeStall_9 : decode cX10_writeStall 9 = .ok (.ireturn, 1) := by decide +kernel
theorem dX10_writeStall_10 : decode cX10_writeStall 10 = .ok (.aload_n 0, 1) := by decide +kernel
theorem dX10_writeStall_11 : decode cX10_writeStall 11 = .ok (.iconst 0, 1) := by decide +kernel
theorem dX10_writeStall_12 : decode cX10_writeStall 12 = .ok (.putfield 481, 3) := by decide +kernel
theorem dX10_writeStall_15 : decode cX10_writeStall 15 = .ok (.iconst 0, 1) := by decide +kernel
theorem dX10_writeStall_16 : decode cX10_writeStall 16 = .ok (.istore_n 2, 1) := by decide +kernel
theorem dX10_writeStall_17 : decode cX10_writeStall 17 = .ok (.iload_n 2, 1) := by decide +kernel
theorem dX10_writeStall_18 : decode cX10_writeStall 18 = .ok (.aload_n 0, 1) := by decide +kernel
theorem dX10_writeStall_19 : decode cX10_writeStall 19 = .ok (.getfield 9, 3) := by decide +kernel
theorem dX10_writeStall_22 : decode cX10_writeStall 22 = .ok (.iconst 4, 1) := by decide +kernel
theorem dX10_writeStall_23 : decode cX10_writeStall 23 = .ok (.iaload, 1) := by decide +kernel
theorem dX10_writeStall_24 : decode cX10_writeStall 24 = .ok (.if_icmp .ge 63, 3) := by decide +kernel
theorem dX10_writeStall_27 : decode cX10_writeStall 27 = .ok (.aload_n 0, 1) := by decide +kernel
theorem dX10_writeStall_28 : decode cX10_writeStall 28 = .ok (.iload_n 2, 1) := by decide +kernel
theorem dX10_writeStall_29 : decode cX10_writeStall 29 = .ok (.invokevirtual 350, 3) := by decide +kernel
theorem dX10_writeStall_32 : decode cX10_writeStall 32 = .ok (.ifCond .eq 49, 3) := by decide +kernel
theorem dX10_writeStall_35 : decode cX10_writeStall 35 = .ok (.aload_n 0, 1) := by decide +kernel
theorem dX10_writeStall_36 : decode cX10_writeStall 36 = .ok (.iload_n 2, 1) := by decide +kernel
theorem dX10_writeStall_37 : decode cX10_writeStall 37 = .ok (.iconst 4, 1) := by decide +kernel
theorem dX10_writeStall_38 : decode cX10_writeStall 38 = .ok (.invokevirtual 224, 3) := by decide +kernel
theorem dX10_writeStall_41 : decode cX10_writeStall 41 = .ok (.iload_n 1, 1) := by decide +kernel
theorem dX10_writeStall_42 : decode cX10_writeStall 42 = .ok (.if_icmp .eq 6, 3) := by decide +kernel
theorem dX10_writeStall_45 : decode cX10_writeStall 45 = .ok (.goto 36, 3) := by decide +kernel
theorem dX10_writeStall_48 : decode cX10_writeStall 48 = .ok (.aload_n 0, 1) := by decide +kernel
theorem dX10_writeStall_49 : decode cX10_writeStall 49 = .ok (.getfield 481, 3) := by decide +kernel
theorem dX10_writeStall_52 : decode cX10_writeStall 52 = .ok (.ifCond .le 9, 3) := by decide +kernel
theorem dX10_writeStall_55 : decode cX10_writeStall 55 = .ok (.aload_n 0, 1) := by decide +kernel
theorem dX10_writeStall_56 : decode cX10_writeStall 56 = .ok (.bipush 32, 2) := by decide +kernel
theorem dX10_writeStall_58 : decode cX10_writeStall 58 = .ok (.invokevirtual 484, 3) := by decide +kernel
theorem dX10_writeStall_61 : decode cX10_writeStall 61 = .ok (.aload_n 0, 1) := by decide +kernel
theorem dX10_writeStall_62 : decode cX10_writeStall 62 = .ok (.iload_n 2, 1) := by decide +kernel
theorem dX10_writeStall_63 : decode cX10_writeStall 63 = .ok (.invokevirtual 490, 3) := by decide +kernel
theorem dX10_writeStall_66 : decode cX10_writeStall 66 = .ok (.aload_n 0, 1) := by decide +kernel
theorem dX10_writeStall_67 : decode cX10_writeStall 67 = .ok (.bipush 61, 2) := by decide +kernel
theorem dX10_writeStall_69 : decode cX10_writeStall 69 = .ok (.invokevirtual 484, 3) := by decide +kernel
theorem dX10_writeStall_72 : decode cX10_writeStall 72 = .ok (.aload_n 0, 1) := by decide +kernel
theorem dX10_writeStall_73 : decode cX10_writeStall 73 = .ok (.aload_n 0, 1) := by decide +kernel
theorem dX10_writeStall_74 : decode cX10_writeStall 74 = .ok (.iload_n 2, 1) := by decide +kernel
theorem dX10_writeStall_75 : decode cX10_writeStall 75 = .ok (.invokevirtual 368, 3) := by decide +kernel
theorem dX10_writeStall_78 : decode cX10_writeStall 78 = .ok (.invokevirtual 493, 3) := by decide +kernel
theorem dX10_writeStall_81 : decode cX10_writeStall 81 = .ok (.iinc 2 1, 3) := by decide +kernel
theorem dX10_writeStall_84 : decode cX10_writeStall 84 = .ok (.goto (-67), 3) := by decide +kernel
theorem dX10_writeStall_87 : decode cX10_writeStall 87 = .ok (.aload_n 0, 1) := by decide +kernel
theorem dX10_writeStall_88 : decode cX10_writeStall 88 = .ok (.getfield 481, 3) := by decide +kernel
theorem dX10_writeStall_91 : decode cX10_writeStall 91 = .ok (.ifCond .ne 9, 3) := by decide +kernel
theorem dX10_writeStall_94 : decode cX10_writeStall 94 = .ok (.aload_n 0, 1) := by decide +kernel
theorem dX10_writeStall_95 : decode cX10_writeStall 95 = .ok (.bipush 45, 2) := by decide +kernel
theorem dX10_writeStall_97 : decode cX10_writeStall 97 = .ok (.invokevirtual 484, 3) := by decide +kernel
theorem dX10_writeStall_100 : decode cX10_writeStall 100 = .ok (.aload_n 0, 1) := by decide +kernel
theorem dX10_writeStall_101 : decode cX10_writeStall 101 = .ok (.getfield 481, 3) := by decide +kernel
theorem dX10_writeStall_104 : decode cX10_writeStall 104 = .ok (.ireturn, 1) := by decide +kernel
theorem dX10_writePerson_0 : decode cX10_writePerson 0 = .ok (.aload_n 0, 1) := by decide +kernel
theorem dX10_writePerson_1 : decode cX10_writePerson 1 = .ok (.iload_n 1, 1) := by decide +kernel
theorem dX10_writePerson_2 : decode cX10_writePerson 2 = .ok (.invokevirtual 466, 3) := by decide +kernel
theorem dX10_writePerson_5 : decode cX10_writePerson 5 = .ok (.ifCond .ne 5, 3) := by decide +kernel
theorem dX10_writePerson_8 : decode cX10_writePerson 8 = .ok (.iconst 0, 1) := by decide +kernel
theorem dX10_writePerson_9 : decode cX10_writePerson 9 = .ok (.ireturn, 1) := by decide +kernel
theorem dX10_writePerson_10 : decode cX10_writePerson 10 = .ok (.aload_n 0, 1) := by decide +kernel
theorem dX10_writePerson_11 : decode cX10_writePerson 11 = .ok (.iconst 0, 1) := by decide +kernel
theorem dX10_writePerson_12 : decode cX10_writePerson 12 = .ok (.putfield 481, 3) := by decide +kernel
theorem dX10_writePerson_15 : decode cX10_writePerson 15 = .ok (.aload_n 0, 1) := by decide +kernel
theorem dX10_writePerson_16 : decode cX10_writePerson 16 = .ok (.bipush 11, 2) := by decide +kernel
theorem dX10_writePerson_18 : decode cX10_writePerson 18 = .ok (.bipush 14, 2) := by decide +kernel
theorem dX10_writePerson_20 : decode cX10_writePerson 20 = .ok (.iload_n 1, 1) := by decide +kernel
theorem dX10_writePerson_21 : decode cX10_writePerson 21 = .ok (.imul, 1) := by decide +kernel
theorem dX10_writePerson_22 : decode cX10_writePerson 22 = .ok (.iadd, 1) := by decide +kernel
theorem dX10_writePerson_23 : decode cX10_writePerson 23 = .ok (.bipush 7, 2) := by decide +kernel
theorem dX10_writePerson_25 : decode cX10_writePerson 25 = .ok (.iadd, 1) := by decide +kernel
theorem dX10_writePerson_26 : decode cX10_writePerson 26 = .ok (.invokevirtual 487, 3) := by decide +kernel
theorem dX10_writePerson_29 : decode cX10_writePerson 29 = .ok (.aload_n 0, 1) := by decide +kernel
theorem dX10_writePerson_30 : decode cX10_writePerson 30 = .ok (.bipush 58, 2) := by decide +kernel
theorem dX10_writePerson_32 : decode cX10_writePerson 32 = .ok (.invokevirtual 484, 3) := by decide +kernel
theorem dX10_writePerson_35 : decode cX10_writePerson 35 = .ok (.aload_n 0, 1) := by decide +kernel
theorem dX10_writePerson_36 : decode cX10_writePerson 36 = .ok (.aload_n 0, 1) := by decide +kernel
theorem dX10_writePerson_37 : decode cX10_writePerson 37 = .ok (.iload_n 1, 1) := by decide +kernel
theorem dX10_writePerson_38 : decode cX10_writePerson 38 = .ok (.iconst 0, 1) := by decide +kernel
theorem dX10_writePerson_39 : decode cX10_writePerson 39 = .ok (.invokevirtual 141, 3) := by decide +kernel
theorem dX10_writePerson_42 : decode cX10_writePerson 42 = .ok (.invokevirtual 493, 3) := by decide +kernel
theorem dX10_writePerson_45 : decode cX10_writePerson 45 = .ok (.iconst 0, 1) := by decide +kernel
theorem dX10_writePerson_46 : decode cX10_writePerson 46 = .ok (.istore_n 2, 1) := by decide +kernel
theorem dX10_writePerson_47 : decode cX10_writePerson 47 = .ok (.iload_n 2, 1) := by decide +kernel
theorem dX10_writePerson_48 : decode cX10_writePerson 48 = .ok (.aload_n 0, 1) := by decide +kernel
theorem dX10_writePerson_49 : decode cX10_writePerson 49 = .ok (.getfield 9, 3) := by decide +kernel
theorem dX10_writePerson_52 : decode cX10_writePerson 52 = .ok (.iconst 4, 1) := by decide +kernel
theorem dX10_writePerson_53 : decode cX10_writePerson 53 = .ok (.iaload, 1) := by decide +kernel
theorem dX10_writePerson_54 : decode cX10_writePerson 54 = .ok (.if_icmp .ge 32, 3) := by decide +kernel
theorem dX10_writePerson_57 : decode cX10_writePerson 57 = .ok (.aload_n 0, 1) := by decide +kernel
theorem dX10_writePerson_58 : decode cX10_writePerson 58 = .ok (.iload_n 2, 1) := by decide +kernel
theorem dX10_writePerson_59 : decode cX10_writePerson 59 = .ok (.iload_n 1, 1) := by decide +kernel
theorem dX10_writePerson_60 : decode cX10_writePerson 60 = .ok (.invokevirtual 343, 3) := by decide +kernel
theorem dX10_writePerson_63 : decode cX10_writePerson 63 = .ok (.ifCond .ne 6, 3) := by decide +kernel
theorem dX10_writePerson_66 : decode cX10_writePerson 66 = .ok (.goto 14, 3) := by decide +kernel
theorem dX10_writePerson_69 : decode cX10_writePerson 69 = .ok (.aload_n 0, 1) := by decide +kernel
theorem dX10_writePerson_70 : decode cX10_writePerson 70 = .ok (.bipush 32, 2) := by decide +kernel
theorem dX10_writePerson_72 : decode cX10_writePerson 72 = .ok (.invokevirtual 484, 3) := by decide +kernel
theorem dX10_writePerson_75 : decode cX10_writePerson 75 = .ok (.aload_n 0, 1) := by decide +kernel
theorem dX10_writePerson_76 : decode cX10_writePerson 76 = .ok (.iload_n 2, 1) := by decide +kernel
theorem dX10_writePerson_77 : decode cX10_writePerson 77 = .ok (.invokevirtual 490, 3) := by decide +kernel
theorem dX10_writePerson_80 : decode cX10_writePerson 80 = .ok (.iinc 2 1, 3) := by decide +kernel
theorem dX10_writePerson_83 : decode cX10_writePerson 83 = .ok (.goto (-36), 3) := by decide +kernel
theorem dX10_writePerson_86 : decode cX10_writePerson 86 = .ok (.aload_n 0, 1) := by decide +kernel
theorem dX10_writePerson_87 : decode cX10_writePerson 87 = .ok (.getfield 481, 3) := by decide +kernel
theorem dX10_writePerson_90 : decode cX10_writePerson 90 = .ok (.ireturn, 1) := by decide +kernel
theorem dX10_outputByte_0 : decode cX10_outputByte 0 = .ok (.aload_n 0, 1) := by decide +kernel
theorem dX10_outputByte_1 : decode cX10_outputByte 1 = .ok (.iload_n 1, 1) := by decide +kernel
theorem dX10_outputByte_2 : decode cX10_outputByte 2 = .ok (.iconst 0, 1) := by decide +kernel
theorem dX10_outputByte_3 : decode cX10_outputByte 3 = .ok (.aload_n 0, 1) := by decide +kernel
theorem dX10_outputByte_4 : decode cX10_outputByte 4 = .ok (.getfield 481, 3) := by decide +kernel
theorem dX10_outputByte_7 : decode cX10_outputByte 7 = .ok (.iconst 1, 1) := by decide +kernel
theorem dX10_outputByte_8 : decode cX10_outputByte 8 = .ok (.isub, 1) := by decide +kernel
theorem dX10_outputByte_9 : decode cX10_outputByte 9 = .ok (.invokestatic 69, 3) := by decide +kernel
theorem dX10_outputByte_12 : decode cX10_outputByte 12 = .ok (.iconst 1, 1) := by decide +kernel
theorem dX10_outputByte_13 : decode cX10_outputByte 13 = .ok (.iconst 1, 1) := by decide +kernel
theorem dX10_outputByte_14 : decode cX10_outputByte 14 = .ok (.invokevirtual 40, 3) := by decide +kernel
theorem dX10_outputByte_17 : decode cX10_outputByte 17 = .ok (.ifCond .eq 12, 3) := by decide +kernel
theorem dX10_outputByte_20 : decode cX10_outputByte 20 = .ok (.aload_n 0, 1) := by decide +kernel
theorem dX10_outputByte_21 : decode cX10_outputByte 21 = .ok (.getfield 34, 3) := by decide +kernel
theorem dX10_outputByte_24 : decode cX10_outputByte 24 = .ok (.iload_n 1, 1) := by decide +kernel
theorem dX10_outputByte_25 : decode cX10_outputByte 25 = .ok (.baload, 1) := by decide +kernel
theorem dX10_outputByte_26 : decode cX10_outputByte 26 = .ok (.goto 4, 3) := by decide +kernel
theorem dX10_outputByte_29 : decode cX10_outputByte 29 = .ok (.iconst 0, 1) := by decide +kernel
theorem dX10_outputByte_30 : decode cX10_outputByte 30 = .ok (.ireturn, 1) := by decide +kernel
theorem dX10_remembers_0 : decode cX10_remembers 0 = .ok (.aload_n 0, 1) := by decide +kernel
theorem dX10_remembers_1 : decode cX10_remembers 1 = .ok (.getfield 340, 3) := by decide +kernel
theorem dX10_remembers_4 : decode cX10_remembers 4 = .ok (.bipush 8, 2) := by decide +kernel
theorem dX10_remembers_6 : decode cX10_remembers 6 = .ok (.if_icmp .ne 44, 3) := by decide +kernel
theorem dX10_remembers_9 : decode cX10_remembers 9 = .ok (.iconst 0, 1) := by decide +kernel
theorem dX10_remembers_10 : decode cX10_remembers 10 = .ok (.istore_n 1, 1) := by decide +kernel
theorem dX10_remembers_11 : decode cX10_remembers 11 = .ok (.iload_n 1, 1) := by decide +kernel
theorem dX10_remembers_12 : decode cX10_remembers 12 = .ok (.sipush 2485, 3) := by decide +kernel
theorem dX10_remembers_15 : decode cX10_remembers 15 = .ok (.if_icmp .ge 25, 3) := by decide +kernel
theorem dX10_remembers_18 : decode cX10_remembers 18 = .ok (.aload_n 0, 1) := by decide +kernel
theorem dX10_remembers_19 : decode cX10_remembers 19 = .ok (.getfield 16, 3) := by decide +kernel
theorem dX10_remembers_22 : decode cX10_remembers 22 = .ok (.iload_n 1, 1) := by decide +kernel
theorem dX10_remembers_23 : decode cX10_remembers 23 = .ok (.aload_n 0, 1) := by decide +kernel
theorem dX10_remembers_24 : decode cX10_remembers 24 = .ok (.getfield 16, 3) := by decide +kernel
theorem dX10_remembers_27 : decode cX10_remembers 27 = .ok (.iload_n 1, 1) := by decide +kernel
theorem dX10_remembers_28 : decode cX10_remembers 28 = .ok (.sipush 355, 3) := by decide +kernel
theorem dX10_remembers_31 : decode cX10_remembers 31 = .ok (.iadd, 1) := by decide +kernel
theorem dX10_remembers_32 : decode cX10_remembers 32 = .ok (.iaload, 1) := by decide +kernel
theorem dX10_remembers_33 : decode cX10_remembers 33 = .ok (.iastore, 1) := by decide +kernel
theorem dX10_remembers_34 : decode cX10_remembers 34 = .ok (.iinc 1 1, 3) := by decide +kernel
theorem dX10_remembers_37 : decode cX10_remembers 37 = .ok (.goto (-26), 3) := by decide +kernel
theorem dX10_remembers_40 : decode cX10_remembers 40 = .ok (.aload_n 0, 1) := by decide +kernel
theorem dX10_remembers_41 : decode cX10_remembers 41 = .ok (.dup, 1) := by decide +kernel
theorem dX10_remembers_42 : decode cX10_remembers 42 = .ok (.getfield 340, 3) := by decide +kernel
theorem dX10_remembers_45 : decode cX10_remembers 45 = .ok (.iconst 1, 1) := by decide +kernel
theorem dX10_remembers_46 : decode cX10_remembers 46 = .ok (.isub, 1) := by decide +kernel
theorem dX10_remembers_47 : decode cX10_remembers 47 = .ok (.putfield 340, 3) := by decide +kernel
theorem dX10_remembers_50 : decode cX10_remembers 50 = .ok (.aload_n 0, 1) := by decide +kernel
theorem dX10_remembers_51 : decode cX10_remembers 51 = .ok (.getfield 9, 3) := by decide +kernel
theorem dX10_remembers_54 : decode cX10_remembers 54 = .ok (.iconst 0, 1) := by decide +kernel
theorem dX10_remembers_55 : decode cX10_remembers 55 = .ok (.aload_n 0, 1) := by decide +kernel
theorem dX10_remembers_56 : decode cX10_remembers 56 = .ok (.getfield 16, 3) := by decide +kernel
theorem dX10_remembers_59 : decode cX10_remembers 59 = .ok (.aload_n 0, 1) := by decide +kernel
theorem dX10_remembers_60 : decode cX10_remembers 60 = .ok (.getfield 340, 3) := by decide +kernel
theorem dX10_remembers_63 : decode cX10_remembers 63 = .ok (.sipush 355, 3) := by decide +kernel
theorem dX10_remembers_66 : decode cX10_remembers 66 = .ok (.imul, 1) := by decide +kernel
theorem dX10_remembers_67 : decode cX10_remembers 67 = .ok (.invokestatic 48, 3) := by decide +kernel
theorem dX10_remembers_70 : decode cX10_remembers 70 = .ok (.aload_n 0, 1) := by decide +kernel
theorem dX10_remembers_71 : decode cX10_remembers 71 = .ok (.dup, 1) := by decide +kernel
theorem dX10_remembers_72 : decode cX10_remembers 72 = .ok (.getfield 340, 3) := by decide +kernel
theorem dX10_remembers_75 : decode cX10_remembers 75 = .ok (.iconst 1, 1) := by decide +kernel
theorem dX10_remembers_76 : decode cX10_remembers 76 = .ok (.iadd, 1) := by decide +kernel
theorem dX10_remembers_77 : decode cX10_remembers 77 = .ok (.putfield 340, 3) := by decide +kernel
theorem dX10_remembers_80 : decode cX10_remembers 80 = .ok (.return_, 1) := by decide +kernel
theorem dX10_advance_0 : decode cX10_advance 0 = .ok (.aload_n 0, 1) := by decide +kernel
theorem dX10_advance_1 : decode cX10_advance 1 = .ok (.aload_n 0, 1) := by decide +kernel
theorem dX10_advance_2 : decode cX10_advance 2 = .ok (.getfield 44, 3) := by decide +kernel
theorem dX10_advance_5 : decode cX10_advance 5 = .ok (.iload_n 1, 1) := by decide +kernel
theorem dX10_advance_6 : decode cX10_advance 6 = .ok (.iconst 1, 1) := by decide +kernel
theorem dX10_advance_7 : decode cX10_advance 7 = .ok (.sipush 300, 3) := by decide +kernel
theorem dX10_advance_10 : decode cX10_advance 10 = .ok (.invokestatic 69, 3) := by decide +kernel
theorem dX10_advance_13 : decode cX10_advance 13 = .ok (.invokevirtual 456, 3) := by decide +kernel
theorem dX10_advance_16 : decode cX10_advance 16 = .ok (.ifCond .ne 5, 3) := by decide +kernel
theorem dX10_advance_19 : decode cX10_advance 19 = .ok (.iconst 0, 1) := by decide +kernel
theorem dX10_advance_20 : decode cX10_advance 20 = .ok (.ireturn, 1) := by decide +kernel
theorem dX10_advance_21 : decode cX10_advance 21 = .ok (.aload_n 0, 1) := by decide +kernel
theorem dX10_advance_22 : decode cX10_advance 22 = .ok (.invokevirtual 496, 3) := by decide +kernel
theorem dX10_advance_25 : decode cX10_advance 25 = .ok (.aload_n 0, 1) := by decide +kernel
theorem dX10_advance_26 : decode cX10_advance 26 = .ok (.iconst 2, 1) := by decide +kernel
theorem dX10_advance_27 : decode cX10_advance 27 = .ok (.invokevirtual 447, 3) := by decide +kernel
theorem dX10_advance_30 : decode cX10_advance 30 = .ok (.istore_n 2, 1) := by decide +kernel
theorem dX10_advance_31 : decode cX10_advance 31 = .ok (.aload_n 0, 1) := by decide +kernel
theorem dX10_advance_32 : decode cX10_advance 32 = .ok (.iload_n 1, 1) := by decide +kernel
theorem dX10_advance_33 : decode cX10_advance 33 = .ok (.invokevirtual 230, 3) := by decide +kernel
theorem dX10_advance_36 : decode cX10_advance 36 = .ok (.aload_n 0, 1) := by decide +kernel
theorem dX10_advance_37 : decode cX10_advance 37 = .ok (.iconst 2, 1) := by decide +kernel
theorem dX10_advance_38 : decode cX10_advance 38 = .ok (.invokevirtual 447, 3) := by decide +kernel
theorem dX10_advance_41 : decode cX10_advance 41 = .ok (.iload_n 2, 1) := by decide +kernel
theorem dX10_advance_42 : decode cX10_advance 42 = .ok (.isub, 1) := by decide +kernel
theorem dX10_advance_43 : decode cX10_advance 43 = .ok (.ireturn, 1) := by decide +kernel
theorem dX10_buy_0 : decode cX10_buy 0 = .ok (.aload_n 0, 1) := by decide +kernel
theorem dX10_buy_1 : decode cX10_buy 1 = .ok (.iload_n 1, 1) := by decide +kernel
theorem dX10_buy_2 : decode cX10_buy 2 = .ok (.invokevirtual 453, 3) := by decide +kernel
theorem dX10_buy_5 : decode cX10_buy 5 = .ok (.ifCond .eq 15, 3) := by decide +kernel
theorem dX10_buy_8 : decode cX10_buy 8 = .ok (.aload_n 0, 1) := by decide +kernel
theorem dX10_buy_9 : decode cX10_buy 9 = .ok (.iload_n 2, 1) := by decide +kernel
theorem dX10_buy_10 : decode cX10_buy 10 = .ok (.invokevirtual 463, 3) := by decide +kernel
theorem dX10_buy_13 : decode cX10_buy 13 = .ok (.ifCond .eq 7, 3) := by decide +kernel
theorem dX10_buy_16 : decode cX10_buy 16 = .ok (.iconst 1, 1) := by decide +kernel
theorem dX10_buy_17 : decode cX10_buy 17 = .ok (.goto 4, 3) := by decide +kernel
theorem dX10_buy_20 : decode cX10_buy 20 = .ok (.iconst 0, 1) := by decide +kernel
theorem dX10_buy_21 : decode cX10_buy 21 = .ok (.istore_n 3, 1) := by decide +kernel
theorem dX10_buy_22 : decode cX10_buy 22 = .ok (.aload_n 0, 1) := by decide +kernel
theorem dX10_buy_23 : decode cX10_buy 23 = .ok (.aload_n 0, 1) := by decide +kernel
theorem dX10_buy_24 : decode cX10_buy 24 = .ok (.getfield 44, 3) := by decide +kernel
theorem dX10_buy_27 : decode cX10_buy 27 = .ok (.iload_n 3, 1) := by decide +kernel
theorem dX10_buy_28 : decode cX10_buy 28 = .ok (.iload_n 3, 1) := by decide +kernel
theorem dX10_buy_29 : decode cX10_buy 29 = .ok (.ifCond .eq 16, 3) := by decide +kernel
theorem dX10_buy_32 : decode cX10_buy 32 = .ok (.aload_n 0, 1) := by decide +kernel
theorem dX10_buy_33 : decode cX10_buy 33 = .ok (.iload_n 1, 1) := by decide +kernel
theorem dX10_buy_34 : decode cX10_buy 34 = .ok (.iload_n 2, 1) := by decide +kernel
theorem dX10_buy_35 : decode cX10_buy 35 = .ok (.invokevirtual 197, 3) := by decide +kernel
theorem dX10_buy_38 : decode cX10_buy 38 = .ok (.ifCond .ne 7, 3) := by decide +kernel
theorem dX10_buy_41 : decode cX10_buy 41 = .ok (.iconst 1, 1) := by decide +kernel
theorem dX10_buy_42 : decode cX10_buy 42 = .ok (.goto 4, 3) := by decide +kernel
theorem dX10_buy_45 : decode cX10_buy 45 = .ok (.iconst 0, 1) := by decide +kernel
theorem dX10_buy_46 : decode cX10_buy 46 = .ok (.invokevirtual 40, 3) := by decide +kernel
theorem dX10_buy_49 : decode cX10_buy 49 = .ok (.ifCond .ne 5, 3) := by decide +kernel
theorem dX10_buy_52 : decode cX10_buy 52 = .ok (.iconst 0, 1) := by decide +kernel
theorem dX10_buy_53 : decode cX10_buy 53 = .ok (.ireturn, 1) := by decide +kernel
theorem dX10_buy_54 : decode cX10_buy 54 = .ok (.aload_n 0, 1) := by decide +kernel
theorem dX10_buy_55 : decode cX10_buy 55 = .ok (.invokevirtual 496, 3) := by decide +kernel
theorem dX10_buy_58 : decode cX10_buy 58 = .ok (.aload_n 0, 1) := by decide +kernel
theorem dX10_buy_59 : decode cX10_buy 59 = .ok (.iload_n 1, 1) := by decide +kernel
theorem dX10_buy_60 : decode cX10_buy 60 = .ok (.iload_n 2, 1) := by decide +kernel
theorem dX10_buy_61 : decode cX10_buy 61 = .ok (.invokevirtual 200, 3) := by decide +kernel
theorem dX10_buy_64 : decode cX10_buy 64 = .ok (.ireturn, 1) := by decide +kernel
theorem dX10_sell_0 : decode cX10_sell 0 = .ok (.aload_n 0, 1) := by decide +kernel
theorem dX10_sell_1 : decode cX10_sell 1 = .ok (.iload_n 1, 1) := by decide +kernel
theorem dX10_sell_2 : decode cX10_sell 2 = .ok (.invokevirtual 463, 3) := by decide +kernel
theorem dX10_sell_5 : decode cX10_sell 5 = .ok (.ifCond .eq 15, 3) := by decide +kernel
theorem dX10_sell_8 : decode cX10_sell 8 = .ok (.aload_n 0, 1) := by decide +kernel
theorem dX10_sell_9 : decode cX10_sell 9 = .ok (.iload_n 2, 1) := by decide +kernel
theorem dX10_sell_10 : decode cX10_sell 10 = .ok (.invokevirtual 460, 3) := by decide +kernel
theorem dX10_sell_13 : decode cX10_sell 13 = .ok (.ifCond .eq 7, 3) := by decide +kernel
theorem dX10_sell_16 : decode cX10_sell 16 = .ok (.iconst 1, 1) := by decide +kernel
theorem dX10_sell_17 : decode cX10_sell 17 = .ok (.goto 4, 3) := by decide +kernel
theorem dX10_sell_20 : decode cX10_sell 20 = .ok (.iconst 0, 1) := by decide +kernel
theorem dX10_sell_21 : decode cX10_sell 21 = .ok (.istore_n 3, 1) := by decide +kernel
theorem dX10_sell_22 : decode cX10_sell 22 = .ok (.aload_n 0, 1) := by decide +kernel
theorem dX10_sell_23 : decode cX10_sell 23 = .ok (.aload_n 0, 1) := by decide +kernel
theorem dX10_sell_24 : decode cX10_sell 24 = .ok (.getfield 44, 3) := by decide +kernel
theorem dX10_sell_27 : decode cX10_sell 27 = .ok (.iload_n 3, 1) := by decide +kernel
theorem dX10_sell_28 : decode cX10_sell 28 = .ok (.iload_n 3, 1) := by decide +kernel
theorem dX10_sell_29 : decode cX10_sell 29 = .ok (.ifCond .eq 16, 3) := by decide +kernel
theorem dX10_sell_32 : decode cX10_sell 32 = .ok (.aload_n 0, 1) := by decide +kernel
theorem dX10_sell_33 : decode cX10_sell 33 = .ok (.iload_n 1, 1) := by decide +kernel
theorem dX10_sell_34 : decode cX10_sell 34 = .ok (.iload_n 2, 1) := by decide +kernel
theorem dX10_sell_35 : decode cX10_sell 35 = .ok (.invokevirtual 203, 3) := by decide +kernel
theorem dX10_sell_38 : decode cX10_sell 38 = .ok (.ifCond .ne 7, 3) := by decide +kernel
theorem dX10_sell_41 : decode cX10_sell 41 = .ok (.iconst 1, 1) := by decide +kernel
theorem dX10_sell_42 : decode cX10_sell 42 = .ok (.goto 4, 3) := by decide +kernel
theorem dX10_sell_45 : decode cX10_sell 45 = .ok (.iconst 0, 1) := by decide +kernel
theorem dX10_sell_46 : decode cX10_sell 46 = .ok (.invokevirtual 40, 3) := by decide +kernel
theorem dX10_sell_49 : decode cX10_sell 49 = .ok (.ifCond .ne 5, 3) := by decide +kernel
theorem dX10_sell_52 : decode cX10_sell 52 = .ok (.iconst 0, 1) := by decide +kernel
theorem dX10_sell_53 : decode cX10_sell 53 = .ok (.ireturn, 1) := by decide +kernel
theorem dX10_sell_54 : decode cX10_sell 54 = .ok (.aload_n 0, 1) := by decide +kernel
theorem dX10_sell_55 : decode cX10_sell 55 = .ok (.invokevirtual 496, 3) := by decide +kernel
theorem dX10_sell_58 : decode cX10_sell 58 = .ok (.aload_n 0, 1) := by decide +kernel
theorem dX10_sell_59 : decode cX10_sell 59 = .ok (.iload_n 1, 1) := by decide +kernel
theorem dX10_sell_60 : decode cX10_sell 60 = .ok (.iload_n 2, 1) := by decide +kernel
theorem dX10_sell_61 : decode cX10_sell 61 = .ok (.invokevirtual 206, 3) := by decide +kernel
theorem dX10_sell_64 : decode cX10_sell 64 = .ok (.ireturn, 1) := by decide +kernel
theorem dX10_returnWish_0 : decode cX10_returnWish 0 = .ok (.aload_n 0, 1) := by decide +kernel
theorem dX10_returnWish_1 : decode cX10_returnWish 1 = .ok (.iload_n 1, 1) := by decide +kernel
theorem dX10_returnWish_2 : decode cX10_returnWish 2 = .ok (.invokevirtual 463, 3) := by decide +kernel
theorem dX10_returnWish_5 : decode cX10_returnWish 5 = .ok (.istore_n 2, 1) := by decide +kernel
theorem dX10_returnWish_6 : decode cX10_returnWish 6 = .ok (.aload_n 0, 1) := by decide +kernel
theorem dX10_returnWish_7 : decode cX10_returnWish 7 = .ok (.aload_n 0, 1) := by decide +kernel
theorem dX10_returnWish_8 : decode cX10_returnWish 8 = .ok (.getfield 44, 3) := by decide +kernel
theorem dX10_returnWish_11 : decode cX10_returnWish 11 = .ok (.iload_n 2, 1) := by decide +kernel
theorem dX10_returnWish_12 : decode cX10_returnWish 12 = .ok (.iload_n 2, 1) := by decide +kernel
theorem dX10_returnWish_13 : decode cX10_returnWish 13 = .ok (.ifCond .eq 15, 3) := by decide +kernel
theorem dX10_returnWish_16 : decode cX10_returnWish 16 = .ok (.aload_n 0, 1) := by decide +kernel
theorem dX10_returnWish_17 : decode cX10_returnWish 17 = .ok (.iload_n 1, 1) := by decide +kernel
theorem dX10_returnWish_18 : decode cX10_returnWish 18 = .ok (.invokevirtual 209, 3) := by decide +kernel
theorem dX10_returnWish_21 : decode cX10_returnWish 21 = .ok (.ifCond .ne 7, 3) := by decide +kernel
theorem dX10_returnWish_24 : decode cX10_returnWish 24 = .ok (.iconst 1, 1) := by decide +kernel
theorem dX10_returnWish_25 : decode cX10_returnWish 25 = .ok (.goto 4, 3) := by decide +kernel
theorem dX10_returnWish_28 : decode cX10_returnWish 28 = .ok (.iconst 0, 1) := by decide +kernel
theorem dX10_returnWish_29 : decode cX10_returnWish 29 = .ok (.invokevirtual 40, 3) := by decide +kernel
theorem dX10_returnWish_32 : decode cX10_returnWish 32 = .ok (.ifCond .ne 5, 3) := by decide +kernel
theorem dX10_returnWish_35 : decode cX10_returnWish 35 = .ok (.iconst 0, 1) := by decide +kernel
theorem dX10_returnWish_36 : decode cX10_returnWish 36 = .ok (.ireturn, 1) := by decide +kernel
theorem dX10_returnWish_37 : decode cX10_returnWish 37 = .ok (.aload_n 0, 1) := by decide +kernel
theorem dX10_returnWish_38 : decode cX10_returnWish 38 = .ok (.invokevirtual 496, 3) := by decide +kernel
theorem dX10_returnWish_41 : decode cX10_returnWish 41 = .ok (.aload_n 0, 1) := by decide +kernel
theorem dX10_returnWish_42 : decode cX10_returnWish 42 = .ok (.iload_n 1, 1) := by decide +kernel
theorem dX10_returnWish_43 : decode cX10_returnWish 43 = .ok (.invokevirtual 212, 3) := by decide +kernel
theorem dX10_returnWish_46 : decode cX10_returnWish 46 = .ok (.ireturn, 1) := by decide +kernel
theorem dX10_grant_0 : decode cX10_grant 0 = .ok (.aload_n 0, 1) := by decide +kernel
theorem dX10_grant_1 : decode cX10_grant 1 = .ok (.iload_n 1, 1) := by decide +kernel
theorem dX10_grant_2 : decode cX10_grant 2 = .ok (.invokevirtual 463, 3) := by decide +kernel
theorem dX10_grant_5 : decode cX10_grant 5 = .ok (.istore_n 2, 1) := by decide +kernel
theorem dX10_grant_6 : decode cX10_grant 6 = .ok (.aload_n 0, 1) := by decide +kernel
theorem dX10_grant_7 : decode cX10_grant 7 = .ok (.aload_n 0, 1) := by decide +kernel
theorem dX10_grant_8 : decode cX10_grant 8 = .ok (.getfield 44, 3) := by decide +kernel
theorem dX10_grant_11 : decode cX10_grant 11 = .ok (.iload_n 2, 1) := by decide +kernel
theorem dX10_grant_12 : decode cX10_grant 12 = .ok (.iload_n 2, 1) := by decide +kernel
theorem dX10_grant_13 : decode cX10_grant 13 = .ok (.ifCond .eq 15, 3) := by decide +kernel
theorem dX10_grant_16 : decode cX10_grant 16 = .ok (.aload_n 0, 1) := by decide +kernel
theorem dX10_grant_17 : decode cX10_grant 17 = .ok (.iload_n 1, 1) := by decide +kernel
theorem dX10_grant_18 : decode cX10_grant 18 = .ok (.invokevirtual 215, 3) := by decide +kernel
theorem dX10_grant_21 : decode cX10_grant 21 = .ok (.ifCond .ne 7, 3) := by decide +kernel
theorem dX10_grant_24 : decode cX10_grant 24 = .ok (.iconst 1, 1) := by decide +kernel
theorem dX10_grant_25 : decode cX10_grant 25 = .ok (.goto 4, 3) := by decide +kernel
theorem dX10_grant_28 : decode cX10_grant 28 = .ok (.iconst 0, 1) := by decide +kernel
theorem dX10_grant_29 : decode cX10_grant 29 = .ok (.invokevirtual 40, 3) := by decide +kernel
theorem dX10_grant_32 : decode cX10_grant 32 = .ok (.ifCond .ne 5, 3) := by decide +kernel
theorem dX10_grant_35 : decode cX10_grant 35 = .ok (.iconst 0, 1) := by decide +kernel
theorem dX10_grant_36 : decode cX10_grant 36 = .ok (.ireturn, 1) := by decide +kernel
theorem dX10_grant_37 : decode cX10_grant 37 = .ok (.aload_n 0, 1) := by decide +kernel
theorem dX10_grant_38 : decode cX10_grant 38 = .ok (.invokevirtual 496, 3) := by decide +kernel
theorem dX10_grant_41 : decode cX10_grant 41 = .ok (.aload_n 0, 1) := by decide +kernel
theorem dX10_grant_42 : decode cX10_grant 42 = .ok (.iload_n 1, 1) := by decide +kernel
theorem dX10_grant_43 : decode cX10_grant 43 = .ok (.invokevirtual 218, 3) := by decide +kernel
theorem dX10_grant_46 : decode cX10_grant 46 = .ok (.ireturn, 1) := by decide +kernel
theorem dX10_setLimit_0 : decode cX10_setLimit 0 = .ok (.aload_n 0, 1) := by decide +kernel
theorem dX10_setLimit_1 : decode cX10_setLimit 1 = .ok (.aload_n 0, 1) := by decide +kernel
theorem dX10_setLimit_2 : decode cX10_setLimit 2 = .ok (.getfield 44, 3) := by decide +kernel
theorem dX10_setLimit_5 : decode cX10_setLimit 5 = .ok (.aload_n 0, 1) := by decide +kernel
theorem dX10_setLimit_6 : decode cX10_setLimit 6 = .ok (.iload_n 1, 1) := by decide +kernel
theorem dX10_setLimit_7 : decode cX10_setLimit 7 = .ok (.invokevirtual 453, 3) := by decide +kernel
theorem dX10_setLimit_10 : decode cX10_setLimit 10 = .ok (.iload_n 2, 1) := by decide +kernel
theorem dX10_setLimit_11 : decode cX10_setLimit 11 = .ok (.iconst 0, 1) := by decide +kernel
theorem dX10_setLimit_12 : decode cX10_setLimit 12 = .ok (.sipush 200, 3) := by decide +kernel
theorem dX10_setLimit_15 : decode cX10_setLimit 15 = .ok (.invokestatic 69, 3) := by decide +kernel
theorem dX10_setLimit_18 : decode cX10_setLimit 18 = .ok (.invokevirtual 40, 3) := by decide +kernel
theorem dX10_setLimit_21 : decode cX10_setLimit 21 = .ok (.ifCond .ne 5, 3) := by decide +kernel
theorem dX10_setLimit_24 : decode cX10_setLimit 24 = .ok (.iconst 0, 1) := by decide +kernel
theorem dX10_setLimit_25 : decode cX10_setLimit 25 = .ok (.ireturn, 1) := by decide +kernel
theorem dX10_setLimit_26 : decode cX10_setLimit 26 = .ok (.aload_n 0, 1) := by decide +kernel
theorem dX10_setLimit_27 : decode cX10_setLimit 27 = .ok (.invokevirtual 496, 3) := by decide +kernel
theorem dX10_setLimit_30 : decode cX10_setLimit 30 = .ok (.aload_n 0, 1) := by decide +kernel
theorem dX10_setLimit_31 : decode cX10_setLimit 31 = .ok (.iload_n 1, 1) := by decide +kernel
theorem dX10_setLimit_32 : decode cX10_setLimit 32 = .ok (.iconst 4, 1) := by decide +kernel
theorem dX10_setLimit_33 : decode cX10_setLimit 33 = .ok (.invokevirtual 141, 3) := by decide +kernel
theorem dX10_setLimit_36 : decode cX10_setLimit 36 = .ok (.istore_n 3, 1) := by decide +kernel
theorem dX10_setLimit_37 : decode cX10_setLimit 37 = .ok (.aload_n 0, 1) := by decide +kernel
theorem dX10_setLimit_38 : decode cX10_setLimit 38 = .ok (.iload_n 1, 1) := by decide +kernel
theorem dX10_setLimit_39 : decode cX10_setLimit 39 = .ok (.iconst 4, 1) := by decide +kernel
theorem dX10_setLimit_40 : decode cX10_setLimit 40 = .ok (.iload_n 2, 1) := by decide +kernel
theorem dX10_setLimit_41 : decode cX10_setLimit 41 = .ok (.invokevirtual 144, 3) := by decide +kernel
theorem dX10_setLimit_44 : decode cX10_setLimit 44 = .ok (.iload_n 3, 1) := by decide +kernel
theorem dX10_setLimit_45 : decode cX10_setLimit 45 = .ok (.ireturn, 1) := by decide +kernel
theorem dX10_setMargin_0 : decode cX10_setMargin 0 = .ok (.aload_n 0, 1) := by decide +kernel
theorem dX10_setMargin_1 : decode cX10_setMargin 1 = .ok (.aload_n 0, 1) := by decide +kernel
theorem dX10_setMargin_2 : decode cX10_setMargin 2 = .ok (.getfield 44, 3) := by decide +kernel
theorem dX10_setMargin_5 : decode cX10_setMargin 5 = .ok (.aload_n 0, 1) := by decide +kernel
theorem dX10_setMargin_6 : decode cX10_setMargin 6 = .ok (.iload_n 1, 1) := by decide +kernel
theorem dX10_setMargin_7 : decode cX10_setMargin 7 = .ok (.invokevirtual 460, 3) := by decide +kernel
theorem dX10_setMargin_10 : decode cX10_setMargin 10 = .ok (.iload_n 2, 1) := by decide +kernel
theorem dX10_setMargin_11 : decode cX10_setMargin 11 = .ok (.iconst 0, 1) := by decide +kernel
theorem dX10_setMargin_12 : decode cX10_setMargin 12 = .ok (.bipush 100, 2) := by decide +kernel
theorem dX10_setMargin_14 : decode cX10_setMargin 14 = .ok (.invokestatic 69, 3) := by decide +kernel
theorem dX10_setMargin_17 : decode cX10_setMargin 17 = .ok (.invokevirtual 40, 3) := by decide +kernel
theorem dX10_setMargin_20 : decode cX10_setMargin 20 = .ok (.ifCond .ne 5, 3) := by decide +kernel
theorem dX10_setMargin_23 : decode cX10_setMargin 23 = .ok (.iconst 0, 1) := by decide +kernel
theorem dX10_setMargin_24 : decode cX10_setMargin 24 = .ok (.ireturn, 1) := by decide +kernel
theorem dX10_setMargin_25 : decode cX10_setMargin 25 = .ok (.aload_n 0, 1) := by decide +kernel
theorem dX10_setMargin_26 : decode cX10_setMargin 26 = .ok (.invokevirtual 496, 3) := by decide +kernel
theorem dX10_setMargin_29 : decode cX10_setMargin 29 = .ok (.aload_n 0, 1) := by decide +kernel
theorem dX10_setMargin_30 : decode cX10_setMargin 30 = .ok (.iload_n 1, 1) := by decide +kernel
theorem dX10_setMargin_31 : decode cX10_setMargin 31 = .ok (.iconst 3, 1) := by decide +kernel
theorem dX10_setMargin_32 : decode cX10_setMargin 32 = .ok (.invokevirtual 356, 3) := by decide +kernel
theorem dX10_setMargin_35 : decode cX10_setMargin 35 = .ok (.istore_n 3, 1) := by decide +kernel
theorem dX10_setMargin_36 : decode cX10_setMargin 36 = .ok (.aload_n 0, 1) := by decide +kernel
theorem dX10_setMargin_37 : decode cX10_setMargin 37 = .ok (.iload_n 1, 1) := by decide +kernel
theorem dX10_setMargin_38 : decode cX10_setMargin 38 = .ok (.iconst 3, 1) := by decide +kernel
theorem dX10_setMargin_39 : decode cX10_setMargin 39 = .ok (.iload_n 2, 1) := by decide +kernel
theorem dX10_setMargin_40 : decode cX10_setMargin 40 = .ok (.invokevirtual 129, 3) := by decide +kernel
theorem dX10_setMargin_43 : decode cX10_setMargin 43 = .ok (.iload_n 3, 1) := by decide +kernel
theorem dX10_setMargin_44 : decode cX10_setMargin 44 = .ok (.ireturn, 1) := by decide +kernel
theorem dX10_undo_0 : decode cX10_undo 0 = .ok (.aload_n 0, 1) := by decide +kernel
theorem dX10_undo_1 : decode cX10_undo 1 = .ok (.aload_n 0, 1) := by decide +kernel
theorem dX10_undo_2 : decode cX10_undo 2 = .ok (.getfield 340, 3) := by decide +kernel
theorem dX10_undo_5 : decode cX10_undo 5 = .ok (.ifCond .le 7, 3) := by decide +kernel
theorem dX10_undo_8 : decode cX10_undo 8 = .ok (.iconst 1, 1) := by decide +kernel
theorem dX10_undo_9 : decode cX10_undo 9 = .ok (.goto 4, 3) := by decide +kernel
theorem dX10_undo_12 : decode cX10_undo 12 = .ok (.iconst 0, 1) := by decide +kernel
theorem dX10_undo_13 : decode cX10_undo 13 = .ok (.iconst 1, 1) := by decide +kernel
theorem dX10_undo_14 : decode cX10_undo 14 = .ok (.iconst 1, 1) := by decide +kernel
theorem dX10_undo_15 : decode cX10_undo 15 = .ok (.invokevirtual 40, 3) := by decide +kernel
theorem dX10_undo_18 : decode cX10_undo 18 = .ok (.ifCond .ne 5, 3) := by decide +kernel
theorem dX10_undo_21 : decode cX10_undo 21 = .ok (.iconst 0, 1) := by decide +kernel
theorem dX10_undo_22 : decode cX10_undo 22 = .ok (.ireturn, 1) := by decide +kernel
theorem dX10_undo_23 : decode cX10_undo 23 = .ok (.aload_n 0, 1) := by decide +kernel
theorem dX10_undo_24 : decode cX10_undo 24 = .ok (.dup, 1) := by decide +kernel
theorem dX10_undo_25 : decode cX10_undo 25 = .ok (.getfield 340, 3) := by decide +kernel
theorem dX10_undo_28 : decode cX10_undo 28 = .ok (.iconst 1, 1) := by decide +kernel
theorem dX10_undo_29 : decode cX10_undo 29 = .ok (.isub, 1) := by decide +kernel
theorem dX10_undo_30 : decode cX10_undo 30 = .ok (.putfield 340, 3) := by decide +kernel
theorem dX10_undo_33 : decode cX10_undo 33 = .ok (.aload_n 0, 1) := by decide +kernel
theorem dX10_undo_34 : decode cX10_undo 34 = .ok (.getfield 16, 3) := by decide +kernel
theorem dX10_undo_37 : decode cX10_undo 37 = .ok (.aload_n 0, 1) := by decide +kernel
theorem dX10_undo_38 : decode cX10_undo 38 = .ok (.getfield 340, 3) := by decide +kernel
theorem dX10_undo_41 : decode cX10_undo 41 = .ok (.sipush 355, 3) := by decide +kernel
theorem dX10_undo_44 : decode cX10_undo 44 = .ok (.imul, 1) := by decide +kernel
theorem dX10_undo_45 : decode cX10_undo 45 = .ok (.aload_n 0, 1) := by decide +kernel
theorem dX10_undo_46 : decode cX10_undo 46 = .ok (.getfield 9, 3) := by decide +kernel
theorem dX10_undo_49 : decode cX10_undo 49 = .ok (.iconst 0, 1) := by decide +kernel
theorem dX10_undo_50 : decode cX10_undo 50 = .ok (.invokestatic 48, 3) := by decide +kernel
theorem dX10_undo_53 : decode cX10_undo 53 = .ok (.aload_n 0, 1) := by decide +kernel
theorem dX10_undo_54 : decode cX10_undo 54 = .ok (.getfield 340, 3) := by decide +kernel
theorem dX10_undo_57 : decode cX10_undo 57 = .ok (.ireturn, 1) := by decide +kernel
theorem dX10_undoCount_0 : decode cX10_undoCount 0 = .ok (.aload_n 0, 1) := by decide +kernel
theorem dX10_undoCount_1 : decode cX10_undoCount 1 = .ok (.aload_n 0, 1) := by decide +kernel
theorem dX10_undoCount_2 : decode cX10_undoCount 2 = .ok (.getfield 340, 3) := by decide +kernel
theorem dX10_undoCount_5 : decode cX10_undoCount 5 = .ok (.invokevirtual 62, 3) := by decide +kernel
theorem dX10_undoCount_8 : decode cX10_undoCount 8 = .ok (.ireturn, 1) := by decide +kernel
theorem dX10_isSlot_0 : decode cX10_isSlot 0 = .ok (.iload_n 0, 1) := by decide +kernel
theorem dX10_isSlot_1 : decode cX10_isSlot 1 = .ok (.iconst 0, 1) := by decide +kernel
theorem dX10_isSlot_2 : decode cX10_isSlot 2 = .ok (.iconst 1, 1) := by decide +kernel
theorem dX10_isSlot_3 : decode cX10_isSlot 3 = .ok (.invokestatic 69, 3) := by decide +kernel
theorem dX10_isSlot_6 : decode cX10_isSlot 6 = .ok (.ireturn, 1) := by decide +kernel
theorem dX10_saveState_0 : decode cX10_saveState 0 = .ok (.aload_n 0, 1) := by decide +kernel
theorem dX10_saveState_1 : decode cX10_saveState 1 = .ok (.aload_n 0, 1) := by decide +kernel
theorem dX10_saveState_2 : decode cX10_saveState 2 = .ok (.getfield 44, 3) := by decide +kernel
theorem dX10_saveState_5 : decode cX10_saveState 5 = .ok (.iload_n 1, 1) := by decide +kernel
theorem dX10_saveState_6 : decode cX10_saveState 6 = .ok (.invokestatic 499, 3) := by decide +kernel
theorem dX10_saveState_9 : decode cX10_saveState 9 = .ok (.invokevirtual 456, 3) := by decide +kernel
theorem dX10_saveState_12 : decode cX10_saveState 12 = .ok (.ifCond .ne 5, 3) := by decide +kernel
theorem dX10_saveState_15 : decode cX10_saveState 15 = .ok (.iconst 0, 1) := by decide +kernel
theorem dX10_saveState_16 : decode cX10_saveState 16 = .ok (.ireturn, 1) := by decide +kernel
theorem dX10_saveState_17 : decode cX10_saveState 17 = .ok (.aload_n 0, 1) := by decide +kernel
theorem dX10_saveState_18 : decode cX10_saveState 18 = .ok (.getfield 9, 3) := by decide +kernel
theorem dX10_saveState_21 : decode cX10_saveState 21 = .ok (.iconst 0, 1) := by decide +kernel
theorem dX10_saveState_22 : decode cX10_saveState 22 = .ok (.aload_n 0, 1) := by decide +kernel
theorem dX10_saveState_23 : decode cX10_saveState 23 = .ok (.getfield 19, 3) := by decide +kernel
theorem dX10_saveState_26 : decode cX10_saveState 26 = .ok (.iload_n 1, 1) := by decide +kernel
theorem dX10_saveState_27 : decode cX10_saveState 27 = .ok (.sipush 355, 3) := by decide +kernel
theorem dX10_saveState_30 : decode cX10_saveState 30 = .ok (.imul, 1) := by decide +kernel
theorem dX10_saveState_31 : decode cX10_saveState 31 = .ok (.invokestatic 48, 3) := by decide +kernel
theorem dX10_saveState_34 : decode cX10_saveState 34 = .ok (.aload_n 0, 1) := by decide +kernel
theorem dX10_saveState_35 : decode cX10_saveState 35 = .ok (.getfield 22, 3) := by decide +kernel
theorem dX10_saveState_38 : decode cX10_saveState 38 = .ok (.iload_n 1, 1) := by decide +kernel
theorem dX10_saveState_39 : decode cX10_saveState 39 = .ok (.iconst 1, 1) := by decide +kernel
theorem dX10_saveState_40 : decode cX10_saveState 40 = .ok (.bastore, 1) := by decide +kernel
theorem dX10_saveState_41 : decode cX10_saveState 41 = .ok (.aload_n 0, 1) := by decide +kernel
theorem dX10_saveState_42 : decode cX10_saveState 42 = .ok (.getfield 9, 3) := by decide +kernel
theorem dX10_saveState_45 : decode cX10_saveState 45 = .ok (.iconst 1, 1) := by decide +kernel
theorem dX10_saveState_46 : decode cX10_saveState 46 = .ok (.iaload, 1) := by decide +kernel
theorem dX10_saveState_47 : decode cX10_saveState 47 = .ok (.ireturn, 1) := by decide +kernel
theorem dX10_restoreState_0 : decode cX10_restoreState 0 = .ok (.iload_n 1, 1) := by decide +kernel
theorem dX10_restoreState_1 : decode cX10_restoreState 1 = .ok (.invokestatic 499, 3) := by decide +kernel
theorem dX10_restoreState_4 : decode cX10_restoreState 4 = .ok (.istore_n 2, 1) := by decide +kernel
theorem dX10_restoreState_5 : decode cX10_restoreState 5 = .ok (.aload_n 0, 1) := by decide +kernel
theorem dX10_restoreState_6 : decode cX10_restoreState 6 = .ok (.iload_n 2, 1) := by decide +kernel
theorem dX10_restoreState_7 : decode cX10_restoreState 7 = .ok (.iload_n 2, 1) := by decide +kernel
theorem dX10_restoreState_8 : decode cX10_restoreState 8 = .ok (.ifCond .eq 16, 3) := by decide +kernel
theorem dX10_restoreState_11 : decode cX10_restoreState 11 = .ok (.aload_n 0, 1) := by decide +kernel
theorem dX10_restoreState_12 : decode cX10_restoreState 12 = .ok (.getfield 22, 3) := by decide +kernel
theorem dX10_restoreState_15 : decode cX10_restoreState 15 = .ok (.iload_n 1, 1) := by decide +kernel
theorem dX10_restoreState_16 : decode cX10_restoreState 16 = .ok (.baload, 1) := by decide +kernel
theorem dX10_restoreState_17 : decode cX10_restoreState 17 = .ok (.ifCond .eq 7, 3) := by decide +kernel
theorem dX10_restoreState_20 : decode cX10_restoreState 20 = .ok (.iconst 1, 1) := by decide +kernel
theorem dX10_restoreState_21 : decode cX10_restoreState 21 = .ok (.goto 4, 3) := by decide +kernel
theorem dX10_restoreState_24 : decode cX10_restoreState 24 = .ok (.iconst 0, 1) := by decide +kernel
theorem dX10_restoreState_25 : decode cX10_restoreState 25 = .ok (.invokevirtual 456, 3) := by decide +kernel
theorem dX10_restoreState_28 : decode cX10_restoreState 28 = .ok (.ifCond .ne 5, 3) := by decide +kernel
theorem dX10_restoreState_31 : decode cX10_restoreState 31 = .ok (.iconst 0, 1) := by decide +kernel
theorem dX10_restoreState_32 : decode cX10_restoreState 32 = .ok (.ireturn, 1) := by decide +kernel
theorem dX10_restoreState_33 : decode cX10_restoreState 33 = .ok (.aload_n 0, 1) := by decide +kernel
theorem dX10_restoreState_34 : decode cX10_restoreState 34 = .ok (.getfield 19, 3) := by decide +kernel
theorem dX10_restoreState_37 : decode cX10_restoreState 37 = .ok (.iload_n 1, 1) := by decide +kernel
theorem dX10_restoreState_38 : decode cX10_restoreState 38 = .ok (.sipush 355, 3) := by decide +kernel
theorem dX10_restoreState_41 : decode cX10_restoreState 41 = .ok (.imul, 1) := by decide +kernel
theorem dX10_restoreState_42 : decode cX10_restoreState 42 = .ok (.aload_n 0, 1) := by decide +kernel
theorem dX10_restoreState_43 : decode cX10_restoreState 43 = .ok (.getfield 9, 3) := by decide +kernel
theorem dX10_restoreState_46 : decode cX10_restoreState 46 = .ok (.iconst 0, 1) := by decide +kernel
theorem dX10_restoreState_47 : decode cX10_restoreState 47 = .ok (.invokestatic 48, 3) := by decide +kernel
theorem dX10_restoreState_50 : decode cX10_restoreState 50 = .ok (.aload_n 0, 1) := by decide +kernel
theorem dX10_restoreState_51 : decode cX10_restoreState 51 = .ok (.iconst 0, 1) := by decide +kernel
theorem dX10_restoreState_52 : decode cX10_restoreState 52 = .ok (.putfield 340, 3) := by decide +kernel
theorem dX10_restoreState_55 : decode cX10_restoreState 55 = .ok (.aload_n 0, 1) := by decide +kernel
theorem dX10_restoreState_56 : decode cX10_restoreState 56 = .ok (.getfield 9, 3) := by decide +kernel
theorem dX10_restoreState_59 : decode cX10_restoreState 59 = .ok (.iconst 1, 1) := by decide +kernel
theorem dX10_restoreState_60 : decode cX10_restoreState 60 = .ok (.iaload, 1) := by decide +kernel
theorem dX10_restoreState_61 : decode cX10_restoreState 61 = .ok (.ireturn, 1) := by decide +kernel
