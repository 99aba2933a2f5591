theorem dJ5_init_d00df_0 : decode cJ5_init_d00df 0 = .ok (.aload_n 0, 1) := by decide +kernel
theorem dJ5_init_d00df_1 : decode cJ5_init_d00df 1 = .ok (.invokespecial 3, 3) := by decide +kernel
theorem dJ5_init_d00df_4 : decode cJ5_init_d00df 4 = .ok (.getstatic 18, 3) := by decide +kernel
theorem dJ5_init_d00df_7 : decode cJ5_init_d00df 7 = .ok (.ifCond .eq 18, 3) := by decide +kernel
theorem dJ5_init_d00df_10 : decode cJ5_init_d00df 10 = .ok (.aload_n 0, 1) := by decide +kernel
theorem dJ5_init_d00df_11 : decode cJ5_init_d00df 11 = .ok (.iload_n 1, 1) := by decide +kernel
theorem dJ5_init_d00df_12 : decode cJ5_init_d00df 12 = .ok (.newarray .byte, 2) := by decide +kernel
theorem dJ5_init_d00df_14 : decode cJ5_init_d00df 14 = .ok (.putfield 15, 3) := by decide +kernel
theorem dJ5_init_d00df_17 : decode cJ5_init_d00df 17 = .ok (.aload_n 0, 1) := by decide +kernel
theorem dJ5_init_d00df_18 : decode cJ5_init_d00df 18 = .ok (.iconst 0, 1) := by decide +kernel
theorem dJ5_init_d00df_19 : decode cJ5_init_d00df 19 = .ok (.putfield 22, 3) := by decide +kernel
theorem dJ5_init_d00df_22 : decode cJ5_init_d00df 22 = .ok (.goto 16, 3) := by decide +kernel
theorem dJ5_init_d00df_25 : decode cJ5_init_d00df 25 = .ok (.aload_n 0, 1) := by decide +kernel
theorem dJ5_init_d00df_26 : decode cJ5_init_d00df 26 = .ok (.iload_n 1, 1) := by decide +kernel
theorem dJ5_init_d00df_27 : decode cJ5_init_d00df 27 = .ok (.invokestatic 26, 3) := by decide +kernel
theorem dJ5_init_d00df_30 : decode cJ5_init_d00df 30 = .ok (.putfield 15, 3) := by decide +kernel
theorem dJ5_init_d00df_33 : decode cJ5_init_d00df 33 = .ok (.aload_n 0, 1) := by decide +kernel
theorem dJ5_init_d00df_34 : decode cJ5_init_d00df 34 = .ok (.iconst 1, 1) := by decide +kernel
theorem dJ5_init_d00df_35 : decode cJ5_init_d00df 35 = .ok (.putfield 22, 3) := by decide +kernel
theorem dJ5_init_d00df_38 : decode cJ5_init_d00df 38 = .ok (.return_, 1) := by decide +kernel
theorem dJ5_init_a7421_0 : decode cJ5_init_a7421 0 = .ok (.aload_n 0, 1) := by decide +kernel
theorem dJ5_init_a7421_1 : decode cJ5_init_a7421 1 = .ok (.invokespecial 3, 3) := by decide +kernel
theorem dJ5_init_a7421_4 : decode cJ5_init_a7421 4 = .ok (.aload_n 1, 1) := by decide +kernel
theorem dJ5_init_a7421_5 : decode cJ5_init_a7421 5 = .ok (.invokevirtual 32, 3) := by decide +kernel
theorem dJ5_init_a7421_8 : decode cJ5_init_a7421 8 = .ok (.istore_n 2, 1) := by decide +kernel
theorem dJ5_init_a7421_9 : decode cJ5_init_a7421 9 = .ok (.iload_n 2, 1) := by decide +kernel
theorem dJ5_init_a7421_10 : decode cJ5_init_a7421 10 = .ok (.ldc 38, 2) := by decide +kernel
theorem dJ5_init_a7421_12 : decode cJ5_init_a7421 12 = .ok (.if_icmp .ge 10, 3) := by decide +kernel
theorem dJ5_init_a7421_15 : decode cJ5_init_a7421 15 = .ok (.iload_n 2, 1) := by decide +kernel
theorem dJ5_init_a7421_16 : decode cJ5_init_a7421 16 = .ok (.bipush 16, 2) := by decide +kernel
theorem dJ5_init_a7421_18 : decode cJ5_init_a7421 18 = .ok (.iadd, 1) := by decide +kernel
theorem dJ5_init_a7421_19 : decode cJ5_init_a7421 19 = .ok (.goto 5, 3) := by decide +kernel
theorem dJ5_init_a7421_22 : decode cJ5_init_a7421 22 = .ok (.ldc 39, 2) := by decide +kernel
theorem dJ5_init_a7421_24 : decode cJ5_init_a7421 24 = .ok (.istore_n 3, 1) := by decide +kernel
theorem dJ5_init_a7421_25 : decode cJ5_init_a7421 25 = .ok (.aload_n 1, 1) := by decide +kernel
theorem dJ5_init_a7421_26 : decode cJ5_init_a7421 26 = .ok (.invokevirtual 40, 3) := by decide +kernel
theorem dJ5_init_a7421_29 : decode cJ5_init_a7421 29 = .ok (.istore 4, 2) := by decide +kernel
theorem dJ5_init_a7421_31 : decode cJ5_init_a7421 31 = .ok (.aload_n 0, 1) := by decide +kernel
theorem dJ5_init_a7421_32 : decode cJ5_init_a7421 32 = .ok (.iload 4, 2) := by decide +kernel
theorem dJ5_init_a7421_34 : decode cJ5_init_a7421 34 = .ok (.putfield 22, 3) := by decide +kernel
theorem dJ5_init_a7421_37 : decode cJ5_init_a7421 37 = .ok (.aload_n 0, 1) := by decide +kernel
theorem dJ5_init_a7421_38 : decode cJ5_init_a7421 38 = .ok (.iload 4, 2) := by decide +kernel
theorem dJ5_init_a7421_40 : decode cJ5_init_a7421 40 = .ok (.ifCond .ne 9, 3) := by decide +kernel
theorem dJ5_init_a7421_43 : decode cJ5_init_a7421 43 = .ok (.iload_n 3, 1) := by decide +kernel
theorem dJ5_init_a7421_44 : decode cJ5_init_a7421 44 = .ok (.newarray .byte, 2) := by decide +kernel
theorem dJ5_init_a7421_46 : decode cJ5_init_a7421 46 = .ok (.goto 7, 3) := by decide +kernel
theorem dJ5_init_a7421_49 : decode cJ5_init_a7421 49 = .ok (.iload_n 3, 1) := by decide +kernel
theorem dJ5_init_a7421_50 : decode cJ5_init_a7421 50 = .ok (.invokestatic 26, 3) := by decide +kernel
theorem dJ5_init_a7421_53 : decode cJ5_init_a7421 53 = .ok (.putfield 15, 3) := by decide +kernel
theorem dJ5_init_a7421_56 : decode cJ5_init_a7421 56 = .ok (.aload_n 0, 1) := by decide +kernel
theorem dJ5_init_a7421_57 : decode cJ5_init_a7421 57 = .ok (.aload_n 1, 1) := by decide +kernel
theorem dJ5_init_a7421_58 : decode cJ5_init_a7421 58 = .ok (.invokevirtual 43, 3) := by decide +kernel
theorem dJ5_init_a7421_61 : decode cJ5_init_a7421 61 = .ok (.pop, 1) := by decide +kernel
theorem dJ5_init_a7421_62 : decode cJ5_init_a7421 62 = .ok (.return_, 1) := by decide +kernel
theorem dJ5_length_8abf5_0 : decode cJ5_length_8abf5 0 = .ok (.aload_n 0, 1) := by decide +kernel
theorem dJ5_length_8abf5_1 : decode cJ5_length_8abf5 1 = .ok (.getfield 79, 3) := by decide +kernel
theorem dJ5_length_8abf5_4 : decode cJ5_length_8abf5 4 = .ok (.ireturn, 1) := by decide +kernel
theorem dJ5_ensureCapacityInternal_d00df_0 : decode cJ5_ensureCapacityInternal_d00df 0 = .ok (.aload_n 0, 1) := by decide +kernel
theorem dJ5_ensureCapacityInternal_d00df_1 : decode cJ5_ensureCapacityInternal_d00df 1 = .ok (.getfield 15, 3) := by decide +kernel
theorem dJ5_ensureCapacityInternal_d00df_4 : decode cJ5_ensureCapacityInternal_d00df 4 = .ok (.arraylength, 1) := by decide +kernel
theorem dJ5_ensureCapacityInternal_d00df_5 : decode cJ5_ensureCapacityInternal_d00df 5 = .ok (.aload_n 0, 1) := by decide +kernel
theorem dJ5_ensureCapacityInternal_d00df_6 : decode cJ5_ensureCapacityInternal_d00df 6 = .ok (.getfield 22, 3) := by decide +kernel
theorem dJ5_ensureCapacityInternal_d00df_9 : decode cJ5_ensureCapacityInternal_d00df 9 = .ok (.ishr, 1) := by decide +kernel
theorem dJ5_ensureCapacityInternal_d00df_10 : decode cJ5_ensureCapacityInternal_d00df 10 = .ok (.istore_n 2, 1) := by decide +kernel
theorem dJ5_ensureCapacityInternal_d00df_11 : decode cJ5_ensureCapacityInternal_d00df 11 = .ok (.iload_n 1, 1) := by decide +kernel
theorem dJ5_ensureCapacityInternal_d00df_12 : decode cJ5_ensureCapacityInternal_d00df 12 = .ok (.iload_n 2, 1) := by decide +kernel
theorem dJ5_ensureCapacityInternal_d00df_13 : decode cJ5_ensureCapacityInternal_d00df 13 = .ok (.isub, 1) := by decide +kernel
theorem dJ5_ensureCapacityInternal_d00df_14 : decode cJ5_ensureCapacityInternal_d00df 14 = .ok (.ifCond .le 24, 3) := by decide +kernel
theorem dJ5_ensureCapacityInternal_d00df_17 : decode cJ5_ensureCapacityInternal_d00df 17 = .ok (.aload_n 0, 1) := by decide +kernel
theorem dJ5_ensureCapacityInternal_d00df_18 : decode cJ5_ensureCapacityInternal_d00df 18 = .ok (.aload_n 0, 1) := by decide +kernel
theorem dJ5_ensureCapacityInternal_d00df_19 : decode cJ5_ensureCapacityInternal_d00df 19 = .ok (.getfield 15, 3) := by decide +kernel
theorem dJ5_ensureCapacityInternal_d00df_22 : decode cJ5_ensureCapacityInternal_d00df 22 = .ok (.aload_n 0, 1) := by decide +kernel
theorem dJ5_ensureCapacityInternal_d00df_23 : decode cJ5_ensureCapacityInternal_d00df 23 = .ok (.iload_n 1, 1) := by decide +kernel
theorem dJ5_ensureCapacityInternal_d00df_24 : decode cJ5_ensureCapacityInternal_d00df 24 = .ok (.invokevirtual 104, 3) := by decide +kernel
theorem dJ5_ensureCapacityInternal_d00df_27 : decode cJ5_ensureCapacityInternal_d00df 27 = .ok (.aload_n 0, 1) := by decide +kernel
theorem dJ5_ensureCapacityInternal_d00df_28 : decode cJ5_ensureCapacityInternal_d00df 28 = .ok (.getfield 22, 3) := by decide +kernel
theorem dJ5_ensureCapacityInternal_d00df_31 : decode cJ5_ensureCapacityInternal_d00df 31 = .ok (.ishl, 1) := by decide +kernel
theorem dJ5_ensureCapacityInternal_d00df_32 : decode cJ5_ensureCapacityInternal_d00df 32 = .ok (.invokestatic 108, 3) := by decide +kernel
theorem dJ5_ensureCapacityInternal_d00df_35 : decode cJ5_ensureCapacityInternal_d00df 35 = .ok (.putfield 15, 3) := by decide +kernel
theorem dJ5_ensureCapacityInternal_d00df_38 : decode cJ5_ensureCapacityInternal_d00df 38 = .ok (.return_, 1) := by decide +kernel
theorem dJ5_newCapacity_0f7a4_0 : decode cJ5_newCapacity_0f7a4 0 = .ok (.aload_n 0, 1) := by decide +kernel
theorem dJ5_newCapacity_0f7a4_1 : decode cJ5_newCapacity_0f7a4 1 = .ok (.getfield 15, 3) := by decide +kernel
theorem dJ5_newCapacity_0f7a4_4 : decode cJ5_newCapacity_0f7a4 4 = .ok (.arraylength, 1) := by decide +kernel
theorem dJ5_newCapacity_0f7a4_5 : decode cJ5_newCapacity_0f7a4 5 = .ok (.istore_n 2, 1) := by decide +kernel
theorem dJ5_newCapacity_0f7a4_6 : decode cJ5_newCapacity_0f7a4 6 = .ok (.iload_n 1, 1) := by decide +kernel
theorem dJ5_newCapacity_0f7a4_7 : decode cJ5_newCapacity_0f7a4 7 = .ok (.aload_n 0, 1) := by decide +kernel
theorem dJ5_newCapacity_0f7a4_8 : decode cJ5_newCapacity_0f7a4 8 = .ok (.getfield 22, 3) := by decide +kernel
theorem dJ5_newCapacity_0f7a4_11 : decode cJ5_newCapacity_0f7a4 11 = .ok (.ishl, 1) := by decide +kernel
theorem dJ5_newCapacity_0f7a4_12 : decode cJ5_newCapacity_0f7a4 12 = .ok (.istore_n 3, 1) := by decide +kernel
theorem dJ5_newCapacity_0f7a4_13 : decode cJ5_newCapacity_0f7a4 13 = .ok (.iload_n 3, 1) := by decide +kernel
theorem dJ5_newCapacity_0f7a4_14 : decode cJ5_newCapacity_0f7a4 14 = .ok (.iload_n 2, 1) := by decide +kernel
theorem dJ5_newCapacity_0f7a4_15 : decode cJ5_newCapacity_0f7a4 15 = .ok (.isub, 1) := by decide +kernel
theorem dJ5_newCapacity_0f7a4_16 : decode cJ5_newCapacity_0f7a4 16 = .ok (.istore 4, 2) := by decide +kernel
theorem dJ5_newCapacity_0f7a4_18 : decode cJ5_newCapacity_0f7a4 18 = .ok (.iload_n 2, 1) := by decide +kernel
theorem dJ5_newCapacity_0f7a4_19 : decode cJ5_newCapacity_0f7a4 19 = .ok (.iload 4, 2) := by decide +kernel
theorem dJ5_newCapacity_0f7a4_21 : decode cJ5_newCapacity_0f7a4 21 = .ok (.iload_n 2, 1) := by decide +kernel
theorem dJ5_newCapacity_0f7a4_22 : decode cJ5_newCapacity_0f7a4 22 = .ok (.iconst 2, 1) := by decide +kernel
theorem dJ5_newCapacity_0f7a4_23 : decode cJ5_newCapacity_0f7a4 23 = .ok (.aload_n 0, 1) := by decide +kernel
theorem dJ5_newCapacity_0f7a4_24 : decode cJ5_newCapacity_0f7a4 24 = .ok (.getfield 22, 3) := by decide +kernel
theorem dJ5_newCapacity_0f7a4_27 : decode cJ5_newCapacity_0f7a4 27 = .ok (.ishl, 1) := by decide +kernel
theorem dJ5_newCapacity_0f7a4_28 : decode cJ5_newCapacity_0f7a4 28 = .ok (.iadd, 1) := by decide +kernel
theorem dJ5_newCapacity_0f7a4_29 : decode cJ5_newCapacity_0f7a4 29 = .ok (.invokestatic 114, 3) := by decide +kernel
theorem dJ5_newCapacity_0f7a4_32 : decode cJ5_newCapacity_0f7a4 32 = .ok (.istore 5, 2) := by decide +kernel
theorem dJ5_newCapacity_0f7a4_34 : decode cJ5_newCapacity_0f7a4 34 = .ok (.iload 5, 2) := by decide +kernel
theorem dJ5_newCapacity_0f7a4_36 : decode cJ5_newCapacity_0f7a4 36 = .ok (.ldc 39, 2) := by decide +kernel
theorem dJ5_newCapacity_0f7a4_38 : decode cJ5_newCapacity_0f7a4 38 = .ok (.if_icmp .ne 13, 3) := by decide +kernel
theorem dJ5_newCapacity_0f7a4_41 : decode cJ5_newCapacity_0f7a4 41 = .ok (.new 120, 3) := by decide +kernel
theorem dJ5_newCapacity_0f7a4_44 : decode cJ5_newCapacity_0f7a4 44 = .ok (.dup, 1) := by decide +kernel
theorem dJ5_newCapacity_0f7a4_45 : decode cJ5_newCapacity_0f7a4 45 = .ok (.ldc 122, 2) := by decide +kernel
theorem dJ5_newCapacity_0f7a4_47 : decode cJ5_newCapacity_0f7a4 47 = .ok (.invokespecial 124, 3) := by decide +kernel
theorem dJ5_newCapacity_0f7a4_50 : decode cJ5_newCapacity_0f7a4 50 = .ok (.athrow, 1) := by decide +kernel
theorem dJ5_newCapacity_0f7a4_51 : decode cJ5_newCapacity_0f7a4 51 = .ok (.iload 5, 2) := by decide +kernel
theorem dJ5_newCapacity_0f7a4_53 : decode cJ5_newCapacity_0f7a4 53 = .ok (.aload_n 0, 1) := by decide +kernel
theorem dJ5_newCapacity_0f7a4_54 : decode cJ5_newCapacity_0f7a4 54 = .ok (.getfield 22, 3) := by decide +kernel
theorem dJ5_newCapacity_0f7a4_57 : decode cJ5_newCapacity_0f7a4 57 = .ok (.ishr, 1) := by decide +kernel
theorem dJ5_newCapacity_0f7a4_58 : decode cJ5_newCapacity_0f7a4 58 = .ok (.ireturn, 1) := by decide +kernel
theorem dJ5_append_cf1ce_0 : decode cJ5_append_cf1ce 0 = .ok (.aload_n 1, 1) := by decide +kernel
theorem dJ5_append_cf1ce_1 : decode cJ5_append_cf1ce 1 = .ok (.ifnonnull 8, 3) := by decide +kernel
theorem dJ5_append_cf1ce_4 : decode cJ5_append_cf1ce 4 = .ok (.aload_n 0, 1) := by decide +kernel
theorem dJ5_append_cf1ce_5 : decode cJ5_append_cf1ce 5 = .ok (.invokevirtual 204, 3) := by decide +kernel
theorem dJ5_append_cf1ce_8 : decode cJ5_append_cf1ce 8 = .ok (.areturn, 1) := by decide +kernel
theorem dJ5_append_cf1ce_9 : decode cJ5_append_cf1ce 9 = .ok (.aload_n 1, 1) := by decide +kernel
theorem dJ5_append_cf1ce_10 : decode cJ5_append_cf1ce 10 = .ok (.invokevirtual 32, 3) := by decide +kernel
theorem dJ5_append_cf1ce_13 : decode cJ5_append_cf1ce 13 = .ok (.istore_n 2, 1) := by decide +kernel
theorem dJ5_append_cf1ce_14 : decode cJ5_append_cf1ce 14 = .ok (.aload_n 0, 1) := by decide +kernel
theorem dJ5_append_cf1ce_15 : decode cJ5_append_cf1ce 15 = .ok (.aload_n 0, 1) := by decide +kernel
theorem dJ5_append_cf1ce_16 : decode cJ5_append_cf1ce 16 = .ok (.getfield 79, 3) := by decide +kernel
theorem dJ5_append_cf1ce_19 : decode cJ5_append_cf1ce 19 = .ok (.iload_n 2, 1) := by decide +kernel
theorem dJ5_append_cf1ce_20 : decode cJ5_append_cf1ce 20 = .ok (.iadd, 1) := by decide +kernel
theorem dJ5_append_cf1ce_21 : decode cJ5_append_cf1ce 21 = .ok (.invokevirtual 100, 3) := by decide +kernel
theorem dJ5_append_cf1ce_24 : decode cJ5_append_cf1ce 24 = .ok (.aload_n 0, 1) := by decide +kernel
theorem dJ5_append_cf1ce_25 : decode cJ5_append_cf1ce 25 = .ok (.aload_n 0, 1) := by decide +kernel
theorem dJ5_append_cf1ce_26 : decode cJ5_append_cf1ce 26 = .ok (.getfield 79, 3) := by decide +kernel
theorem dJ5_append_cf1ce_29 : decode cJ5_append_cf1ce 29 = .ok (.aload_n 1, 1) := by decide +kernel
theorem dJ5_append_cf1ce_30 : decode cJ5_append_cf1ce 30 = .ok (.invokevirtual 208, 3) := by decide +kernel
theorem dJ5_append_cf1ce_33 : decode cJ5_append_cf1ce 33 = .ok (.aload_n 0, 1) := by decide +kernel
theorem dJ5_append_cf1ce_34 : decode cJ5_append_cf1ce 34 = .ok (.dup, 1) := by decide +kernel
theorem dJ5_append_cf1ce_35 : decode cJ5_append_cf1ce 35 = .ok (.getfield 79, 3) := by decide +kernel
theorem dJ5_append_cf1ce_38 : decode cJ5_append_cf1ce 38 = .ok (.iload_n 2, 1) := by decide +kernel
theorem dJ5_append_cf1ce_39 : decode cJ5_append_cf1ce 39 = .ok (.iadd, 1) := by decide +kernel
theorem dJ5_append_cf1ce_40 : decode cJ5_append_cf1ce 40 = .ok (.putfield 79, 3) := by decide +kernel
theorem dJ5_append_cf1ce_43 : decode cJ5_append_cf1ce 43 = .ok (.aload_n 0, 1) := by decide +kernel
theorem dJ5_append_cf1ce_44 : decode cJ5_append_cf1ce 44 = .ok (.areturn, 1) := by decide +kernel
theorem dJ5_append_3fe6f_0 : decode cJ5_append_3fe6f 0 = .ok (.aload_n 0, 1) := by decide +kernel
theorem dJ5_append_3fe6f_1 : decode cJ5_append_3fe6f 1 = .ok (.aload_n 0, 1) := by decide +kernel
theorem dJ5_append_3fe6f_2 : decode cJ5_append_3fe6f 2 = .ok (.getfield 79, 3) := by decide +kernel
theorem dJ5_append_3fe6f_5 : decode cJ5_append_3fe6f 5 = .ok (.iconst 1, 1) := by decide +kernel
theorem dJ5_append_3fe6f_6 : decode cJ5_append_3fe6f 6 = .ok (.iadd, 1) := by decide +kernel
theorem dJ5_append_3fe6f_7 : decode cJ5_append_3fe6f 7 = .ok (.invokevirtual 100, 3) := by decide +kernel
theorem dJ5_append_3fe6f_10 : decode cJ5_append_3fe6f 10 = .ok (.aload_n 0, 1) := by decide +kernel
theorem dJ5_append_3fe6f_11 : decode cJ5_append_3fe6f 11 = .ok (.invokevirtual 83, 3) := by decide +kernel
theorem dJ5_append_3fe6f_14 : decode cJ5_append_3fe6f 14 = .ok (.ifCond .eq 31, 3) := by decide +kernel
theorem dJ5_append_3fe6f_17 : decode cJ5_append_3fe6f 17 = .ok (.iload_n 1, 1) := by decide +kernel
theorem dJ5_append_3fe6f_18 : decode cJ5_append_3fe6f 18 = .ok (.invokestatic 191, 3) := by decide +kernel
theorem dJ5_append_3fe6f_21 : decode cJ5_append_3fe6f 21 = .ok (.ifCond .eq 24, 3) := by decide +kernel
theorem dJ5_append_3fe6f_24 : decode cJ5_append_3fe6f 24 = .ok (.aload_n 0, 1) := by decide +kernel
theorem dJ5_append_3fe6f_25 : decode cJ5_append_3fe6f 25 = .ok (.getfield 15, 3) := by decide +kernel
theorem dJ5_append_3fe6f_28 : decode cJ5_append_3fe6f 28 = .ok (.aload_n 0, 1) := by decide +kernel
theorem dJ5_append_3fe6f_29 : decode cJ5_append_3fe6f 29 = .ok (.dup, 1) := by decide +kernel
theorem dJ5_append_3fe6f_30 : decode cJ5_append_3fe6f 30 = .ok (.getfield 79, 3) := by decide +kernel
theorem dJ5_append_3fe6f_33 : decode cJ5_append_3fe6f 33 = .ok (.dup_x1, 1) := by decide +kernel
theorem dJ5_append_3fe6f_34 : decode cJ5_append_3fe6f 34 = .ok (.iconst 1, 1) := by decide +kernel
theorem dJ5_append_3fe6f_35 : decode cJ5_append_3fe6f 35 = .ok (.iadd, 1) := by decide +kernel
theorem dJ5_append_3fe6f_36 : decode cJ5_append_3fe6f 36 = .ok (.putfield 79, 3) := by decide +kernel
theorem dJ5_append_3fe6f_39 : decode cJ5_append_3fe6f 39 = .ok (.iload_n 1, 1) := by decide +kernel
theorem dJ5_append_3fe6f_40 : decode cJ5_append_3fe6f 40 = .ok (.i2b, 1) := by decide +kernel
theorem dJ5_append_3fe6f_41 : decode cJ5_append_3fe6f 41 = .ok (.bastore, 1) := by decide +kernel
theorem dJ5_append_3fe6f_42 : decode cJ5_append_3fe6f 42 = .ok (.goto 33, 3) := by decide +kernel
theorem dJ5_append_3fe6f_45 : decode cJ5_append_3fe6f 45 = .ok (.aload_n 0, 1) := by decide +kernel
theorem dJ5_append_3fe6f_46 : decode cJ5_append_3fe6f 46 = .ok (.invokevirtual 83, 3) := by decide +kernel
theorem dJ5_append_3fe6f_49 : decode cJ5_append_3fe6f 49 = .ok (.ifCond .eq 7, 3) := by decide +kernel
theorem dJ5_append_3fe6f_52 : decode cJ5_append_3fe6f 52 = .ok (.aload_n 0, 1) := by decide +kernel
theorem dJ5_append_3fe6f_53 : decode cJ5_append_3fe6f 53 = .ok (.invokevirtual 195, 3) := by decide +kernel
theorem dJ5_append_3fe6f_56 : decode cJ5_append_3fe6f 56 = .ok (.aload_n 0, 1) := by decide +kernel
theorem dJ5_append_3fe6f_57 : decode cJ5_append_3fe6f 57 = .ok (.getfield 15, 3) := by decide +kernel
theorem dJ5_append_3fe6f_60 : decode cJ5_append_3fe6f 60 = .ok (.aload_n 0, 1) := by decide +kernel
theorem dJ5_append_3fe6f_61 : decode cJ5_append_3fe6f 61 = .ok (.dup, 1) := by decide +kernel
theorem dJ5_append_3fe6f_62 : decode cJ5_append_3fe6f 62 = .ok (.getfield 79, 3) := by decide +kernel
theorem dJ5_append_3fe6f_65 : decode cJ5_append_3fe6f 65 = .ok (.dup_x1, 1) := by decide +kernel
theorem dJ5_append_3fe6f_66 : decode cJ5_append_3fe6f 66 = .ok (.iconst 1, 1) := by decide +kernel
theorem dJ5_append_3fe6f_67 : decode cJ5_append_3fe6f 67 = .ok (.iadd, 1) := by decide +kernel
theorem dJ5_append_3fe6f_68 : decode cJ5_append_3fe6f 68 = .ok (.putfield 79, 3) := by decide +kernel
theorem dJ5_append_3fe6f_71 : decode cJ5_append_3fe6f 71 = .ok (.iload_n 1, 1) := by decide +kernel
theorem dJ5_append_3fe6f_72 : decode cJ5_append_3fe6f 72 = .ok (.invokestatic 197, 3) := by decide +kernel
theorem dJ5_append_3fe6f_75 : decode cJ5_append_3fe6f 75 = .ok (.aload_n 0, 1) := by decide +kernel
theorem dJ5_append_3fe6f_76 : decode cJ5_append_3fe6f 76 = .ok (.areturn, 1) := by decide +kernel
theorem dJ5_append_c97b9_0 : decode cJ5_append_c97b9 0 = .ok (.aload_n 0, 1) := by decide +kernel
theorem dJ5_append_c97b9_1 : decode cJ5_append_c97b9 1 = .ok (.getfield 79, 3) := by decide +kernel
theorem dJ5_append_c97b9_4 : decode cJ5_append_c97b9 4 = .ok (.istore_n 2, 1) := by decide +kernel
theorem dJ5_append_c97b9_5 : decode cJ5_append_c97b9 5 = .ok (.iload_n 2, 1) := by decide +kernel
theorem dJ5_append_c97b9_6 : decode cJ5_append_c97b9 6 = .ok (.iload_n 1, 1) := by decide +kernel
theorem dJ5_append_c97b9_7 : decode cJ5_append_c97b9 7 = .ok (.invokestatic 245, 3) := by decide +kernel
theorem dJ5_append_c97b9_10 : decode cJ5_append_c97b9 10 = .ok (.iadd, 1) := by decide +kernel
theorem dJ5_append_c97b9_11 : decode cJ5_append_c97b9 11 = .ok (.istore_n 3, 1) := by decide +kernel
theorem dJ5_append_c97b9_12 : decode cJ5_append_c97b9 12 = .ok (.aload_n 0, 1) := by decide +kernel
theorem dJ5_append_c97b9_13 : decode cJ5_append_c97b9 13 = .ok (.iload_n 3, 1) := by decide +kernel
theorem dJ5_append_c97b9_14 : decode cJ5_append_c97b9 14 = .ok (.invokevirtual 100, 3) := by decide +kernel
theorem dJ5_append_c97b9_17 : decode cJ5_append_c97b9 17 = .ok (.aload_n 0, 1) := by decide +kernel
theorem dJ5_append_c97b9_18 : decode cJ5_append_c97b9 18 = .ok (.invokevirtual 83, 3) := by decide +kernel
theorem dJ5_append_c97b9_21 : decode cJ5_append_c97b9 21 = .ok (.ifCond .eq 16, 3) := by decide +kernel
theorem dJ5_append_c97b9_24 : decode cJ5_append_c97b9 24 = .ok (.iload_n 1, 1) := by decide +kernel
theorem dJ5_append_c97b9_25 : decode cJ5_append_c97b9 25 = .ok (.iload_n 3, 1) := by decide +kernel
theorem dJ5_append_c97b9_26 : decode cJ5_append_c97b9 26 = .ok (.aload_n 0, 1) := by decide +kernel
theorem dJ5_append_c97b9_27 : decode cJ5_append_c97b9 27 = .ok (.getfield 15, 3) := by decide +kernel
theorem dJ5_append_c97b9_30 : decode cJ5_append_c97b9 30 = .ok (.invokestatic 248, 3) := by decide +kernel
theorem dJ5_append_c97b9_33 : decode cJ5_append_c97b9 33 = .ok (.pop, 1) := by decide +kernel
theorem dJ5_append_c97b9_34 : decode cJ5_append_c97b9 34 = .ok (.goto 14, 3) := by decide +kernel
theorem dJ5_append_c97b9_37 : decode cJ5_append_c97b9 37 = .ok (.iload_n 1, 1) := by decide +kernel
theorem dJ5_append_c97b9_38 : decode cJ5_append_c97b9 38 = .ok (.iload_n 2, 1) := by decide +kernel
theorem dJ5_append_c97b9_39 : decode cJ5_append_c97b9 39 = .ok (.iload_n 3, 1) := by decide +kernel
theorem dJ5_append_c97b9_40 : decode cJ5_append_c97b9 40 = .ok (.aload_n 0, 1) := by decide +kernel
theorem dJ5_append_c97b9_41 : decode cJ5_append_c97b9 41 = .ok (.getfield 15, 3) := by decide +kernel
theorem dJ5_append_c97b9_44 : decode cJ5_append_c97b9 44 = .ok (.invokestatic 251, 3) := by decide +kernel
theorem dJ5_append_c97b9_47 : decode cJ5_append_c97b9 47 = .ok (.pop, 1) := by decide +kernel
theorem dJ5_append_c97b9_48 : decode cJ5_append_c97b9 48 = .ok (.aload_n 0, 1) := by decide +kernel
theorem dJ5_append_c97b9_49 : decode cJ5_append_c97b9 49 = .ok (.iload_n 3, 1) := by decide +kernel
theorem dJ5_append_c97b9_50 : decode cJ5_append_c97b9 50 = .ok (.putfield 79, 3) := by decide +kernel
theorem dJ5_append_c97b9_53 : decode cJ5_append_c97b9 53 = .ok (.aload_n 0, 1) := by decide +kernel
theorem dJ5_append_c97b9_54 : decode cJ5_append_c97b9 54 = .ok (.areturn, 1) := by decide +kernel
theorem dJ5_getValue_6d5f1_0 : decode cJ5_getValue_6d5f1 0 = .ok (.aload_n 0, 1) := by decide +kernel
theorem dJ5_getValue_6d5f1_1 : decode cJ5_getValue_6d5f1 1 = .ok (.getfield 15, 3) := by decide +kernel
theorem dJ5_getValue_6d5f1_4 : decode cJ5_getValue_6d5f1 4 = .ok (.areturn, 1) := by decide +kernel
theorem dJ5_isLatin1_aae02_0 : decode cJ5_isLatin1_aae02 0 = .ok (.getstatic 18, 3) := by decide +kernel
theorem dJ5_isLatin1_aae02_3 : decode cJ5_isLatin1_aae02 3 = .ok (.ifCond .eq 14, 3) := by decide +kernel
theorem dJ5_isLatin1_aae02_6 : decode cJ5_isLatin1_aae02 6 = .ok (.aload_n 0, 1) := by decide +kernel
theorem dJ5_isLatin1_aae02_7 : decode cJ5_isLatin1_aae02 7 = .ok (.getfield 22, 3) := by decide +kernel
theorem dJ5_isLatin1_aae02_10 : decode cJ5_isLatin1_aae02 10 = .ok (.ifCond .ne 7, 3) := by decide +kernel
theorem dJ5_isLatin1_aae02_13 : decode cJ5_isLatin1_aae02 13 = .ok (.iconst 1, 1) := by decide +kernel
theorem dJ5_isLatin1_aae02_14 : decode cJ5_isLatin1_aae02 14 = .ok (.goto 4, 3) := by decide +kernel
theorem dJ5_isLatin1_aae02_17 : decode cJ5_isLatin1_aae02 17 = .ok (.iconst 0, 1) := by decide +kernel
theorem dJ5_isLatin1_aae02_18 : decode cJ5_isLatin1_aae02 18 = .ok (.ireturn, 1) := by decide +kernel
theorem dJ5_inflateIfNeededFor_a7421_0 : decode cJ5_inflateIfNeededFor_a7421 0 = .ok (.getstatic 18, 3) := by decide +kernel
theorem dJ5_inflateIfNeededFor_a7421_3 : decode cJ5_inflateIfNeededFor_a7421 3 = .ok (.ifCond .eq 18, 3) := by decide +kernel
theorem dJ5_inflateIfNeededFor_a7421_6 : decode cJ5_inflateIfNeededFor_a7421 6 = .ok (.aload_n 0, 1) := by decide +kernel
theorem dJ5_inflateIfNeededFor_a7421_7 : decode cJ5_inflateIfNeededFor_a7421 7 = .ok (.getfield 22, 3) := by decide +kernel
theorem dJ5_inflateIfNeededFor_a7421_10 : decode cJ5_inflateIfNeededFor_a7421 10 = .ok (.aload_n 1, 1) := by decide +kernel
theorem dJ5_inflateIfNeededFor_a7421_11 : decode cJ5_inflateIfNeededFor_a7421 11 = .ok (.invokevirtual 40, 3) := by decide +kernel
theorem dJ5_inflateIfNeededFor_a7421_14 : decode cJ5_inflateIfNeededFor_a7421 14 = .ok (.if_icmp .eq 7, 3) := by decide +kernel
theorem dJ5_inflateIfNeededFor_a7421_17 : decode cJ5_inflateIfNeededFor_a7421 17 = .ok (.aload_n 0, 1) := by decide +kernel
theorem dJ5_inflateIfNeededFor_a7421_18 : decode cJ5_inflateIfNeededFor_a7421 18 = .ok (.invokevirtual 195, 3) := by decide +kernel
theorem dJ5_inflateIfNeededFor_a7421_21 : decode cJ5_inflateIfNeededFor_a7421 21 = .ok (.return_, 1) := by decide +kernel
theorem dJ5_putStringAt_47b60_0 : decode cJ5_putStringAt_47b60 0 = .ok (.aload_n 0, 1) := by decide +kernel
theorem dJ5_putStringAt_47b60_1 : decode cJ5_putStringAt_47b60 1 = .ok (.aload_n 2, 1) := by decide +kernel
theorem dJ5_putStringAt_47b60_2 : decode cJ5_putStringAt_47b60 2 = .ok (.invokevirtual 397, 3) := by decide +kernel
theorem dJ5_putStringAt_47b60_5 : decode cJ5_putStringAt_47b60 5 = .ok (.aload_n 2, 1) := by decide +kernel
theorem dJ5_putStringAt_47b60_6 : decode cJ5_putStringAt_47b60 6 = .ok (.aload_n 0, 1) := by decide +kernel
theorem dJ5_putStringAt_47b60_7 : decode cJ5_putStringAt_47b60 7 = .ok (.getfield 15, 3) := by decide +kernel
theorem dJ5_putStringAt_47b60_10 : decode cJ5_putStringAt_47b60 10 = .ok (.iload_n 1, 1) := by decide +kernel
theorem dJ5_putStringAt_47b60_11 : decode cJ5_putStringAt_47b60 11 = .ok (.aload_n 0, 1) := by decide +kernel
theorem dJ5_putStringAt_47b60_12 : decode cJ5_putStringAt_47b60 12 = .ok (.getfield 22, 3) := by decide +kernel
theorem dJ5_putStringAt_47b60_15 : decode cJ5_putStringAt_47b60 15 = .ok (.invokevirtual 399, 3) := by decide +kernel
theorem dJ5_putStringAt_47b60_18 : decode cJ5_putStringAt_47b60 18 = .ok (.return_, 1) := by decide +kernel
theorem dJx29ce0_ordinal_8abf5_0 : decode cJx29ce0_ordinal_8abf5 0 = .ok (.aload_n 0, 1) := by decide +kernel
theorem dJx29ce0_ordinal_8abf5_1 : decode cJx29ce0_ordinal_8abf5 1 = .ok (.getfield 7, 3) := by decide +kernel
theorem dJx29ce0_ordinal_8abf5_4 : decode cJx29ce0_ordinal_8abf5 4 = .ok (.ireturn, 1) := by decide +kernel
theorem dJ6_getChars_ba4f3_0 : decode cJ6_getChars_ba4f3 0 = .ok (.iload_n 1, 1) := by decide +kernel
theorem dJ6_getChars_ba4f3_1 : decode cJ6_getChars_ba4f3 1 = .ok (.istore 5, 2) := by decide +kernel
theorem dJ6_getChars_ba4f3_3 : decode cJ6_getChars_ba4f3 3 = .ok (.iload_n 0, 1) := by decide +kernel
theorem dJ6_getChars_ba4f3_4 : decode cJ6_getChars_ba4f3 4 = .ok (.ifCond .ge 7, 3) := by decide +kernel
theorem dJ6_getChars_ba4f3_7 : decode cJ6_getChars_ba4f3 7 = .ok (.iconst 1, 1) := by decide +kernel
theorem dJ6_getChars_ba4f3_8 : decode cJ6_getChars_ba4f3 8 = .ok (.goto 4, 3) := by decide +kernel
theorem dJ6_getChars_ba4f3_11 : decode cJ6_getChars_ba4f3 11 = .ok (.iconst 0, 1) := by decide +kernel
theorem dJ6_getChars_ba4f3_12 : decode cJ6_getChars_ba4f3 12 = .ok (.istore 6, 2) := by decide +kernel
theorem dJ6_getChars_ba4f3_14 : decode cJ6_getChars_ba4f3 14 = .ok (.iload 6, 2) := by decide +kernel
theorem dJ6_getChars_ba4f3_16 : decode cJ6_getChars_ba4f3 16 = .ok (.ifCond .ne 6, 3) := by decide +kernel
theorem dJ6_getChars_ba4f3_19 : decode cJ6_getChars_ba4f3 19 = .ok (.iload_n 0, 1) := by decide +kernel
theorem dJ6_getChars_ba4f3_20 : decode cJ6_getChars_ba4f3 20 = .ok (.ineg, 1) := by decide +kernel
theorem dJ6_getChars_ba4f3_21 : decode cJ6_getChars_ba4f3 21 = .ok (.istore_n 0, 1) := by decide +kernel
theorem dJ6_getChars_ba4f3_22 : decode cJ6_getChars_ba4f3 22 = .ok (.iload_n 0, 1) := by decide +kernel
theorem dJ6_getChars_ba4f3_23 : decode cJ6_getChars_ba4f3 23 = .ok (.bipush (-100), 2) := by decide +kernel
theorem dJ6_getChars_ba4f3_25 : decode cJ6_getChars_ba4f3 25 = .ok (.if_icmp .gt 47, 3) := by decide +kernel
theorem dJ6_getChars_ba4f3_28 : decode cJ6_getChars_ba4f3 28 = .ok (.iload_n 0, 1) := by decide +kernel
theorem dJ6_getChars_ba4f3_29 : decode cJ6_getChars_ba4f3 29 = .ok (.bipush 100, 2) := by decide +kernel
theorem dJ6_getChars_ba4f3_31 : decode cJ6_getChars_ba4f3 31 = .ok (.idiv, 1) := by decide +kernel
theorem dJ6_getChars_ba4f3_32 : decode cJ6_getChars_ba4f3 32 = .ok (.istore_n 3, 1) := by decide +kernel
theorem dJ6_getChars_ba4f3_33 : decode cJ6_getChars_ba4f3 33 = .ok (.iload_n 3, 1) := by decide +kernel
theorem dJ6_getChars_ba4f3_34 : decode cJ6_getChars_ba4f3 34 = .ok (.bipush 100, 2) := by decide +kernel
theorem dJ6_getChars_ba4f3_36 : decode cJ6_getChars_ba4f3 36 = .ok (.imul, 1) := by decide +kernel
theorem dJ6_getChars_ba4f3_37 : decode cJ6_getChars_ba4f3 37 = .ok (.iload_n 0, 1) := by decide +kernel
theorem dJ6_getChars_ba4f3_38 : decode cJ6_getChars_ba4f3 38 = .ok (.isub, 1) := by decide +kernel
theorem dJ6_getChars_ba4f3_39 : decode cJ6_getChars_ba4f3 39 = .ok (.istore 4, 2) := by decide +kernel
theorem dJ6_getChars_ba4f3_41 : decode cJ6_getChars_ba4f3 41 = .ok (.iload_n 3, 1) := by decide +kernel
theorem dJ6_getChars_ba4f3_42 : decode cJ6_getChars_ba4f3 42 = .ok (.istore_n 0, 1) := by decide +kernel
theorem dJ6_getChars_ba4f3_43 : decode cJ6_getChars_ba4f3 43 = .ok (.aload_n 2, 1) := by decide +kernel
theorem dJ6_getChars_ba4f3_44 : decode cJ6_getChars_ba4f3 44 = .ok (.iinc 5 (-1), 3) := by decide +kernel
theorem dJ6_getChars_ba4f3_47 : decode cJ6_getChars_ba4f3 47 = .ok (.iload 5, 2) := by decide +kernel
theorem dJ6_getChars_ba4f3_49 : decode cJ6_getChars_ba4f3 49 = .ok (.getstatic 83, 3) := by decide +kernel
theorem dJ6_getChars_ba4f3_52 : decode cJ6_getChars_ba4f3 52 = .ok (.iload 4, 2) := by decide +kernel
theorem dJ6_getChars_ba4f3_54 : decode cJ6_getChars_ba4f3 54 = .ok (.baload, 1) := by decide +kernel
theorem dJ6_getChars_ba4f3_55 : decode cJ6_getChars_ba4f3 55 = .ok (.bastore, 1) := by decide +kernel
theorem dJ6_getChars_ba4f3_56 : decode cJ6_getChars_ba4f3 56 = .ok (.aload_n 2, 1) := by decide +kernel
theorem dJ6_getChars_ba4f3_57 : decode cJ6_getChars_ba4f3 57 = .ok (.iinc 5 (-1), 3) := by decide +kernel
theorem dJ6_getChars_ba4f3_60 : decode cJ6_getChars_ba4f3 60 = .ok (.iload 5, 2) := by decide +kernel
theorem dJ6_getChars_ba4f3_62 : decode cJ6_getChars_ba4f3 62 = .ok (.getstatic 87, 3) := by decide +kernel
theorem dJ6_getChars_ba4f3_65 : decode cJ6_getChars_ba4f3 65 = .ok (.iload 4, 2) := by decide +kernel
theorem dJ6_getChars_ba4f3_67 : decode cJ6_getChars_ba4f3 67 = .ok (.baload, 1) := by decide +kernel
theorem dJ6_getChars_ba4f3_68 : decode cJ6_getChars_ba4f3 68 = .ok (.bastore, 1) := by decide +kernel
theorem dJ6_getChars_ba4f3_69 : decode cJ6_getChars_ba4f3 69 = .ok (.goto (-47), 3) := by decide +kernel
theorem dJ6_getChars_ba4f3_72 : decode cJ6_getChars_ba4f3 72 = .ok (.aload_n 2, 1) := by decide +kernel
theorem dJ6_getChars_ba4f3_73 : decode cJ6_getChars_ba4f3 73 = .ok (.iinc 5 (-1), 3) := by decide +kernel
theorem dJ6_getChars_ba4f3_76 : decode cJ6_getChars_ba4f3 76 = .ok (.iload 5, 2) := by decide +kernel
theorem dJ6_getChars_ba4f3_78 : decode cJ6_getChars_ba4f3 78 = .ok (.getstatic 83, 3) := by decide +kernel
theorem dJ6_getChars_ba4f3_81 : decode cJ6_getChars_ba4f3 81 = .ok (.iload_n 0, 1) := by decide +kernel
theorem dJ6_getChars_ba4f3_82 : decode cJ6_getChars_ba4f3 82 = .ok (.ineg, 1) := by decide +kernel
theorem dJ6_getChars_ba4f3_83 : decode cJ6_getChars_ba4f3 83 = .ok (.baload, 1) := by decide +kernel
theorem dJ6_getChars_ba4f3_84 : decode cJ6_getChars_ba4f3 84 = .ok (.bastore, 1) := by decide +kernel
theorem dJ6_getChars_ba4f3_85 : decode cJ6_getChars_ba4f3 85 = .ok (.iload_n 0, 1) := by decide +kernel
theorem dJ6_getChars_ba4f3_86 : decode cJ6_getChars_ba4f3 86 = .ok (.bipush (-9), 2) := by decide +kernel
theorem dJ6_getChars_ba4f3_88 : decode cJ6_getChars_ba4f3 88 = .ok (.if_icmp .ge 16, 3) := by decide +kernel
theorem dJ6_getChars_ba4f3_91 : decode cJ6_getChars_ba4f3 91 = .ok (.aload_n 2, 1) := by decide +kernel
theorem dJ6_getChars_ba4f3_92 : decode cJ6_getChars_ba4f3 92 = .ok (.iinc 5 (-1), 3) := by decide +kernel
theorem dJ6_getChars_ba4f3_95 : decode cJ6_getChars_ba4f3 95 = .ok (.iload 5, 2) := by decide +kernel
theorem dJ6_getChars_ba4f3_97 : decode cJ6_getChars_ba4f3 97 = .ok (.getstatic 87, 3) := by decide +kernel
theorem dJ6_getChars_ba4f3_100 : decode cJ6_getChars_ba4f3 100 = .ok (.iload_n 0, 1) := by decide +kernel
theorem dJ6_getChars_ba4f3_101 : decode cJ6_getChars_ba4f3 101 = .ok (.ineg, 1) := by decide +kernel
theorem dJ6_getChars_ba4f3_102 : decode cJ6_getChars_ba4f3 102 = .ok (.baload, 1) := by decide +kernel
theorem dJ6_getChars_ba4f3_103 : decode cJ6_getChars_ba4f3 103 = .ok (.bastore, 1) := by decide +kernel
theorem dJ6_getChars_ba4f3_104 : decode cJ6_getChars_ba4f3 104 = .ok (.iload 6, 2) := by decide +kernel
theorem dJ6_getChars_ba4f3_106 : decode cJ6_getChars_ba4f3 106 = .ok (.ifCond .eq 12, 3) := by decide +kernel
theorem dJ6_getChars_ba4f3_109 : decode cJ6_getChars_ba4f3 109 = .ok (.aload_n 2, 1) := by decide +kernel
theorem dJ6_getChars_ba4f3_110 : decode cJ6_getChars_ba4f3 110 = .ok (.iinc 5 (-1), 3) := by decide +kernel
theorem dJ6_getChars_ba4f3_113 : decode cJ6_getChars_ba4f3 113 = .ok (.iload 5, 2) := by decide +kernel
theorem dJ6_getChars_ba4f3_115 : decode cJ6_getChars_ba4f3 115 = .ok (.bipush 45, 2) := by decide +kernel
theorem dJ6_getChars_ba4f3_117 : decode cJ6_getChars_ba4f3 117 = .ok (.bastore, 1) := by decide +kernel
theorem dJ6_getChars_ba4f3_118 : decode cJ6_getChars_ba4f3 118 = .ok (.iload 5, 2) := by decide +kernel
theorem dJ6_getChars_ba4f3_120 : decode cJ6_getChars_ba4f3 120 = .ok (.ireturn, 1) := by decide +kernel
theorem dJ6_stringSize_0f7a4_0 : decode cJ6_stringSize_0f7a4 0 = .ok (.iconst 1, 1) := by decide +kernel
theorem dJ6_stringSize_0f7a4_1 : decode cJ6_stringSize_0f7a4 1 = .ok (.istore_n 1, 1) := by decide +kernel
theorem dJ6_stringSize_0f7a4_2 : decode cJ6_stringSize_0f7a4 2 = .ok (.iload_n 0, 1) := by decide +kernel
theorem dJ6_stringSize_0f7a4_3 : decode cJ6_stringSize_0f7a4 3 = .ok (.ifCond .lt 8, 3) := by decide +kernel
theorem dJ6_stringSize_0f7a4_6 : decode cJ6_stringSize_0f7a4 6 = .ok (.iconst 0, 1) := by decide +kernel
theorem dJ6_stringSize_0f7a4_7 : decode cJ6_stringSize_0f7a4 7 = .ok (.istore_n 1, 1) := by decide +kernel
theorem dJ6_stringSize_0f7a4_8 : decode cJ6_stringSize_0f7a4 8 = .ok (.iload_n 0, 1) := by decide +kernel
theorem dJ6_stringSize_0f7a4_9 : decode cJ6_stringSize_0f7a4 9 = .ok (.ineg, 1) := by decide +kernel
theorem dJ6_stringSize_0f7a4_10 : decode cJ6_stringSize_0f7a4 10 = .ok (.istore_n 0, 1) := by decide +kernel
theorem dJ6_stringSize_0f7a4_11 : decode cJ6_stringSize_0f7a4 11 = .ok (.bipush (-10), 2) := by decide +kernel
theorem dJ6_stringSize_0f7a4_13 : decode cJ6_stringSize_0f7a4 13 = .ok (.istore_n 2, 1) := by decide +kernel
theorem dJ6_stringSize_0f7a4_14 : decode cJ6_stringSize_0f7a4 14 = .ok (.iconst 1, 1) := by decide +kernel
theorem dJ6_stringSize_0f7a4_15 : decode cJ6_stringSize_0f7a4 15 = .ok (.istore_n 3, 1) := by decide +kernel
theorem dJ6_stringSize_0f7a4_16 : decode cJ6_stringSize_0f7a4 16 = .ok (.iload_n 3, 1) := by decide +kernel
theorem dJ6_stringSize_0f7a4_17 : decode cJ6_stringSize_0f7a4 17 = .ok (.bipush 10, 2) := by decide +kernel
theorem dJ6_stringSize_0f7a4_19 : decode cJ6_stringSize_0f7a4 19 = .ok (.if_icmp .ge 23, 3) := by decide +kernel
theorem dJ6_stringSize_0f7a4_22 : decode cJ6_stringSize_0f7a4 22 = .ok (.iload_n 0, 1) := by decide +kernel
theorem dJ6_stringSize_0f7a4_23 : decode cJ6_stringSize_0f7a4 23 = .ok (.iload_n 2, 1) := by decide +kernel
theorem dJ6_stringSize_0f7a4_24 : decode cJ6_stringSize_0f7a4 24 = .ok (.if_icmp .le 7, 3) := by decide +kernel
theorem dJ6_stringSize_0f7a4_27 : decode cJ6_stringSize_0f7a4 27 = .ok (.iload_n 3, 1) := by decide +kernel
theorem dJ6_stringSize_0f7a4_28 : decode cJ6_stringSize_0f7a4 28 = .ok (.iload_n 1, 1) := by decide +kernel
theorem dJ6_stringSize_0f7a4_29 : decode cJ6_stringSize_0f7a4 29 = .ok (.iadd, 1) := by decide +kernel
theorem dJ6_stringSize_0f7a4_30 : decode cJ6_stringSize_0f7a4 30 = .ok (.ireturn, 1) := by decide +kernel
theorem dJ6_stringSize_0f7a4_31 : decode cJ6_stringSize_0f7a4 31 = .ok (.bipush 10, 2) := by decide +kernel
theorem dJ6_stringSize_0f7a4_33 : decode cJ6_stringSize_0f7a4 33 = .ok (.iload_n 2, 1) := by decide +kernel
theorem dJ6_stringSize_0f7a4_34 : decode cJ6_stringSize_0f7a4 34 = .ok (.imul, 1) := by decide +kernel
theorem dJ6_stringSize_0f7a4_35 : decode cJ6_stringSize_0f7a4 35 = .ok (.istore_n 2, 1) := by decide +kernel
theorem dJ6_stringSize_0f7a4_36 : decode cJ6_stringSize_0f7a4 36 = .ok (.iinc 3 1, 3) := by decide +kernel
theorem dJ6_stringSize_0f7a4_39 : decode cJ6_stringSize_0f7a4 39 = .ok (.goto (-23), 3) := by decide +kernel
theorem dJ6_stringSize_0f7a4_42 : decode cJ6_stringSize_0f7a4 42 = .ok (.bipush 10, 2) := by decide +kernel
theorem dJ6_stringSize_0f7a4_44 : decode cJ6_stringSize_0f7a4 44 = .ok (.iload_n 1, 1) := by decide +kernel
theorem dJ6_stringSize_0f7a4_45 : decode cJ6_stringSize_0f7a4 45 = .ok (.iadd, 1) := by decide +kernel
theorem dJ6_stringSize_0f7a4_46 : decode cJ6_stringSize_0f7a4 46 = .ok (.ireturn, 1) := by decide +kernel
theorem dJ0_init_81219_0 : decode cJ0_init_81219 0 = .ok (.aload_n 0, 1) := by decide +kernel
theorem dJ0_init_81219_1 : decode cJ0_init_81219 1 = .ok (.aload_n 1, 1) := by decide +kernel
theorem dJ0_init_81219_2 : decode cJ0_init_81219 2 = .ok (.aconst_null, 1) := by decide +kernel
theorem dJ0_init_81219_3 : decode cJ0_init_81219 3 = .ok (.invokespecial 489, 3) := by decide +kernel
theorem dJ0_init_81219_6 : decode cJ0_init_81219 6 = .ok (.return_, 1) := by decide +kernel
theorem dJ0_length_8abf5_0 : decode cJ0_length_8abf5 0 = .ok (.aload_n 0, 1) := by decide +kernel
theorem dJ0_length_8abf5_1 : decode cJ0_length_8abf5 1 = .ok (.getfield 9, 3) := by decide +kernel
theorem dJ0_length_8abf5_4 : decode cJ0_length_8abf5 4 = .ok (.arraylength, 1) := by decide +kernel
theorem dJ0_length_8abf5_5 : decode cJ0_length_8abf5 5 = .ok (.aload_n 0, 1) := by decide +kernel
theorem dJ0_length_8abf5_6 : decode cJ0_length_8abf5 6 = .ok (.invokevirtual 335, 3) := by decide +kernel
theorem dJ0_length_8abf5_9 : decode cJ0_length_8abf5 9 = .ok (.ishr, 1) := by decide +kernel
theorem dJ0_length_8abf5_10 : decode cJ0_length_8abf5 10 = .ok (.ireturn, 1) := by decide +kernel
theorem dJ0_charAt_5068e_0 : decode cJ0_charAt_5068e 0 = .ok (.aload_n 0, 1) := by decide +kernel
theorem dJ0_charAt_5068e_1 : decode cJ0_charAt_5068e 1 = .ok (.invokevirtual 492, 3) := by decide +kernel
theorem dJ0_charAt_5068e_4 : decode cJ0_charAt_5068e 4 = .ok (.ifCond .eq 12, 3) := by decide +kernel
theorem dJ0_charAt_5068e_7 : decode cJ0_charAt_5068e 7 = .ok (.aload_n 0, 1) := by decide +kernel
theorem dJ0_charAt_5068e_8 : decode cJ0_charAt_5068e 8 = .ok (.getfield 9, 3) := by decide +kernel
theorem dJ0_charAt_5068e_11 : decode cJ0_charAt_5068e 11 = .ok (.iload_n 1, 1) := by decide +kernel
theorem dJ0_charAt_5068e_12 : decode cJ0_charAt_5068e 12 = .ok (.invokestatic 495, 3) := by decide +kernel
theorem dJ0_charAt_5068e_15 : decode cJ0_charAt_5068e 15 = .ok (.ireturn, 1) := by decide +kernel
theorem dJ0_charAt_5068e_16 : decode cJ0_charAt_5068e 16 = .ok (.aload_n 0, 1) := by decide +kernel
theorem dJ0_charAt_5068e_17 : decode cJ0_charAt_5068e 17 = .ok (.getfield 9, 3) := by decide +kernel
theorem dJ0_charAt_5068e_20 : decode cJ0_charAt_5068e 20 = .ok (.iload_n 1, 1) := by decide +kernel
theorem dJ0_charAt_5068e_21 : decode cJ0_charAt_5068e 21 = .ok (.invokestatic 498, 3) := by decide +kernel
theorem dJ0_charAt_5068e_24 : decode cJ0_charAt_5068e 24 = .ok (.ireturn, 1) := by decide +kernel
theorem dJ0_getBytes_840e7_0 : decode cJ0_getBytes_840e7 0 = .ok (.aload_n 0, 1) := by decide +kernel
theorem dJ0_getBytes_840e7_1 : decode cJ0_getBytes_840e7 1 = .ok (.invokevirtual 335, 3) := by decide +kernel
theorem dJ0_getBytes_840e7_4 : decode cJ0_getBytes_840e7 4 = .ok (.iload_n 3, 1) := by decide +kernel
theorem dJ0_getBytes_840e7_5 : decode cJ0_getBytes_840e7 5 = .ok (.if_icmp .ne 23, 3) := by decide +kernel
theorem dJ0_getBytes_840e7_8 : decode cJ0_getBytes_840e7 8 = .ok (.aload_n 0, 1) := by decide +kernel
theorem dJ0_getBytes_840e7_9 : decode cJ0_getBytes_840e7 9 = .ok (.getfield 9, 3) := by decide +kernel
theorem dJ0_getBytes_840e7_12 : decode cJ0_getBytes_840e7 12 = .ok (.iconst 0, 1) := by decide +kernel
theorem dJ0_getBytes_840e7_13 : decode cJ0_getBytes_840e7 13 = .ok (.aload_n 1, 1) := by decide +kernel
theorem dJ0_getBytes_840e7_14 : decode cJ0_getBytes_840e7 14 = .ok (.iload_n 2, 1) := by decide +kernel
theorem dJ0_getBytes_840e7_15 : decode cJ0_getBytes_840e7 15 = .ok (.iload_n 3, 1) := by decide +kernel
theorem dJ0_getBytes_840e7_16 : decode cJ0_getBytes_840e7 16 = .ok (.ishl, 1) := by decide +kernel
theorem dJ0_getBytes_840e7_17 : decode cJ0_getBytes_840e7 17 = .ok (.aload_n 0, 1) := by decide +kernel
theorem dJ0_getBytes_840e7_18 : decode cJ0_getBytes_840e7 18 = .ok (.getfield 9, 3) := by decide +kernel
theorem dJ0_getBytes_840e7_21 : decode cJ0_getBytes_840e7 21 = .ok (.arraylength, 1) := by decide +kernel
theorem dJ0_getBytes_840e7_22 : decode cJ0_getBytes_840e7 22 = .ok (.invokestatic 212, 3) := by decide +kernel
theorem dJ0_getBytes_840e7_25 : decode cJ0_getBytes_840e7 25 = .ok (.goto 18, 3) := by decide +kernel
theorem dJ0_getBytes_840e7_28 : decode cJ0_getBytes_840e7 28 = .ok (.aload_n 0, 1) := by decide +kernel
theorem dJ0_getBytes_840e7_29 : decode cJ0_getBytes_840e7 29 = .ok (.getfield 9, 3) := by decide +kernel
theorem dJ0_getBytes_840e7_32 : decode cJ0_getBytes_840e7 32 = .ok (.iconst 0, 1) := by decide +kernel
theorem dJ0_getBytes_840e7_33 : decode cJ0_getBytes_840e7 33 = .ok (.aload_n 1, 1) := by decide +kernel
theorem dJ0_getBytes_840e7_34 : decode cJ0_getBytes_840e7 34 = .ok (.iload_n 2, 1) := by decide +kernel
theorem dJ0_getBytes_840e7_35 : decode cJ0_getBytes_840e7 35 = .ok (.aload_n 0, 1) := by decide +kernel
theorem dJ0_getBytes_840e7_36 : decode cJ0_getBytes_840e7 36 = .ok (.getfield 9, 3) := by decide +kernel
theorem dJ0_getBytes_840e7_39 : decode cJ0_getBytes_840e7 39 = .ok (.arraylength, 1) := by decide +kernel
theorem dJ0_getBytes_840e7_40 : decode cJ0_getBytes_840e7 40 = .ok (.invokestatic 106, 3) := by decide +kernel
theorem dJ0_getBytes_840e7_43 : decode cJ0_getBytes_840e7 43 = .ok (.return_, 1) := by decide +kernel
theorem dJ0_init_db425_0 : decode cJ0_init_db425 0 = .ok (.aload_n 0, 1) := by decide +kernel
theorem dJ0_init_db425_1 : decode cJ0_init_db425 1 = .ok (.invokespecial 1, 3) := by decide +kernel
theorem dJ0_init_db425_4 : decode cJ0_init_db425 4 = .ok (.aload_n 1, 1) := by decide +kernel
theorem dJ0_init_db425_5 : decode cJ0_init_db425 5 = .ok (.invokevirtual 552, 3) := by decide +kernel
theorem dJ0_init_db425_8 : decode cJ0_init_db425 8 = .ok (.astore_n 3, 1) := by decide +kernel
theorem dJ0_init_db425_9 : decode cJ0_init_db425 9 = .ok (.aload_n 1, 1) := by decide +kernel
theorem dJ0_init_db425_10 : decode cJ0_init_db425 10 = .ok (.invokevirtual 549, 3) := by decide +kernel
theorem dJ0_init_db425_13 : decode cJ0_init_db425 13 = .ok (.istore 4, 2) := by decide +kernel
theorem dJ0_init_db425_15 : decode cJ0_init_db425 15 = .ok (.aload_n 1, 1) := by decide +kernel
theorem dJ0_init_db425_16 : decode cJ0_init_db425 16 = .ok (.invokevirtual 1047, 3) := by decide +kernel
theorem dJ0_init_db425_19 : decode cJ0_init_db425 19 = .ok (.ifCond .eq 22, 3) := by decide +kernel
theorem dJ0_init_db425_22 : decode cJ0_init_db425 22 = .ok (.aload_n 0, 1) := by decide +kernel
theorem dJ0_init_db425_23 : decode cJ0_init_db425 23 = .ok (.iconst 0, 1) := by decide +kernel
theorem dJ0_init_db425_24 : decode cJ0_init_db425 24 = .ok (.putfield 15, 3) := by decide +kernel
theorem dJ0_init_db425_27 : decode cJ0_init_db425 27 = .ok (.aload_n 0, 1) := by decide +kernel
theorem dJ0_init_db425_28 : decode cJ0_init_db425 28 = .ok (.aload_n 3, 1) := by decide +kernel
theorem dJ0_init_db425_29 : decode cJ0_init_db425 29 = .ok (.iconst 0, 1) := by decide +kernel
theorem dJ0_init_db425_30 : decode cJ0_init_db425 30 = .ok (.iload 4, 2) := by decide +kernel
theorem dJ0_init_db425_32 : decode cJ0_init_db425 32 = .ok (.invokestatic 54, 3) := by decide +kernel
theorem dJ0_init_db425_35 : decode cJ0_init_db425 35 = .ok (.putfield 9, 3) := by decide +kernel
theorem dJ0_init_db425_38 : decode cJ0_init_db425 38 = .ok (.goto 59, 3) := by decide +kernel
theorem dJ0_init_db425_41 : decode cJ0_init_db425 41 = .ok (.getstatic 38, 3) := by decide +kernel
theorem dJ0_init_db425_44 : decode cJ0_init_db425 44 = .ok (.ifCond .eq 35, 3) := by decide +kernel
theorem dJ0_init_db425_47 : decode cJ0_init_db425 47 = .ok (.aload_n 1, 1) := by decide +kernel
theorem dJ0_init_db425_48 : decode cJ0_init_db425 48 = .ok (.getfield 1048, 3) := by decide +kernel
theorem dJ0_init_db425_51 : decode cJ0_init_db425 51 = .ok (.ifCond .eq 28, 3) := by decide +kernel
theorem dJ0_init_db425_54 : decode cJ0_init_db425 54 = .ok (.aload_n 0, 1) := by decide +kernel
theorem dJ0_init_db425_55 : decode cJ0_init_db425 55 = .ok (.aload_n 3, 1) := by decide +kernel
theorem dJ0_init_db425_56 : decode cJ0_init_db425 56 = .ok (.iconst 0, 1) := by decide +kernel
theorem dJ0_init_db425_57 : decode cJ0_init_db425 57 = .ok (.iload 4, 2) := by decide +kernel
theorem dJ0_init_db425_59 : decode cJ0_init_db425 59 = .ok (.invokestatic 1051, 3) := by decide +kernel
theorem dJ0_init_db425_62 : decode cJ0_init_db425 62 = .ok (.putfield 9, 3) := by decide +kernel
theorem dJ0_init_db425_65 : decode cJ0_init_db425 65 = .ok (.aload_n 0, 1) := by decide +kernel
theorem dJ0_init_db425_66 : decode cJ0_init_db425 66 = .ok (.aload_n 0, 1) := by decide +kernel
theorem dJ0_init_db425_67 : decode cJ0_init_db425 67 = .ok (.getfield 9, 3) := by decide +kernel
theorem dJ0_init_db425_70 : decode cJ0_init_db425 70 = .ok (.iload 4, 2) := by decide +kernel
theorem dJ0_init_db425_72 : decode cJ0_init_db425 72 = .ok (.invokestatic 47, 3) := by decide +kernel
theorem dJ0_init_db425_75 : decode cJ0_init_db425 75 = .ok (.putfield 15, 3) := by decide +kernel
theorem dJ0_init_db425_78 : decode cJ0_init_db425 78 = .ok (.return_, 1) := by decide +kernel
theorem dJ0_init_db425_79 : decode cJ0_init_db425 79 = .ok (.aload_n 0, 1) := by decide +kernel
theorem dJ0_init_db425_80 : decode cJ0_init_db425 80 = .ok (.iconst 1, 1) := by decide +kernel
theorem dJ0_init_db425_81 : decode cJ0_init_db425 81 = .ok (.putfield 15, 3) := by decide +kernel
theorem dJ0_init_db425_84 : decode cJ0_init_db425 84 = .ok (.aload_n 0, 1) := by decide +kernel
theorem dJ0_init_db425_85 : decode cJ0_init_db425 85 = .ok (.aload_n 3, 1) := by decide +kernel
theorem dJ0_init_db425_86 : decode cJ0_init_db425 86 = .ok (.iconst 0, 1) := by decide +kernel
theorem dJ0_init_db425_87 : decode cJ0_init_db425 87 = .ok (.iload 4, 2) := by decide +kernel
theorem dJ0_init_db425_89 : decode cJ0_init_db425 89 = .ok (.iconst 1, 1) := by decide +kernel
theorem dJ0_init_db425_90 : decode cJ0_init_db425 90 = .ok (.ishl, 1) := by decide +kernel
theorem dJ0_init_db425_91 : decode cJ0_init_db425 91 = .ok (.invokestatic 54, 3) := by decide +kernel
theorem dJ0_init_db425_94 : decode cJ0_init_db425 94 = .ok (.putfield 9, 3) := by decide +kernel
theorem dJ0_init_db425_97 : decode cJ0_init_db425 97 = .ok (.return_, 1) := by decide +kernel
theorem dJ0_coder_7d493_0 : decode cJ0_coder_7d493 0 = .ok (.getstatic 38, 3) := by decide +kernel
theorem dJ0_coder_7d493_3 : decode cJ0_coder_7d493 3 = .ok (.ifCond .eq 10, 3) := by decide +kernel
theorem dJ0_coder_7d493_6 : decode cJ0_coder_7d493 6 = .ok (.aload_n 0, 1) := by decide +kernel
theorem dJ0_coder_7d493_7 : decode cJ0_coder_7d493 7 = .ok (.getfield 15, 3) := by decide +kernel
theorem dJ0_coder_7d493_10 : decode cJ0_coder_7d493 10 = .ok (.goto 4, 3) := by decide +kernel
theorem dJ0_coder_7d493_13 : decode cJ0_coder_7d493 13 = .ok (.iconst 1, 1) := by decide +kernel
theorem dJ0_coder_7d493_14 : decode cJ0_coder_7d493 14 = .ok (.ireturn, 1) := by decide +kernel
theorem dJ0_isLatin1_aae02_0 : decode cJ0_isLatin1_aae02 0 = .ok (.getstatic 38, 3) := by decide +kernel
theorem dJ0_isLatin1_aae02_3 : decode cJ0_isLatin1_aae02 3 = .ok (.ifCond .eq 14, 3) := by decide +kernel
theorem dJ0_isLatin1_aae02_6 : decode cJ0_isLatin1_aae02 6 = .ok (.aload_n 0, 1) := by decide +kernel
theorem dJ0_isLatin1_aae02_7 : decode cJ0_isLatin1_aae02 7 = .ok (.getfield 15, 3) := by decide +kernel
theorem dJ0_isLatin1_aae02_10 : decode cJ0_isLatin1_aae02 10 = .ok (.ifCond .ne 7, 3) := by decide +kernel
theorem dJ0_isLatin1_aae02_13 : decode cJ0_isLatin1_aae02 13 = .ok (.iconst 1, 1) := by decide +kernel
theorem dJ0_isLatin1_aae02_14 : decode cJ0_isLatin1_aae02 14 = .ok (.goto 4, 3) := by decide +kernel
theorem dJ0_isLatin1_aae02_17 : decode cJ0_isLatin1_aae02 17 = .ok (.iconst 0, 1) := by decide +kernel
theorem dJ0_isLatin1_aae02_18 : decode cJ0_isLatin1_aae02 18 = .ok (.ireturn, 1) := by decide +kernel
theorem dJ0_checkIndex_df160_0 : decode cJ0_checkIndex_df160 0 = .ok (.iload_n 0, 1) := by decide +kernel
theorem dJ0_checkIndex_df160_1 : decode cJ0_checkIndex_df160 1 = .ok (.iload_n 1, 1) := by decide +kernel
theorem dJ0_checkIndex_df160_2 : decode cJ0_checkIndex_df160 2 = .ok (.getstatic 1053, 3) := by decide +kernel
theorem dJ0_checkIndex_df160_5 : decode cJ0_checkIndex_df160 5 = .ok (.invokestatic 1059, 3) := by decide +kernel
theorem dJ0_checkIndex_df160_8 : decode cJ0_checkIndex_df160 8 = .ok (.pop, 1) := by decide +kernel
theorem dJ0_checkIndex_df160_9 : decode cJ0_checkIndex_df160 9 = .ok (.return_, 1) := by decide +kernel
theorem dJ4_init_da8c8_0 : decode cJ4_init_da8c8 0 = .ok (.aload_n 0, 1) := by decide +kernel
theorem dJ4_init_da8c8_1 : decode cJ4_init_da8c8 1 = .ok (.bipush 16, 2) := by decide +kernel
theorem dJ4_init_da8c8_3 : decode cJ4_init_da8c8 3 = .ok (.invokespecial 1, 3) := by decide +kernel
theorem dJ4_init_da8c8_6 : decode cJ4_init_da8c8 6 = .ok (.return_, 1) := by decide +kernel
theorem dJ4_init_a7421_0 : decode cJ4_init_a7421 0 = .ok (.aload_n 0, 1) := by decide +kernel
theorem dJ4_init_a7421_1 : decode cJ4_init_a7421 1 = .ok (.aload_n 1, 1) := by decide +kernel
theorem dJ4_init_a7421_2 : decode cJ4_init_a7421 2 = .ok (.invokespecial 7, 3) := by decide +kernel
theorem dJ4_init_a7421_5 : decode cJ4_init_a7421 5 = .ok (.return_, 1) := by decide +kernel
theorem dJ4_append_15ec4_0 : decode cJ4_append_15ec4 0 = .ok (.aload_n 0, 1) := by decide +kernel
theorem dJ4_append_15ec4_1 : decode cJ4_append_15ec4 1 = .ok (.aload_n 1, 1) := by decide +kernel
theorem dJ4_append_15ec4_2 : decode cJ4_append_15ec4 2 = .ok (.invokespecial 29, 3) := by decide +kernel
theorem dJ4_append_15ec4_5 : decode cJ4_append_15ec4 5 = .ok (.pop, 1) := by decide +kernel
theorem dJ4_append_15ec4_6 : decode cJ4_append_15ec4 6 = .ok (.aload_n 0, 1) := by decide +kernel
theorem dJ4_append_15ec4_7 : decode cJ4_append_15ec4 7 = .ok (.areturn, 1) := by decide +kernel
theorem dJ4_append_cf468_0 : decode cJ4_append_cf468 0 = .ok (.aload_n 0, 1) := by decide +kernel
theorem dJ4_append_cf468_1 : decode cJ4_append_cf468 1 = .ok (.iload_n 1, 1) := by decide +kernel
theorem dJ4_append_cf468_2 : decode cJ4_append_cf468 2 = .ok (.invokespecial 50, 3) := by decide +kernel
theorem dJ4_append_cf468_5 : decode cJ4_append_cf468 5 = .ok (.pop, 1) := by decide +kernel
theorem dJ4_append_cf468_6 : decode cJ4_append_cf468 6 = .ok (.aload_n 0, 1) := by decide +kernel
theorem dJ4_append_cf468_7 : decode cJ4_append_cf468 7 = .ok (.areturn, 1) := by decide +kernel
theorem dJ4_append_bf812_0 : decode cJ4_append_bf812 0 = .ok (.aload_n 0, 1) := by decide +kernel
theorem dJ4_append_bf812_1 : decode cJ4_append_bf812 1 = .ok (.iload_n 1, 1) := by decide +kernel
theorem dJ4_append_bf812_2 : decode cJ4_append_bf812 2 = .ok (.invokespecial 53, 3) := by decide +kernel
theorem dJ4_append_bf812_5 : decode cJ4_append_bf812 5 = .ok (.pop, 1) := by decide +kernel
theorem dJ4_append_bf812_6 : decode cJ4_append_bf812 6 = .ok (.aload_n 0, 1) := by decide +kernel
theorem dJ4_append_bf812_7 : decode cJ4_append_bf812 7 = .ok (.areturn, 1) := by decide +kernel
theorem dJ4_toString_0e30d_0 : decode cJ4_toString_0e30d 0 = .ok (.new 18, 3) := by decide +kernel
theorem dJ4_toString_0e30d_3 : decode cJ4_toString_0e30d 3 = .ok (.dup, 1) := by decide +kernel
theorem dJ4_toString_0e30d_4 : decode cJ4_toString_0e30d 4 = .ok (.aload_n 0, 1) := by decide +kernel
theorem dJ4_toString_0e30d_5 : decode cJ4_toString_0e30d 5 = .ok (.invokespecial 137, 3) := by decide +kernel
theorem dJ4_toString_0e30d_8 : decode cJ4_toString_0e30d 8 = .ok (.areturn, 1) := by decide +kernel
theorem dJ4_append_cf1ce_0 : decode cJ4_append_cf1ce 0 = .ok (.aload_n 0, 1) := by decide +kernel
theorem dJ4_append_cf1ce_1 : decode cJ4_append_cf1ce 1 = .ok (.aload_n 1, 1) := by decide +kernel
theorem dJ4_append_cf1ce_2 : decode cJ4_append_cf1ce 2 = .ok (.invokevirtual 23, 3) := by decide +kernel
theorem dJ4_append_cf1ce_5 : decode cJ4_append_cf1ce 5 = .ok (.areturn, 1) := by decide +kernel
theorem dJ4_length_8abf5_0 : decode cJ4_length_8abf5 0 = .ok (.aload_n 0, 1) := by decide +kernel
theorem dJ4_length_8abf5_1 : decode cJ4_length_8abf5 1 = .ok (.invokespecial 343, 3) := by decide +kernel
theorem dJ4_length_8abf5_4 : decode cJ4_length_8abf5 4 = .ok (.ireturn, 1) := by decide +kernel
theorem dJ1_charAt_3b067_0 : decode cJ1_charAt_3b067 0 = .ok (.iload_n 1, 1) := by decide +kernel
theorem dJ1_charAt_3b067_1 : decode cJ1_charAt_3b067 1 = .ok (.aload_n 0, 1) := by decide +kernel
theorem dJ1_charAt_3b067_2 : decode cJ1_charAt_3b067 2 = .ok (.arraylength, 1) := by decide +kernel
theorem dJ1_charAt_3b067_3 : decode cJ1_charAt_3b067 3 = .ok (.invokestatic 9, 3) := by decide +kernel
theorem dJ1_charAt_3b067_6 : decode cJ1_charAt_3b067 6 = .ok (.aload_n 0, 1) := by decide +kernel
theorem dJ1_charAt_3b067_7 : decode cJ1_charAt_3b067 7 = .ok (.iload_n 1, 1) := by decide +kernel
theorem dJ1_charAt_3b067_8 : decode cJ1_charAt_3b067 8 = .ok (.baload, 1) := by decide +kernel
theorem dJ1_charAt_3b067_9 : decode cJ1_charAt_3b067 9 = .ok (.sipush 255, 3) := by decide +kernel
theorem dJ1_charAt_3b067_12 : decode cJ1_charAt_3b067 12 = .ok (.iand, 1) := by decide +kernel
theorem dJ1_charAt_3b067_13 : decode cJ1_charAt_3b067 13 = .ok (.i2c, 1) := by decide +kernel
theorem dJ1_charAt_3b067_14 : decode cJ1_charAt_3b067 14 = .ok (.ireturn, 1) := by decide +kernel
theorem dJ1_canEncode_fc78d_0 : decode cJ1_canEncode_fc78d 0 = .ok (.iload_n 0, 1) := by decide +kernel
theorem dJ1_canEncode_fc78d_1 : decode cJ1_canEncode_fc78d 1 = .ok (.sipush 255, 3) := by decide +kernel
theorem dJ1_canEncode_fc78d_4 : decode cJ1_canEncode_fc78d 4 = .ok (.if_icmp .gt 7, 3) := by decide +kernel
theorem dJ1_canEncode_fc78d_7 : decode cJ1_canEncode_fc78d 7 = .ok (.iconst 1, 1) := by decide +kernel
theorem dJ1_canEncode_fc78d_8 : decode cJ1_canEncode_fc78d 8 = .ok (.goto 4, 3) := by decide +kernel
theorem dJ1_canEncode_fc78d_11 : decode cJ1_canEncode_fc78d 11 = .ok (.iconst 0, 1) := by decide +kernel
theorem dJ1_canEncode_fc78d_12 : decode cJ1_canEncode_fc78d 12 = .ok (.ireturn, 1) := by decide +kernel
theorem dJxa1e45_init_da8c8_0 : decode cJxa1e45_init_da8c8 0 = .ok (.aload_n 0, 1) := by decide +kernel
theorem dJxa1e45_init_da8c8_1 : decode cJxa1e45_init_da8c8 1 = .ok (.invokespecial 1, 3) := by decide +kernel
theorem dJxa1e45_init_da8c8_4 : decode cJxa1e45_init_da8c8 4 = .ok (.return_, 1) := by decide +kernel
theorem dJxc12de_init_da8c8_0 : decode cJxc12de_init_da8c8 0 = .ok (.aload_n 0, 1) := by decide +kernel
theorem dJxc12de_init_da8c8_1 : decode cJxc12de_init_da8c8 1 = .ok (.invokespecial 1, 3) := by decide +kernel
theorem dJxc12de_init_da8c8_4 : decode cJxc12de_init_da8c8 4 = .ok (.aload_n 0, 1) := by decide +kernel
theorem dJxc12de_init_da8c8_5 : decode cJxc12de_init_da8c8 5 = .ok (.iconst 0, 1) := by decide +kernel
theorem dJxc12de_init_da8c8_6 : decode cJxc12de_init_da8c8 6 = .ok (.putfield 7, 3) := by decide +kernel
theorem dJxc12de_init_da8c8_9 : decode cJxc12de_init_da8c8 9 = .ok (.return_, 1) := by decide +kernel
theorem dJx4a65c_init_da8c8_0 : decode cJx4a65c_init_da8c8 0 = .ok (.aload_n 0, 1) := by decide +kernel
theorem dJx4a65c_init_da8c8_1 : decode cJx4a65c_init_da8c8 1 = .ok (.invokespecial 1, 3) := by decide +kernel
theorem dJx4a65c_init_da8c8_4 : decode cJx4a65c_init_da8c8 4 = .ok (.aload_n 0, 1) := by decide +kernel
theorem dJx4a65c_init_da8c8_5 : decode cJx4a65c_init_da8c8 5 = .ok (.getstatic 39, 3) := by decide +kernel
theorem dJx4a65c_init_da8c8_8 : decode cJx4a65c_init_da8c8 8 = .ok (.putfield 9, 3) := by decide +kernel
theorem dJx4a65c_init_da8c8_11 : decode cJx4a65c_init_da8c8 11 = .ok (.return_, 1) := by decide +kernel
theorem dJx4a65c_grow_92f84_0 : decode cJx4a65c_grow_92f84 0 = .ok (.aload_n 0, 1) := by decide +kernel
theorem dJx4a65c_grow_92f84_1 : decode cJx4a65c_grow_92f84 1 = .ok (.getfield 9, 3) := by decide +kernel
theorem dJx4a65c_grow_92f84_4 : decode cJx4a65c_grow_92f84 4 = .ok (.arraylength, 1) := by decide +kernel
theorem dJx4a65c_grow_92f84_5 : decode cJx4a65c_grow_92f84 5 = .ok (.istore_n 2, 1) := by decide +kernel
theorem dJx4a65c_grow_92f84_6 : decode cJx4a65c_grow_92f84 6 = .ok (.iload_n 2, 1) := by decide +kernel
theorem dJx4a65c_grow_92f84_7 : decode cJx4a65c_grow_92f84 7 = .ok (.ifCond .gt 13, 3) := by decide +kernel
theorem dJx4a65c_grow_92f84_10 : decode cJx4a65c_grow_92f84 10 = .ok (.aload_n 0, 1) := by decide +kernel
theorem dJx4a65c_grow_92f84_11 : decode cJx4a65c_grow_92f84 11 = .ok (.getfield 9, 3) := by decide +kernel
theorem dJx4a65c_grow_92f84_14 : decode cJx4a65c_grow_92f84 14 = .ok (.getstatic 39, 3) := by decide +kernel
theorem dJx4a65c_grow_92f84_17 : decode cJx4a65c_grow_92f84 17 = .ok (.if_acmp .eq 28, 3) := by decide +kernel
theorem dJx4a65c_grow_92f84_20 : decode cJx4a65c_grow_92f84 20 = .ok (.iload_n 2, 1) := by decide +kernel
theorem dJx4a65c_grow_92f84_21 : decode cJx4a65c_grow_92f84 21 = .ok (.iload_n 1, 1) := by decide +kernel
theorem dJx4a65c_grow_92f84_22 : decode cJx4a65c_grow_92f84 22 = .ok (.iload_n 2, 1) := by decide +kernel
theorem dJx4a65c_grow_92f84_23 : decode cJx4a65c_grow_92f84 23 = .ok (.isub, 1) := by decide +kernel
theorem dJx4a65c_grow_92f84_24 : decode cJx4a65c_grow_92f84 24 = .ok (.iload_n 2, 1) := by decide +kernel
theorem dJx4a65c_grow_92f84_25 : decode cJx4a65c_grow_92f84 25 = .ok (.iconst 1, 1) := by decide +kernel
theorem dJx4a65c_grow_92f84_26 : decode cJx4a65c_grow_92f84 26 = .ok (.ishr, 1) := by decide +kernel
theorem dJx4a65c_grow_92f84_27 : decode cJx4a65c_grow_92f84 27 = .ok (.invokestatic 73, 3) := by decide +kernel
theorem dJx4a65c_grow_92f84_30 : decode cJx4a65c_grow_92f84 30 = .ok (.istore_n 3, 1) := by decide +kernel
theorem dJx4a65c_grow_92f84_31 : decode cJx4a65c_grow_92f84 31 = .ok (.aload_n 0, 1) := by decide +kernel
theorem dJx4a65c_grow_92f84_32 : decode cJx4a65c_grow_92f84 32 = .ok (.aload_n 0, 1) := by decide +kernel
theorem dJx4a65c_grow_92f84_33 : decode cJx4a65c_grow_92f84 33 = .ok (.getfield 9, 3) := by decide +kernel
theorem dJx4a65c_grow_92f84_36 : decode cJx4a65c_grow_92f84 36 = .ok (.iload_n 3, 1) := by decide +kernel
theorem dJx4a65c_grow_92f84_37 : decode cJx4a65c_grow_92f84 37 = .ok (.invokestatic 66, 3) := by decide +kernel
theorem dJx4a65c_grow_92f84_40 : decode cJx4a65c_grow_92f84 40 = .ok (.dup_x1, 1) := by decide +kernel
theorem dJx4a65c_grow_92f84_41 : decode cJx4a65c_grow_92f84 41 = .ok (.putfield 9, 3) := by decide +kernel
theorem dJx4a65c_grow_92f84_44 : decode cJx4a65c_grow_92f84 44 = .ok (.areturn, 1) := by decide +kernel
theorem dJx4a65c_grow_92f84_45 : decode cJx4a65c_grow_92f84 45 = .ok (.aload_n 0, 1) := by decide +kernel
theorem dJx4a65c_grow_92f84_46 : decode cJx4a65c_grow_92f84 46 = .ok (.bipush 10, 2) := by decide +kernel
theorem dJx4a65c_grow_92f84_48 : decode cJx4a65c_grow_92f84 48 = .ok (.iload_n 1, 1) := by decide +kernel
theorem dJx4a65c_grow_92f84_49 : decode cJx4a65c_grow_92f84 49 = .ok (.invokestatic 79, 3) := by decide +kernel
theorem dJx4a65c_grow_92f84_52 : decode cJx4a65c_grow_92f84 52 = .ok (.anewarray 7, 3) := by decide +kernel
theorem dJx4a65c_grow_92f84_55 : decode cJx4a65c_grow_92f84 55 = .ok (.dup_x1, 1) := by decide +kernel
theorem dJx4a65c_grow_92f84_56 : decode cJx4a65c_grow_92f84 56 = .ok (.putfield 9, 3) := by decide +kernel
theorem dJx4a65c_grow_92f84_59 : decode cJx4a65c_grow_92f84 59 = .ok (.areturn, 1) := by decide +kernel
theorem dJx4a65c_grow_d5877_0 : decode cJx4a65c_grow_d5877 0 = .ok (.aload_n 0, 1) := by decide +kernel
theorem dJx4a65c_grow_d5877_1 : decode cJx4a65c_grow_d5877 1 = .ok (.aload_n 0, 1) := by decide +kernel
theorem dJx4a65c_grow_d5877_2 : decode cJx4a65c_grow_d5877 2 = .ok (.getfield 48, 3) := by decide +kernel
theorem dJx4a65c_grow_d5877_5 : decode cJx4a65c_grow_d5877 5 = .ok (.iconst 1, 1) := by decide +kernel
theorem dJx4a65c_grow_d5877_6 : decode cJx4a65c_grow_d5877 6 = .ok (.iadd, 1) := by decide +kernel
theorem dJx4a65c_grow_d5877_7 : decode cJx4a65c_grow_d5877 7 = .ok (.invokevirtual 69, 3) := by decide +kernel
theorem dJx4a65c_grow_d5877_10 : decode cJx4a65c_grow_d5877 10 = .ok (.areturn, 1) := by decide +kernel
theorem dJx4a65c_size_8abf5_0 : decode cJx4a65c_size_8abf5 0 = .ok (.aload_n 0, 1) := by decide +kernel
theorem dJx4a65c_size_8abf5_1 : decode cJx4a65c_size_8abf5 1 = .ok (.getfield 48, 3) := by decide +kernel
theorem dJx4a65c_size_8abf5_4 : decode cJx4a65c_size_8abf5 4 = .ok (.ireturn, 1) := by decide +kernel
theorem dJx4a65c_elementData_915e3_0 : decode cJx4a65c_elementData_915e3 0 = .ok (.aload_n 0, 1) := by decide +kernel
theorem dJx4a65c_elementData_915e3_1 : decode cJx4a65c_elementData_915e3 1 = .ok (.getfield 9, 3) := by decide +kernel
theorem dJx4a65c_elementData_915e3_4 : decode cJx4a65c_elementData_915e3 4 = .ok (.iload_n 1, 1) := by decide +kernel
theorem dJx4a65c_elementData_915e3_5 : decode cJx4a65c_elementData_915e3 5 = .ok (.aaload, 1) := by decide +kernel
theorem dJx4a65c_elementData_915e3_6 : decode cJx4a65c_elementData_915e3 6 = .ok (.areturn, 1) := by decide +kernel
theorem dJx4a65c_get_915e3_0 : decode cJx4a65c_get_915e3 0 = .ok (.iload_n 1, 1) := by decide +kernel
theorem dJx4a65c_get_915e3_1 : decode cJx4a65c_get_915e3 1 = .ok (.aload_n 0, 1) := by decide +kernel
theorem dJx4a65c_get_915e3_2 : decode cJx4a65c_get_915e3 2 = .ok (.getfield 48, 3) := by decide +kernel
theorem dJx4a65c_get_915e3_5 : decode cJx4a65c_get_915e3 5 = .ok (.invokestatic 118, 3) := by decide +kernel
theorem dJx4a65c_get_915e3_8 : decode cJx4a65c_get_915e3 8 = .ok (.pop, 1) := by decide +kernel
theorem dJx4a65c_get_915e3_9 : decode cJx4a65c_get_915e3 9 = .ok (.aload_n 0, 1) := by decide +kernel
theorem dJx4a65c_get_915e3_10 : decode cJx4a65c_get_915e3 10 = .ok (.iload_n 1, 1) := by decide +kernel
theorem dJx4a65c_get_915e3_11 : decode cJx4a65c_get_915e3 11 = .ok (.invokevirtual 123, 3) := by decide +kernel
theorem dJx4a65c_get_915e3_14 : decode cJx4a65c_get_915e3 14 = .ok (.areturn, 1) := by decide +kernel
theorem dJx4a65c_add_72be8_0 : decode cJx4a65c_add_72be8 0 = .ok (.iload_n 3, 1) := by decide +kernel
theorem dJx4a65c_add_72be8_1 : decode cJx4a65c_add_72be8 1 = .ok (.aload_n 2, 1) := by decide +kernel
theorem dJx4a65c_add_72be8_2 : decode cJx4a65c_add_72be8 2 = .ok (.arraylength, 1) := by decide +kernel
theorem dJx4a65c_add_72be8_3 : decode cJx4a65c_add_72be8 3 = .ok (.if_icmp .ne 8, 3) := by decide +kernel
theorem dJx4a65c_add_72be8_6 : decode cJx4a65c_add_72be8 6 = .ok (.aload_n 0, 1) := by decide +kernel
theorem dJx4a65c_add_72be8_7 : decode cJx4a65c_add_72be8 7 = .ok (.invokevirtual 129, 3) := by decide +kernel
theorem dJx4a65c_add_72be8_10 : decode cJx4a65c_add_72be8 10 = .ok (.astore_n 2, 1) := by decide +kernel
theorem dJx4a65c_add_72be8_11 : decode cJx4a65c_add_72be8 11 = .ok (.aload_n 2, 1) := by decide +kernel
theorem dJx4a65c_add_72be8_12 : decode cJx4a65c_add_72be8 12 = .ok (.iload_n 3, 1) := by decide +kernel
theorem dJx4a65c_add_72be8_13 : decode cJx4a65c_add_72be8 13 = .ok (.aload_n 1, 1) := by decide +kernel
theorem dJx4a65c_add_72be8_14 : decode cJx4a65c_add_72be8 14 = .ok (.aastore, 1) := by decide +kernel
theorem dJx4a65c_add_72be8_15 : decode cJx4a65c_add_72be8 15 = .ok (.aload_n 0, 1) := by decide +kernel
theorem dJx4a65c_add_72be8_16 : decode cJx4a65c_add_72be8 16 = .ok (.iload_n 3, 1) := by decide +kernel
theorem dJx4a65c_add_72be8_17 : decode cJx4a65c_add_72be8 17 = .ok (.iconst 1, 1) := by decide +kernel
theorem dJx4a65c_add_72be8_18 : decode cJx4a65c_add_72be8 18 = .ok (.iadd, 1) := by decide +kernel
theorem dJx4a65c_add_72be8_19 : decode cJx4a65c_add_72be8 19 = .ok (.putfield 48, 3) := by decide +kernel
theorem dJx4a65c_add_72be8_22 : decode cJx4a65c_add_72be8 22 = .ok (.return_, 1) := by decide +kernel
theorem dJx4a65c_add_9ea2d_0 : decode cJx4a65c_add_9ea2d 0 = .ok (.aload_n 0, 1) := by decide +kernel
theorem dJx4a65c_add_9ea2d_1 : decode cJx4a65c_add_9ea2d 1 = .ok (.dup, 1) := by decide +kernel
theorem dJx4a65c_add_9ea2d_2 : decode cJx4a65c_add_9ea2d 2 = .ok (.getfield 63, 3) := by decide +kernel
theorem dJx4a65c_add_9ea2d_5 : decode cJx4a65c_add_9ea2d 5 = .ok (.iconst 1, 1) := by decide +kernel
theorem dJx4a65c_add_9ea2d_6 : decode cJx4a65c_add_9ea2d 6 = .ok (.iadd, 1) := by decide +kernel
theorem dJx4a65c_add_9ea2d_7 : decode cJx4a65c_add_9ea2d 7 = .ok (.putfield 63, 3) := by decide +kernel
theorem dJx4a65c_add_9ea2d_10 : decode cJx4a65c_add_9ea2d 10 = .ok (.aload_n 0, 1) := by decide +kernel
theorem dJx4a65c_add_9ea2d_11 : decode cJx4a65c_add_9ea2d 11 = .ok (.aload_n 1, 1) := by decide +kernel
theorem dJx4a65c_add_9ea2d_12 : decode cJx4a65c_add_9ea2d 12 = .ok (.aload_n 0, 1) := by decide +kernel
theorem dJx4a65c_add_9ea2d_13 : decode cJx4a65c_add_9ea2d 13 = .ok (.getfield 9, 3) := by decide +kernel
theorem dJx4a65c_add_9ea2d_16 : decode cJx4a65c_add_9ea2d 16 = .ok (.aload_n 0, 1) := by decide +kernel
theorem dJx4a65c_add_9ea2d_17 : decode cJx4a65c_add_9ea2d 17 = .ok (.getfield 48, 3) := by decide +kernel
theorem dJx4a65c_add_9ea2d_20 : decode cJx4a65c_add_9ea2d 20 = .ok (.invokevirtual 131, 3) := by decide +kernel
theorem dJx4a65c_add_9ea2d_23 : decode cJx4a65c_add_9ea2d 23 = .ok (.iconst 1, 1) := by decide +kernel
theorem dJx4a65c_add_9ea2d_24 : decode cJx4a65c_add_9ea2d 24 = .ok (.ireturn, 1) := by decide +kernel
theorem dJ7_equals_331f6_0 : decode cJ7_equals_331f6 0 = .ok (.aload_n 0, 1) := by decide +kernel
theorem dJ7_equals_331f6_1 : decode cJ7_equals_331f6 1 = .ok (.aload_n 1, 1) := by decide +kernel
theorem dJ7_equals_331f6_2 : decode cJ7_equals_331f6 2 = .ok (.if_acmp .ne 5, 3) := by decide +kernel
theorem dJ7_equals_331f6_5 : decode cJ7_equals_331f6 5 = .ok (.iconst 1, 1) := by decide +kernel
theorem dJ7_equals_331f6_6 : decode cJ7_equals_331f6 6 = .ok (.ireturn, 1) := by decide +kernel
theorem dJ7_equals_331f6_7 : decode cJ7_equals_331f6 7 = .ok (.aload_n 0, 1) := by decide +kernel
theorem dJ7_equals_331f6_8 : decode cJ7_equals_331f6 8 = .ok (.ifnull 7, 3) := by decide +kernel
theorem dJ7_equals_331f6_11 : decode cJ7_equals_331f6 11 = .ok (.aload_n 1, 1) := by decide +kernel
theorem dJ7_equals_331f6_12 : decode cJ7_equals_331f6 12 = .ok (.ifnonnull 5, 3) := by decide +kernel
theorem dJ7_equals_331f6_15 : decode cJ7_equals_331f6 15 = .ok (.iconst 0, 1) := by decide +kernel
theorem dJ7_equals_331f6_16 : decode cJ7_equals_331f6 16 = .ok (.ireturn, 1) := by decide +kernel
theorem dJ7_equals_331f6_17 : decode cJ7_equals_331f6 17 = .ok (.aload_n 0, 1) := by decide +kernel
theorem dJ7_equals_331f6_18 : decode cJ7_equals_331f6 18 = .ok (.arraylength, 1) := by decide +kernel
theorem dJ7_equals_331f6_19 : decode cJ7_equals_331f6 19 = .ok (.istore_n 2, 1) := by decide +kernel
theorem dJ7_equals_331f6_20 : decode cJ7_equals_331f6 20 = .ok (.aload_n 1, 1) := by decide +kernel
theorem dJ7_equals_331f6_21 : decode cJ7_equals_331f6 21 = .ok (.arraylength, 1) := by decide +kernel
theorem dJ7_equals_331f6_22 : decode cJ7_equals_331f6 22 = .ok (.iload_n 2, 1) := by decide +kernel
theorem dJ7_equals_331f6_23 : decode cJ7_equals_331f6 23 = .ok (.if_icmp .eq 5, 3) := by decide +kernel
theorem dJ7_equals_331f6_26 : decode cJ7_equals_331f6 26 = .ok (.iconst 0, 1) := by decide +kernel
theorem dJ7_equals_331f6_27 : decode cJ7_equals_331f6 27 = .ok (.ireturn, 1) := by decide +kernel
theorem dJ7_equals_331f6_28 : decode cJ7_equals_331f6 28 = .ok (.aload_n 0, 1) := by decide +kernel
theorem dJ7_equals_331f6_29 : decode cJ7_equals_331f6 29 = .ok (.aload_n 1, 1) := by decide +kernel
theorem dJ7_equals_331f6_30 : decode cJ7_equals_331f6 30 = .ok (.iload_n 2, 1) := by decide +kernel
theorem dJ7_equals_331f6_31 : decode cJ7_equals_331f6 31 = .ok (.invokestatic 245, 3) := by decide +kernel
theorem dJ7_equals_331f6_34 : decode cJ7_equals_331f6 34 = .ok (.ifCond .ge 7, 3) := by decide +kernel
theorem dJ7_equals_331f6_37 : decode cJ7_equals_331f6 37 = .ok (.iconst 1, 1) := by decide +kernel
theorem dJ7_equals_331f6_38 : decode cJ7_equals_331f6 38 = .ok (.goto 4, 3) := by decide +kernel
theorem dJ7_equals_331f6_41 : decode cJ7_equals_331f6 41 = .ok (.iconst 0, 1) := by decide +kernel
theorem dJ7_equals_331f6_42 : decode cJ7_equals_331f6 42 = .ok (.ireturn, 1) := by decide +kernel
theorem dJ7_fill_d0a16_0 : decode cJ7_fill_d0a16 0 = .ok (.iconst 0, 1) := by decide +kernel
theorem dJ7_fill_d0a16_1 : decode cJ7_fill_d0a16 1 = .ok (.istore_n 3, 1) := by decide +kernel
theorem dJ7_fill_d0a16_2 : decode cJ7_fill_d0a16 2 = .ok (.aload_n 0, 1) := by decide +kernel
theorem dJ7_fill_d0a16_3 : decode cJ7_fill_d0a16 3 = .ok (.arraylength, 1) := by decide +kernel
theorem dJ7_fill_d0a16_4 : decode cJ7_fill_d0a16 4 = .ok (.istore 4, 2) := by decide +kernel
theorem dJ7_fill_d0a16_6 : decode cJ7_fill_d0a16 6 = .ok (.iload_n 3, 1) := by decide +kernel
theorem dJ7_fill_d0a16_7 : decode cJ7_fill_d0a16 7 = .ok (.iload 4, 2) := by decide +kernel
theorem dJ7_fill_d0a16_9 : decode cJ7_fill_d0a16 9 = .ok (.if_icmp .ge 13, 3) := by decide +kernel
theorem dJ7_fill_d0a16_12 : decode cJ7_fill_d0a16 12 = .ok (.aload_n 0, 1) := by decide +kernel
theorem dJ7_fill_d0a16_13 : decode cJ7_fill_d0a16 13 = .ok (.iload_n 3, 1) := by decide +kernel
theorem dJ7_fill_d0a16_14 : decode cJ7_fill_d0a16 14 = .ok (.lload_n 1, 1) := by decide +kernel
theorem dJ7_fill_d0a16_15 : decode cJ7_fill_d0a16 15 = .ok (.lastore, 1) := by decide +kernel
theorem dJ7_fill_d0a16_16 : decode cJ7_fill_d0a16 16 = .ok (.iinc 3 1, 3) := by decide +kernel
theorem dJ7_fill_d0a16_19 : decode cJ7_fill_d0a16 19 = .ok (.goto (-13), 3) := by decide +kernel
theorem dJ7_fill_d0a16_22 : decode cJ7_fill_d0a16 22 = .ok (.return_, 1) := by decide +kernel
theorem dJ7_copyOf_9075b_0 : decode cJ7_copyOf_9075b 0 = .ok (.iload_n 1, 1) := by decide +kernel
theorem dJ7_copyOf_9075b_1 : decode cJ7_copyOf_9075b 1 = .ok (.aload_n 0, 1) := by decide +kernel
theorem dJ7_copyOf_9075b_2 : decode cJ7_copyOf_9075b 2 = .ok (.arraylength, 1) := by decide +kernel
theorem dJ7_copyOf_9075b_3 : decode cJ7_copyOf_9075b 3 = .ok (.if_icmp .ne 11, 3) := by decide +kernel
theorem dJ7_copyOf_9075b_6 : decode cJ7_copyOf_9075b 6 = .ok (.aload_n 0, 1) := by decide +kernel
theorem dJ7_copyOf_9075b_7 : decode cJ7_copyOf_9075b 7 = .ok (.invokevirtual 310, 3) := by decide +kernel
theorem dJ7_copyOf_9075b_10 : decode cJ7_copyOf_9075b 10 = .ok (.checkcast 311, 3) := by decide +kernel
theorem dJ7_copyOf_9075b_13 : decode cJ7_copyOf_9075b 13 = .ok (.areturn, 1) := by decide +kernel
theorem dJ7_copyOf_9075b_14 : decode cJ7_copyOf_9075b 14 = .ok (.iload_n 1, 1) := by decide +kernel
theorem dJ7_copyOf_9075b_15 : decode cJ7_copyOf_9075b 15 = .ok (.newarray .byte, 2) := by decide +kernel
theorem dJ7_copyOf_9075b_17 : decode cJ7_copyOf_9075b 17 = .ok (.astore_n 2, 1) := by decide +kernel
theorem dJ7_copyOf_9075b_18 : decode cJ7_copyOf_9075b 18 = .ok (.aload_n 0, 1) := by decide +kernel
theorem dJ7_copyOf_9075b_19 : decode cJ7_copyOf_9075b 19 = .ok (.iconst 0, 1) := by decide +kernel
theorem dJ7_copyOf_9075b_20 : decode cJ7_copyOf_9075b 20 = .ok (.aload_n 2, 1) := by decide +kernel
theorem dJ7_copyOf_9075b_21 : decode cJ7_copyOf_9075b 21 = .ok (.iconst 0, 1) := by decide +kernel
theorem dJ7_copyOf_9075b_22 : decode cJ7_copyOf_9075b 22 = .ok (.aload_n 0, 1) := by decide +kernel
theorem dJ7_copyOf_9075b_23 : decode cJ7_copyOf_9075b 23 = .ok (.arraylength, 1) := by decide +kernel
theorem dJ7_copyOf_9075b_24 : decode cJ7_copyOf_9075b 24 = .ok (.iload_n 1, 1) := by decide +kernel
theorem dJ7_copyOf_9075b_25 : decode cJ7_copyOf_9075b 25 = .ok (.invokestatic 304, 3) := by decide +kernel
theorem dJ7_copyOf_9075b_28 : decode cJ7_copyOf_9075b 28 = .ok (.invokestatic 150, 3) := by decide +kernel
theorem dJ7_copyOf_9075b_31 : decode cJ7_copyOf_9075b 31 = .ok (.aload_n 2, 1) := by decide +kernel
theorem dJ7_copyOf_9075b_32 : decode cJ7_copyOf_9075b 32 = .ok (.areturn, 1) := by decide +kernel
theorem dJ7_checkLength_df160_0 : decode cJ7_checkLength_df160 0 = .ok (.iload_n 1, 1) := by decide +kernel
theorem dJ7_checkLength_df160_1 : decode cJ7_checkLength_df160 1 = .ok (.iload_n 0, 1) := by decide +kernel
theorem dJ7_checkLength_df160_2 : decode cJ7_checkLength_df160 2 = .ok (.if_icmp .ge 35, 3) := by decide +kernel
theorem dJ7_checkLength_df160_5 : decode cJ7_checkLength_df160 5 = .ok (.new 43, 3) := by decide +kernel
theorem dJ7_checkLength_df160_8 : decode cJ7_checkLength_df160 8 = .ok (.dup, 1) := by decide +kernel
theorem dJ7_checkLength_df160_9 : decode cJ7_checkLength_df160 9 = .ok (.new 45, 3) := by decide +kernel
theorem dJ7_checkLength_df160_12 : decode cJ7_checkLength_df160 12 = .ok (.dup, 1) := by decide +kernel
theorem dJ7_checkLength_df160_13 : decode cJ7_checkLength_df160 13 = .ok (.invokespecial 47, 3) := by decide +kernel
theorem dJ7_checkLength_df160_16 : decode cJ7_checkLength_df160 16 = .ok (.iload_n 0, 1) := by decide +kernel
theorem dJ7_checkLength_df160_17 : decode cJ7_checkLength_df160 17 = .ok (.invokevirtual 54, 3) := by decide +kernel
theorem dJ7_checkLength_df160_20 : decode cJ7_checkLength_df160 20 = .ok (.ldc_w 337, 3) := by decide +kernel
theorem dJ7_checkLength_df160_23 : decode cJ7_checkLength_df160 23 = .ok (.invokevirtual 50, 3) := by decide +kernel
theorem dJ7_checkLength_df160_26 : decode cJ7_checkLength_df160 26 = .ok (.iload_n 1, 1) := by decide +kernel
theorem dJ7_checkLength_df160_27 : decode cJ7_checkLength_df160 27 = .ok (.invokevirtual 54, 3) := by decide +kernel
theorem dJ7_checkLength_df160_30 : decode cJ7_checkLength_df160 30 = .ok (.invokevirtual 61, 3) := by decide +kernel
theorem dJ7_checkLength_df160_33 : decode cJ7_checkLength_df160 33 = .ok (.invokespecial 65, 3) := by decide +kernel
theorem dJ7_checkLength_df160_36 : decode cJ7_checkLength_df160 36 = .ok (.athrow, 1) := by decide +kernel
theorem dJ7_checkLength_df160_37 : decode cJ7_checkLength_df160 37 = .ok (.return_, 1) := by decide +kernel
theorem dJ7_copyOfRange_39247_0 : decode cJ7_copyOfRange_39247 0 = .ok (.iload_n 1, 1) := by decide +kernel
theorem dJ7_copyOfRange_39247_1 : decode cJ7_copyOfRange_39247 1 = .ok (.ifCond .ne 9, 3) := by decide +kernel
theorem dJ7_copyOfRange_39247_4 : decode cJ7_copyOfRange_39247 4 = .ok (.iload_n 2, 1) := by decide +kernel
theorem dJ7_copyOfRange_39247_5 : decode cJ7_copyOfRange_39247 5 = .ok (.aload_n 0, 1) := by decide +kernel
theorem dJ7_copyOfRange_39247_6 : decode cJ7_copyOfRange_39247 6 = .ok (.arraylength, 1) := by decide +kernel
theorem dJ7_copyOfRange_39247_7 : decode cJ7_copyOfRange_39247 7 = .ok (.if_icmp .eq 10, 3) := by decide +kernel
theorem dJ7_copyOfRange_39247_10 : decode cJ7_copyOfRange_39247 10 = .ok (.aload_n 0, 1) := by decide +kernel
theorem dJ7_copyOfRange_39247_11 : decode cJ7_copyOfRange_39247 11 = .ok (.iload_n 1, 1) := by decide +kernel
theorem dJ7_copyOfRange_39247_12 : decode cJ7_copyOfRange_39247 12 = .ok (.iload_n 2, 1) := by decide +kernel
theorem dJ7_copyOfRange_39247_13 : decode cJ7_copyOfRange_39247 13 = .ok (.invokestatic 339, 3) := by decide +kernel
theorem dJ7_copyOfRange_39247_16 : decode cJ7_copyOfRange_39247 16 = .ok (.areturn, 1) := by decide +kernel
theorem dJ7_copyOfRange_39247_17 : decode cJ7_copyOfRange_39247 17 = .ok (.aload_n 0, 1) := by decide +kernel
theorem dJ7_copyOfRange_39247_18 : decode cJ7_copyOfRange_39247 18 = .ok (.invokevirtual 310, 3) := by decide +kernel
theorem dJ7_copyOfRange_39247_21 : decode cJ7_copyOfRange_39247 21 = .ok (.checkcast 311, 3) := by decide +kernel
theorem dJ7_copyOfRange_39247_24 : decode cJ7_copyOfRange_39247 24 = .ok (.areturn, 1) := by decide +kernel
theorem dJ7_copyOfRangeByte_39247_0 : decode cJ7_copyOfRangeByte_39247 0 = .ok (.iload_n 1, 1) := by decide +kernel
theorem dJ7_copyOfRangeByte_39247_1 : decode cJ7_copyOfRangeByte_39247 1 = .ok (.iload_n 2, 1) := by decide +kernel
theorem dJ7_copyOfRangeByte_39247_2 : decode cJ7_copyOfRangeByte_39247 2 = .ok (.invokestatic 343, 3) := by decide +kernel
theorem dJ7_copyOfRangeByte_39247_5 : decode cJ7_copyOfRangeByte_39247 5 = .ok (.iload_n 2, 1) := by decide +kernel
theorem dJ7_copyOfRangeByte_39247_6 : decode cJ7_copyOfRangeByte_39247 6 = .ok (.iload_n 1, 1) := by decide +kernel
theorem dJ7_copyOfRangeByte_39247_7 : decode cJ7_copyOfRangeByte_39247 7 = .ok (.isub, 1) := by decide +kernel
theorem dJ7_copyOfRangeByte_39247_8 : decode cJ7_copyOfRangeByte_39247 8 = .ok (.istore_n 3, 1) := by decide +kernel
theorem dJ7_copyOfRangeByte_39247_9 : decode cJ7_copyOfRangeByte_39247 9 = .ok (.iload_n 3, 1) := by decide +kernel
theorem dJ7_copyOfRangeByte_39247_10 : decode cJ7_copyOfRangeByte_39247 10 = .ok (.newarray .byte, 2) := by decide +kernel
theorem dJ7_copyOfRangeByte_39247_12 : decode cJ7_copyOfRangeByte_39247 12 = .ok (.astore 4, 2) := by decide +kernel
theorem dJ7_copyOfRangeByte_39247_14 : decode cJ7_copyOfRangeByte_39247 14 = .ok (.aload_n 0, 1) := by decide +kernel
theorem dJ7_copyOfRangeByte_39247_15 : decode cJ7_copyOfRangeByte_39247 15 = .ok (.iload_n 1, 1) := by decide +kernel
theorem dJ7_copyOfRangeByte_39247_16 : decode cJ7_copyOfRangeByte_39247 16 = .ok (.aload 4, 2) := by decide +kernel
theorem dJ7_copyOfRangeByte_39247_18 : decode cJ7_copyOfRangeByte_39247 18 = .ok (.iconst 0, 1) := by decide +kernel
theorem dJ7_copyOfRangeByte_39247_19 : decode cJ7_copyOfRangeByte_39247 19 = .ok (.aload_n 0, 1) := by decide +kernel
theorem dJ7_copyOfRangeByte_39247_20 : decode cJ7_copyOfRangeByte_39247 20 = .ok (.arraylength, 1) := by decide +kernel
theorem dJ7_copyOfRangeByte_39247_21 : decode cJ7_copyOfRangeByte_39247 21 = .ok (.iload_n 1, 1) := by decide +kernel
theorem dJ7_copyOfRangeByte_39247_22 : decode cJ7_copyOfRangeByte_39247 22 = .ok (.isub, 1) := by decide +kernel
theorem dJ7_copyOfRangeByte_39247_23 : decode cJ7_copyOfRangeByte_39247 23 = .ok (.iload_n 3, 1) := by decide +kernel
theorem dJ7_copyOfRangeByte_39247_24 : decode cJ7_copyOfRangeByte_39247 24 = .ok (.invokestatic 304, 3) := by decide +kernel
theorem dJ7_copyOfRangeByte_39247_27 : decode cJ7_copyOfRangeByte_39247 27 = .ok (.invokestatic 150, 3) := by decide +kernel
theorem dJ7_copyOfRangeByte_39247_30 : decode cJ7_copyOfRangeByte_39247 30 = .ok (.aload 4, 2) := by decide +kernel
theorem dJ7_copyOfRangeByte_39247_32 : decode cJ7_copyOfRangeByte_39247 32 = .ok (.areturn, 1) := by decide +kernel
theorem dJ15_checkIndex_7cf53_0 : decode cJ15_checkIndex_7cf53 0 = .ok (.iload_n 0, 1) := by decide +kernel
theorem dJ15_checkIndex_7cf53_1 : decode cJ15_checkIndex_7cf53 1 = .ok (.iload_n 1, 1) := by decide +kernel
theorem dJ15_checkIndex_7cf53_2 : decode cJ15_checkIndex_7cf53 2 = .ok (.aconst_null, 1) := by decide +kernel
theorem dJ15_checkIndex_7cf53_3 : decode cJ15_checkIndex_7cf53 3 = .ok (.invokestatic 105, 3) := by decide +kernel
theorem dJ15_checkIndex_7cf53_6 : decode cJ15_checkIndex_7cf53 6 = .ok (.ireturn, 1) := by decide +kernel
theorem dJx9a822_getLongUnaligned_f02c6_0 : decode cJx9a822_getLongUnaligned_f02c6 0 = .ok (.lload_n 2, 1) := by decide +kernel
theorem dJx9a822_getLongUnaligned_f02c6_1 : decode cJx9a822_getLongUnaligned_f02c6 1 = .ok (.ldc2_w 696, 3) := by decide +kernel
theorem dJx9a822_getLongUnaligned_f02c6_4 : decode cJx9a822_getLongUnaligned_f02c6 4 = .ok (.land, 1) := by decide +kernel
theorem dJx9a822_getLongUnaligned_f02c6_5 : decode cJx9a822_getLongUnaligned_f02c6 5 = .ok (.lconst 0, 1) := by decide +kernel
theorem dJx9a822_getLongUnaligned_f02c6_6 : decode cJx9a822_getLongUnaligned_f02c6 6 = .ok (.lcmp, 1) := by decide +kernel
theorem dJx9a822_getLongUnaligned_f02c6_7 : decode cJx9a822_getLongUnaligned_f02c6 7 = .ok (.ifCond .ne 10, 3) := by decide +kernel
theorem dJx9a822_getLongUnaligned_f02c6_10 : decode cJx9a822_getLongUnaligned_f02c6 10 = .ok (.aload_n 0, 1) := by decide +kernel
theorem dJx9a822_getLongUnaligned_f02c6_11 : decode cJx9a822_getLongUnaligned_f02c6 11 = .ok (.aload_n 1, 1) := by decide +kernel
theorem dJx9a822_getLongUnaligned_f02c6_12 : decode cJx9a822_getLongUnaligned_f02c6 12 = .ok (.lload_n 2, 1) := by decide +kernel
theorem dJx9a822_getLongUnaligned_f02c6_13 : decode cJx9a822_getLongUnaligned_f02c6 13 = .ok (.invokevirtual 27, 3) := by decide +kernel
theorem dJx9a822_getLongUnaligned_f02c6_16 : decode cJx9a822_getLongUnaligned_f02c6 16 = .ok (.lreturn, 1) := by decide +kernel
theorem dJx9a822_getLongUnaligned_f02c6_17 : decode cJx9a822_getLongUnaligned_f02c6 17 = .ok (.lload_n 2, 1) := by decide +kernel
theorem dJx9a822_getLongUnaligned_f02c6_18 : decode cJx9a822_getLongUnaligned_f02c6 18 = .ok (.ldc2_w 349, 3) := by decide +kernel
theorem dJx9a822_getLongUnaligned_f02c6_21 : decode cJx9a822_getLongUnaligned_f02c6 21 = .ok (.land, 1) := by decide +kernel
theorem dJx9a822_getLongUnaligned_f02c6_22 : decode cJx9a822_getLongUnaligned_f02c6 22 = .ok (.lconst 0, 1) := by decide +kernel
theorem dJx9a822_getLongUnaligned_f02c6_23 : decode cJx9a822_getLongUnaligned_f02c6 23 = .ok (.lcmp, 1) := by decide +kernel
theorem dJx9a822_getLongUnaligned_f02c6_24 : decode cJx9a822_getLongUnaligned_f02c6 24 = .ok (.ifCond .ne 23, 3) := by decide +kernel
theorem dJx9a822_getLongUnaligned_f02c6_27 : decode cJx9a822_getLongUnaligned_f02c6 27 = .ok (.aload_n 0, 1) := by decide +kernel
theorem dJx9a822_getLongUnaligned_f02c6_28 : decode cJx9a822_getLongUnaligned_f02c6 28 = .ok (.aload_n 1, 1) := by decide +kernel
theorem dJx9a822_getLongUnaligned_f02c6_29 : decode cJx9a822_getLongUnaligned_f02c6 29 = .ok (.lload_n 2, 1) := by decide +kernel
theorem dJx9a822_getLongUnaligned_f02c6_30 : decode cJx9a822_getLongUnaligned_f02c6 30 = .ok (.invokevirtual 17, 3) := by decide +kernel
theorem dJx9a822_getLongUnaligned_f02c6_33 : decode cJx9a822_getLongUnaligned_f02c6 33 = .ok (.aload_n 0, 1) := by decide +kernel
theorem dJx9a822_getLongUnaligned_f02c6_34 : decode cJx9a822_getLongUnaligned_f02c6 34 = .ok (.aload_n 1, 1) := by decide +kernel
theorem dJx9a822_getLongUnaligned_f02c6_35 : decode cJx9a822_getLongUnaligned_f02c6 35 = .ok (.lload_n 2, 1) := by decide +kernel
theorem dJx9a822_getLongUnaligned_f02c6_36 : decode cJx9a822_getLongUnaligned_f02c6 36 = .ok (.ldc2_w 205, 3) := by decide +kernel
theorem dJx9a822_getLongUnaligned_f02c6_39 : decode cJx9a822_getLongUnaligned_f02c6 39 = .ok (.ladd, 1) := by decide +kernel
theorem dJx9a822_getLongUnaligned_f02c6_40 : decode cJx9a822_getLongUnaligned_f02c6 40 = .ok (.invokevirtual 17, 3) := by decide +kernel
theorem dJx9a822_getLongUnaligned_f02c6_43 : decode cJx9a822_getLongUnaligned_f02c6 43 = .ok (.invokestatic 698, 3) := by decide +kernel
theorem dJx9a822_getLongUnaligned_f02c6_46 : decode cJx9a822_getLongUnaligned_f02c6 46 = .ok (.lreturn, 1) := by decide +kernel
theorem dJx9a822_getLongUnaligned_f02c6_47 : decode cJx9a822_getLongUnaligned_f02c6 47 = .ok (.lload_n 2, 1) := by decide +kernel
theorem dJx9a822_getLongUnaligned_f02c6_48 : decode cJx9a822_getLongUnaligned_f02c6 48 = .ok (.lconst 1, 1) := by decide +kernel
theorem dJx9a822_getLongUnaligned_f02c6_49 : decode cJx9a822_getLongUnaligned_f02c6 49 = .ok (.land, 1) := by decide +kernel
theorem dJx9a822_getLongUnaligned_f02c6_50 : decode cJx9a822_getLongUnaligned_f02c6 50 = .ok (.lconst 0, 1) := by decide +kernel
theorem dJx9a822_getLongUnaligned_f02c6_51 : decode cJx9a822_getLongUnaligned_f02c6 51 = .ok (.lcmp, 1) := by decide +kernel
theorem dJx9a822_getLongUnaligned_f02c6_52 : decode cJx9a822_getLongUnaligned_f02c6 52 = .ok (.ifCond .ne 43, 3) := by decide +kernel
theorem dJx9a822_getLongUnaligned_f02c6_55 : decode cJx9a822_getLongUnaligned_f02c6 55 = .ok (.aload_n 0, 1) := by decide +kernel
theorem dJx9a822_getLongUnaligned_f02c6_56 : decode cJx9a822_getLongUnaligned_f02c6 56 = .ok (.aload_n 1, 1) := by decide +kernel
theorem dJx9a822_getLongUnaligned_f02c6_57 : decode cJx9a822_getLongUnaligned_f02c6 57 = .ok (.lload_n 2, 1) := by decide +kernel
theorem dJx9a822_getLongUnaligned_f02c6_58 : decode cJx9a822_getLongUnaligned_f02c6 58 = .ok (.invokevirtual 47, 3) := by decide +kernel
theorem dJx9a822_getLongUnaligned_f02c6_61 : decode cJx9a822_getLongUnaligned_f02c6 61 = .ok (.aload_n 0, 1) := by decide +kernel
theorem dJx9a822_getLongUnaligned_f02c6_62 : decode cJx9a822_getLongUnaligned_f02c6 62 = .ok (.aload_n 1, 1) := by decide +kernel
theorem dJx9a822_getLongUnaligned_f02c6_63 : decode cJx9a822_getLongUnaligned_f02c6 63 = .ok (.lload_n 2, 1) := by decide +kernel
theorem dJx9a822_getLongUnaligned_f02c6_64 : decode cJx9a822_getLongUnaligned_f02c6 64 = .ok (.ldc2_w 203, 3) := by decide +kernel
theorem dJx9a822_getLongUnaligned_f02c6_67 : decode cJx9a822_getLongUnaligned_f02c6 67 = .ok (.ladd, 1) := by decide +kernel
theorem dJx9a822_getLongUnaligned_f02c6_68 : decode cJx9a822_getLongUnaligned_f02c6 68 = .ok (.invokevirtual 47, 3) := by decide +kernel
theorem dJx9a822_getLongUnaligned_f02c6_71 : decode cJx9a822_getLongUnaligned_f02c6 71 = .ok (.aload_n 0, 1) := by decide +kernel
theorem dJx9a822_getLongUnaligned_f02c6_72 : decode cJx9a822_getLongUnaligned_f02c6 72 = .ok (.aload_n 1, 1) := by decide +kernel
theorem dJx9a822_getLongUnaligned_f02c6_73 : decode cJx9a822_getLongUnaligned_f02c6 73 = .ok (.lload_n 2, 1) := by decide +kernel
theorem dJx9a822_getLongUnaligned_f02c6_74 : decode cJx9a822_getLongUnaligned_f02c6 74 = .ok (.ldc2_w 205, 3) := by decide +kernel
theorem dJx9a822_getLongUnaligned_f02c6_77 : decode cJx9a822_getLongUnaligned_f02c6 77 = .ok (.ladd, 1) := by decide +kernel
theorem dJx9a822_getLongUnaligned_f02c6_78 : decode cJx9a822_getLongUnaligned_f02c6 78 = .ok (.invokevirtual 47, 3) := by decide +kernel
theorem dJx9a822_getLongUnaligned_f02c6_81 : decode cJx9a822_getLongUnaligned_f02c6 81 = .ok (.aload_n 0, 1) := by decide +kernel
theorem dJx9a822_getLongUnaligned_f02c6_82 : decode cJx9a822_getLongUnaligned_f02c6 82 = .ok (.aload_n 1, 1) := by decide +kernel
theorem dJx9a822_getLongUnaligned_f02c6_83 : decode cJx9a822_getLongUnaligned_f02c6 83 = .ok (.lload_n 2, 1) := by decide +kernel
theorem dJx9a822_getLongUnaligned_f02c6_84 : decode cJx9a822_getLongUnaligned_f02c6 84 = .ok (.ldc2_w 702, 3) := by decide +kernel
theorem dJx9a822_getLongUnaligned_f02c6_87 : decode cJx9a822_getLongUnaligned_f02c6 87 = .ok (.ladd, 1) := by decide +kernel
theorem dJx9a822_getLongUnaligned_f02c6_88 : decode cJx9a822_getLongUnaligned_f02c6 88 = .ok (.invokevirtual 47, 3) := by decide +kernel
theorem dJx9a822_getLongUnaligned_f02c6_91 : decode cJx9a822_getLongUnaligned_f02c6 91 = .ok (.invokestatic 704, 3) := by decide +kernel
theorem dJx9a822_getLongUnaligned_f02c6_94 : decode cJx9a822_getLongUnaligned_f02c6 94 = .ok (.lreturn, 1) := by decide +kernel
theorem dJx9a822_getLongUnaligned_f02c6_95 : decode cJx9a822_getLongUnaligned_f02c6 95 = .ok (.aload_n 0, 1) := by decide +kernel
theorem dJx9a822_getLongUnaligned_f02c6_96 : decode cJx9a822_getLongUnaligned_f02c6 96 = .ok (.aload_n 1, 1) := by decide +kernel
theorem dJx9a822_getLongUnaligned_f02c6_97 : decode cJx9a822_getLongUnaligned_f02c6 97 = .ok (.lload_n 2, 1) := by decide +kernel
theorem dJx9a822_getLongUnaligned_f02c6_98 : decode cJx9a822_getLongUnaligned_f02c6 98 = .ok (.invokevirtual 39, 3) := by decide +kernel
theorem dJx9a822_getLongUnaligned_f02c6_101 : decode cJx9a822_getLongUnaligned_f02c6 101 = .ok (.aload_n 0, 1) := by decide +kernel
theorem dJx9a822_getLongUnaligned_f02c6_102 : decode cJx9a822_getLongUnaligned_f02c6 102 = .ok (.aload_n 1, 1) := by decide +kernel
theorem dJx9a822_getLongUnaligned_f02c6_103 : decode cJx9a822_getLongUnaligned_f02c6 103 = .ok (.lload_n 2, 1) := by decide +kernel
theorem dJx9a822_getLongUnaligned_f02c6_104 : decode cJx9a822_getLongUnaligned_f02c6 104 = .ok (.lconst 1, 1) := by decide +kernel
theorem dJx9a822_getLongUnaligned_f02c6_105 : decode cJx9a822_getLongUnaligned_f02c6 105 = .ok (.ladd, 1) := by decide +kernel
theorem dJx9a822_getLongUnaligned_f02c6_106 : decode cJx9a822_getLongUnaligned_f02c6 106 = .ok (.invokevirtual 39, 3) := by decide +kernel
theorem dJx9a822_getLongUnaligned_f02c6_109 : decode cJx9a822_getLongUnaligned_f02c6 109 = .ok (.aload_n 0, 1) := by decide +kernel
theorem dJx9a822_getLongUnaligned_f02c6_110 : decode cJx9a822_getLongUnaligned_f02c6 110 = .ok (.aload_n 1, 1) := by decide +kernel
theorem dJx9a822_getLongUnaligned_f02c6_111 : decode cJx9a822_getLongUnaligned_f02c6 111 = .ok (.lload_n 2, 1) := by decide +kernel
theorem dJx9a822_getLongUnaligned_f02c6_112 : decode cJx9a822_getLongUnaligned_f02c6 112 = .ok (.ldc2_w 203, 3) := by decide +kernel
theorem dJx9a822_getLongUnaligned_f02c6_115 : decode cJx9a822_getLongUnaligned_f02c6 115 = .ok (.ladd, 1) := by decide +kernel
theorem dJx9a822_getLongUnaligned_f02c6_116 : decode cJx9a822_getLongUnaligned_f02c6 116 = .ok (.invokevirtual 39, 3) := by decide +kernel
theorem dJx9a822_getLongUnaligned_f02c6_119 : decode cJx9a822_getLongUnaligned_f02c6 119 = .ok (.aload_n 0, 1) := by decide +kernel
theorem dJx9a822_getLongUnaligned_f02c6_120 : decode cJx9a822_getLongUnaligned_f02c6 120 = .ok (.aload_n 1, 1) := by decide +kernel
theorem dJx9a822_getLongUnaligned_f02c6_121 : decode cJx9a822_getLongUnaligned_f02c6 121 = .ok (.lload_n 2, 1) := by decide +kernel
theorem dJx9a822_getLongUnaligned_f02c6_122 : decode cJx9a822_getLongUnaligned_f02c6 122 = .ok (.ldc2_w 349, 3) := by decide +kernel
theorem dJx9a822_getLongUnaligned_f02c6_125 : decode cJx9a822_getLongUnaligned_f02c6 125 = .ok (.ladd, 1) := by decide +kernel
theorem dJx9a822_getLongUnaligned_f02c6_126 : decode cJx9a822_getLongUnaligned_f02c6 126 = .ok (.invokevirtual 39, 3) := by decide +kernel
theorem dJx9a822_getLongUnaligned_f02c6_129 : decode cJx9a822_getLongUnaligned_f02c6 129 = .ok (.aload_n 0, 1) := by decide +kernel
theorem dJx9a822_getLongUnaligned_f02c6_130 : decode cJx9a822_getLongUnaligned_f02c6 130 = .ok (.aload_n 1, 1) := by decide +kernel
theorem dJx9a822_getLongUnaligned_f02c6_131 : decode cJx9a822_getLongUnaligned_f02c6 131 = .ok (.lload_n 2, 1) := by decide +kernel
theorem dJx9a822_getLongUnaligned_f02c6_132 : decode cJx9a822_getLongUnaligned_f02c6 132 = .ok (.ldc2_w 205, 3) := by decide +kernel
theorem dJx9a822_getLongUnaligned_f02c6_135 : decode cJx9a822_getLongUnaligned_f02c6 135 = .ok (.ladd, 1) := by decide +kernel
theorem dJx9a822_getLongUnaligned_f02c6_136 : decode cJx9a822_getLongUnaligned_f02c6 136 = .ok (.invokevirtual 39, 3) := by decide +kernel
theorem dJx9a822_getLongUnaligned_f02c6_139 : decode cJx9a822_getLongUnaligned_f02c6 139 = .ok (.aload_n 0, 1) := by decide +kernel
theorem dJx9a822_getLongUnaligned_f02c6_140 : decode cJx9a822_getLongUnaligned_f02c6 140 = .ok (.aload_n 1, 1) := by decide +kernel
theorem dJx9a822_getLongUnaligned_f02c6_141 : decode cJx9a822_getLongUnaligned_f02c6 141 = .ok (.lload_n 2, 1) := by decide +kernel
theorem dJx9a822_getLongUnaligned_f02c6_142 : decode cJx9a822_getLongUnaligned_f02c6 142 = .ok (.ldc2_w 707, 3) := by decide +kernel
theorem dJx9a822_getLongUnaligned_f02c6_145 : decode cJx9a822_getLongUnaligned_f02c6 145 = .ok (.ladd, 1) := by decide +kernel
theorem dJx9a822_getLongUnaligned_f02c6_146 : decode cJx9a822_getLongUnaligned_f02c6 146 = .ok (.invokevirtual 39, 3) := by decide +kernel
theorem dJx9a822_getLongUnaligned_f02c6_149 : decode cJx9a822_getLongUnaligned_f02c6 149 = .ok (.aload_n 0, 1) := by decide +kernel
theorem dJx9a822_getLongUnaligned_f02c6_150 : decode cJx9a822_getLongUnaligned_f02c6 150 = .ok (.aload_n 1, 1) := by decide +kernel
theorem dJx9a822_getLongUnaligned_f02c6_151 : decode cJx9a822_getLongUnaligned_f02c6 151 = .ok (.lload_n 2, 1) := by decide +kernel
theorem dJx9a822_getLongUnaligned_f02c6_152 : decode cJx9a822_getLongUnaligned_f02c6 152 = .ok (.ldc2_w 702, 3) := by decide +kernel
theorem dJx9a822_getLongUnaligned_f02c6_155 : decode cJx9a822_getLongUnaligned_f02c6 155 = .ok (.ladd, 1) := by decide +kernel
theorem dJx9a822_getLongUnaligned_f02c6_156 : decode cJx9a822_getLongUnaligned_f02c6 156 = .ok (.invokevirtual 39, 3) := by decide +kernel
theorem dJx9a822_getLongUnaligned_f02c6_159 : decode cJx9a822_getLongUnaligned_f02c6 159 = .ok (.aload_n 0, 1) := by decide +kernel
theorem dJx9a822_getLongUnaligned_f02c6_160 : decode cJx9a822_getLongUnaligned_f02c6 160 = .ok (.aload_n 1, 1) := by decide +kernel
theorem dJx9a822_getLongUnaligned_f02c6_161 : decode cJx9a822_getLongUnaligned_f02c6 161 = .ok (.lload_n 2, 1) := by decide +kernel
theorem dJx9a822_getLongUnaligned_f02c6_162 : decode cJx9a822_getLongUnaligned_f02c6 162 = .ok (.ldc2_w 696, 3) := by decide +kernel
theorem dJx9a822_getLongUnaligned_f02c6_165 : decode cJx9a822_getLongUnaligned_f02c6 165 = .ok (.ladd, 1) := by decide +kernel
theorem dJx9a822_getLongUnaligned_f02c6_166 : decode cJx9a822_getLongUnaligned_f02c6 166 = .ok (.invokevirtual 39, 3) := by decide +kernel
theorem dJx9a822_getLongUnaligned_f02c6_169 : decode cJx9a822_getLongUnaligned_f02c6 169 = .ok (.invokestatic 709, 3) := by decide +kernel
theorem dJx9a822_getLongUnaligned_f02c6_172 : decode cJx9a822_getLongUnaligned_f02c6 172 = .ok (.lreturn, 1) := by decide +kernel
theorem dJ8_vectorizedMismatch_456ae_0 : decode cJ8_vectorizedMismatch_456ae 0 = .ok (.getstatic 20, 3) := by decide +kernel
theorem dJ8_vectorizedMismatch_456ae_3 : decode cJ8_vectorizedMismatch_456ae 3 = .ok (.iload 7, 2) := by decide +kernel
theorem dJ8_vectorizedMismatch_456ae_5 : decode cJ8_vectorizedMismatch_456ae 5 = .ok (.isub, 1) := by decide +kernel
theorem dJ8_vectorizedMismatch_456ae_6 : decode cJ8_vectorizedMismatch_456ae 6 = .ok (.istore 8, 2) := by decide +kernel
theorem dJ8_vectorizedMismatch_456ae_8 : decode cJ8_vectorizedMismatch_456ae 8 = .ok (.iconst 0, 1) := by decide +kernel
theorem dJ8_vectorizedMismatch_456ae_9 : decode cJ8_vectorizedMismatch_456ae 9 = .ok (.istore 9, 2) := by decide +kernel
theorem dJ8_vectorizedMismatch_456ae_11 : decode cJ8_vectorizedMismatch_456ae 11 = .ok (.iload 9, 2) := by decide +kernel
theorem dJ8_vectorizedMismatch_456ae_13 : decode cJ8_vectorizedMismatch_456ae 13 = .ok (.iload 6, 2) := by decide +kernel
theorem dJ8_vectorizedMismatch_456ae_15 : decode cJ8_vectorizedMismatch_456ae 15 = .ok (.iload 8, 2) := by decide +kernel
theorem dJ8_vectorizedMismatch_456ae_17 : decode cJ8_vectorizedMismatch_456ae 17 = .ok (.ishr, 1) := by decide +kernel
theorem dJ8_vectorizedMismatch_456ae_18 : decode cJ8_vectorizedMismatch_456ae 18 = .ok (.if_icmp .ge 104, 3) := by decide +kernel
theorem dJ8_vectorizedMismatch_456ae_21 : decode cJ8_vectorizedMismatch_456ae 21 = .ok (.iload 9, 2) := by decide +kernel
theorem dJ8_vectorizedMismatch_456ae_23 : decode cJ8_vectorizedMismatch_456ae 23 = .ok (.i2l, 1) := by decide +kernel
theorem dJ8_vectorizedMismatch_456ae_24 : decode cJ8_vectorizedMismatch_456ae 24 = .ok (.getstatic 20, 3) := by decide +kernel
theorem dJ8_vectorizedMismatch_456ae_27 : decode cJ8_vectorizedMismatch_456ae 27 = .ok (.lshl, 1) := by decide +kernel
theorem dJ8_vectorizedMismatch_456ae_28 : decode cJ8_vectorizedMismatch_456ae 28 = .ok (.lstore 10, 2) := by decide +kernel
theorem dJ8_vectorizedMismatch_456ae_30 : decode cJ8_vectorizedMismatch_456ae 30 = .ok (.getstatic 26, 3) := by decide +kernel
theorem dJ8_vectorizedMismatch_456ae_33 : decode cJ8_vectorizedMismatch_456ae 33 = .ok (.aload_n 0, 1) := by decide +kernel
theorem dJ8_vectorizedMismatch_456ae_34 : decode cJ8_vectorizedMismatch_456ae 34 = .ok (.lload_n 1, 1) := by decide +kernel
theorem dJ8_vectorizedMismatch_456ae_35 : decode cJ8_vectorizedMismatch_456ae 35 = .ok (.lload 10, 2) := by decide +kernel
theorem dJ8_vectorizedMismatch_456ae_37 : decode cJ8_vectorizedMismatch_456ae 37 = .ok (.ladd, 1) := by decide +kernel
theorem dJ8_vectorizedMismatch_456ae_38 : decode cJ8_vectorizedMismatch_456ae 38 = .ok (.invokevirtual 30, 3) := by decide +kernel
theorem dJ8_vectorizedMismatch_456ae_41 : decode cJ8_vectorizedMismatch_456ae 41 = .ok (.lstore 12, 2) := by decide +kernel
theorem dJ8_vectorizedMismatch_456ae_43 : decode cJ8_vectorizedMismatch_456ae 43 = .ok (.getstatic 26, 3) := by decide +kernel
theorem dJ8_vectorizedMismatch_456ae_46 : decode cJ8_vectorizedMismatch_456ae 46 = .ok (.aload_n 3, 1) := by decide +kernel
theorem dJ8_vectorizedMismatch_456ae_47 : decode cJ8_vectorizedMismatch_456ae 47 = .ok (.lload 4, 2) := by decide +kernel
theorem dJ8_vectorizedMismatch_456ae_49 : decode cJ8_vectorizedMismatch_456ae 49 = .ok (.lload 10, 2) := by decide +kernel
theorem dJ8_vectorizedMismatch_456ae_51 : decode cJ8_vectorizedMismatch_456ae 51 = .ok (.ladd, 1) := by decide +kernel
theorem dJ8_vectorizedMismatch_456ae_52 : decode cJ8_vectorizedMismatch_456ae 52 = .ok (.invokevirtual 30, 3) := by decide +kernel
theorem dJ8_vectorizedMismatch_456ae_55 : decode cJ8_vectorizedMismatch_456ae 55 = .ok (.lstore 14, 2) := by decide +kernel
theorem dJ8_vectorizedMismatch_456ae_57 : decode cJ8_vectorizedMismatch_456ae 57 = .ok (.lload 12, 2) := by decide +kernel
theorem dJ8_vectorizedMismatch_456ae_59 : decode cJ8_vectorizedMismatch_456ae 59 = .ok (.lload 14, 2) := by decide +kernel
theorem dJ8_vectorizedMismatch_456ae_61 : decode cJ8_vectorizedMismatch_456ae 61 = .ok (.lcmp, 1) := by decide +kernel
theorem dJ8_vectorizedMismatch_456ae_62 : decode cJ8_vectorizedMismatch_456ae 62 = .ok (.ifCond .eq 54, 3) := by decide +kernel
theorem dJ8_vectorizedMismatch_456ae_65 : decode cJ8_vectorizedMismatch_456ae 65 = .ok (.lload 12, 2) := by decide +kernel
theorem dJ8_vectorizedMismatch_456ae_67 : decode cJ8_vectorizedMismatch_456ae 67 = .ok (.lload 14, 2) := by decide +kernel
theorem dJ8_vectorizedMismatch_456ae_69 : decode cJ8_vectorizedMismatch_456ae 69 = .ok (.lxor, 1) := by decide +kernel
theorem dJ8_vectorizedMismatch_456ae_70 : decode cJ8_vectorizedMismatch_456ae 70 = .ok (.lstore 16, 2) := by decide +kernel
theorem dJ8_vectorizedMismatch_456ae_72 : decode cJ8_vectorizedMismatch_456ae 72 = .ok (.getstatic 36, 3) := by decide +kernel
theorem dJ8_vectorizedMismatch_456ae_75 : decode cJ8_vectorizedMismatch_456ae 75 = .ok (.ifCond .eq 18, 3) := by decide +kernel
theorem dJ8_vectorizedMismatch_456ae_78 : decode cJ8_vectorizedMismatch_456ae 78 = .ok (.lload 16, 2) := by decide +kernel
theorem dJ8_vectorizedMismatch_456ae_80 : decode cJ8_vectorizedMismatch_456ae 80 = .ok (.invokestatic 40, 3) := by decide +kernel
theorem dJ8_vectorizedMismatch_456ae_83 : decode cJ8_vectorizedMismatch_456ae 83 = .ok (.getstatic 46, 3) := by decide +kernel
theorem dJ8_vectorizedMismatch_456ae_86 : decode cJ8_vectorizedMismatch_456ae 86 = .ok (.iload 7, 2) := by decide +kernel
theorem dJ8_vectorizedMismatch_456ae_88 : decode cJ8_vectorizedMismatch_456ae 88 = .ok (.iadd, 1) := by decide +kernel
theorem dJ8_vectorizedMismatch_456ae_89 : decode cJ8_vectorizedMismatch_456ae 89 = .ok (.ishr, 1) := by decide +kernel
theorem dJ8_vectorizedMismatch_456ae_90 : decode cJ8_vectorizedMismatch_456ae 90 = .ok (.goto 15, 3) := by decide +kernel
theorem dJ8_vectorizedMismatch_456ae_93 : decode cJ8_vectorizedMismatch_456ae 93 = .ok (.lload 16, 2) := by decide +kernel
theorem dJ8_vectorizedMismatch_456ae_95 : decode cJ8_vectorizedMismatch_456ae 95 = .ok (.invokestatic 49, 3) := by decide +kernel
theorem dJ8_vectorizedMismatch_456ae_98 : decode cJ8_vectorizedMismatch_456ae 98 = .ok (.getstatic 46, 3) := by decide +kernel
theorem dJ8_vectorizedMismatch_456ae_101 : decode cJ8_vectorizedMismatch_456ae 101 = .ok (.iload 7, 2) := by decide +kernel
theorem dJ8_vectorizedMismatch_456ae_103 : decode cJ8_vectorizedMismatch_456ae 103 = .ok (.iadd, 1) := by decide +kernel
theorem dJ8_vectorizedMismatch_456ae_104 : decode cJ8_vectorizedMismatch_456ae 104 = .ok (.ishr, 1) := by decide +kernel
theorem dJ8_vectorizedMismatch_456ae_105 : decode cJ8_vectorizedMismatch_456ae 105 = .ok (.istore 18, 2) := by decide +kernel
theorem dJ8_vectorizedMismatch_456ae_107 : decode cJ8_vectorizedMismatch_456ae 107 = .ok (.iload 9, 2) := by decide +kernel
theorem dJ8_vectorizedMismatch_456ae_109 : decode cJ8_vectorizedMismatch_456ae 109 = .ok (.iload 8, 2) := by decide +kernel
theorem dJ8_vectorizedMismatch_456ae_111 : decode cJ8_vectorizedMismatch_456ae 111 = .ok (.ishl, 1) := by decide +kernel
theorem dJ8_vectorizedMismatch_456ae_112 : decode cJ8_vectorizedMismatch_456ae 112 = .ok (.iload 18, 2) := by decide +kernel
theorem dJ8_vectorizedMismatch_456ae_114 : decode cJ8_vectorizedMismatch_456ae 114 = .ok (.iadd, 1) := by decide +kernel
theorem dJ8_vectorizedMismatch_456ae_115 : decode cJ8_vectorizedMismatch_456ae 115 = .ok (.ireturn, 1) := by decide +kernel
theorem dJ8_vectorizedMismatch_456ae_116 : decode cJ8_vectorizedMismatch_456ae 116 = .ok (.iinc 9 1, 3) := by decide +kernel
theorem dJ8_vectorizedMismatch_456ae_119 : decode cJ8_vectorizedMismatch_456ae 119 = .ok (.goto (-108), 3) := by decide +kernel
theorem dJ8_vectorizedMismatch_456ae_122 : decode cJ8_vectorizedMismatch_456ae 122 = .ok (.iload 6, 2) := by decide +kernel
theorem dJ8_vectorizedMismatch_456ae_124 : decode cJ8_vectorizedMismatch_456ae 124 = .ok (.iload 9, 2) := by decide +kernel
theorem dJ8_vectorizedMismatch_456ae_126 : decode cJ8_vectorizedMismatch_456ae 126 = .ok (.iload 8, 2) := by decide +kernel
theorem dJ8_vectorizedMismatch_456ae_128 : decode cJ8_vectorizedMismatch_456ae 128 = .ok (.ishl, 1) := by decide +kernel
theorem dJ8_vectorizedMismatch_456ae_129 : decode cJ8_vectorizedMismatch_456ae 129 = .ok (.isub, 1) := by decide +kernel
theorem dJ8_vectorizedMismatch_456ae_130 : decode cJ8_vectorizedMismatch_456ae 130 = .ok (.istore 10, 2) := by decide +kernel
theorem dJ8_vectorizedMismatch_456ae_132 : decode cJ8_vectorizedMismatch_456ae 132 = .ok (.iload 7, 2) := by decide +kernel
theorem dJ8_vectorizedMismatch_456ae_134 : decode cJ8_vectorizedMismatch_456ae 134 = .ok (.getstatic 51, 3) := by decide +kernel
theorem dJ8_vectorizedMismatch_456ae_137 : decode cJ8_vectorizedMismatch_456ae 137 = .ok (.if_icmp .ge 126, 3) := by decide +kernel
theorem dJ8_vectorizedMismatch_456ae_140 : decode cJ8_vectorizedMismatch_456ae 140 = .ok (.iconst 1, 1) := by decide +kernel
theorem dJ8_vectorizedMismatch_456ae_141 : decode cJ8_vectorizedMismatch_456ae 141 = .ok (.getstatic 51, 3) := by decide +kernel
theorem dJ8_vectorizedMismatch_456ae_144 : decode cJ8_vectorizedMismatch_456ae 144 = .ok (.iload 7, 2) := by decide +kernel
theorem dJ8_vectorizedMismatch_456ae_146 : decode cJ8_vectorizedMismatch_456ae 146 = .ok (.isub, 1) := by decide +kernel
theorem dJ8_vectorizedMismatch_456ae_147 : decode cJ8_vectorizedMismatch_456ae 147 = .ok (.ishl, 1) := by decide +kernel
theorem dJ8_vectorizedMismatch_456ae_148 : decode cJ8_vectorizedMismatch_456ae 148 = .ok (.istore 11, 2) := by decide +kernel
theorem dJ8_vectorizedMismatch_456ae_150 : decode cJ8_vectorizedMismatch_456ae 150 = .ok (.iload 10, 2) := by decide +kernel
theorem dJ8_vectorizedMismatch_456ae_152 : decode cJ8_vectorizedMismatch_456ae 152 = .ok (.iload 11, 2) := by decide +kernel
theorem dJ8_vectorizedMismatch_456ae_154 : decode cJ8_vectorizedMismatch_456ae 154 = .ok (.if_icmp .lt 104, 3) := by decide +kernel
theorem dJ8_vectorizedMismatch_456ae_157 : decode cJ8_vectorizedMismatch_456ae 157 = .ok (.iload 9, 2) := by decide +kernel
theorem dJ8_vectorizedMismatch_456ae_159 : decode cJ8_vectorizedMismatch_456ae 159 = .ok (.i2l, 1) := by decide +kernel
theorem dJ8_vectorizedMismatch_456ae_160 : decode cJ8_vectorizedMismatch_456ae 160 = .ok (.getstatic 20, 3) := by decide +kernel
theorem dJ8_vectorizedMismatch_456ae_163 : decode cJ8_vectorizedMismatch_456ae 163 = .ok (.lshl, 1) := by decide +kernel
theorem dJ8_vectorizedMismatch_456ae_164 : decode cJ8_vectorizedMismatch_456ae 164 = .ok (.lstore 12, 2) := by decide +kernel
theorem dJ8_vectorizedMismatch_456ae_166 : decode cJ8_vectorizedMismatch_456ae 166 = .ok (.getstatic 26, 3) := by decide +kernel
theorem dJ8_vectorizedMismatch_456ae_169 : decode cJ8_vectorizedMismatch_456ae 169 = .ok (.aload_n 0, 1) := by decide +kernel
theorem dJ8_vectorizedMismatch_456ae_170 : decode cJ8_vectorizedMismatch_456ae 170 = .ok (.lload_n 1, 1) := by decide +kernel
theorem dJ8_vectorizedMismatch_456ae_171 : decode cJ8_vectorizedMismatch_456ae 171 = .ok (.lload 12, 2) := by decide +kernel
theorem dJ8_vectorizedMismatch_456ae_173 : decode cJ8_vectorizedMismatch_456ae 173 = .ok (.ladd, 1) := by decide +kernel
theorem dJ8_vectorizedMismatch_456ae_174 : decode cJ8_vectorizedMismatch_456ae 174 = .ok (.invokevirtual 54, 3) := by decide +kernel
theorem dJ8_vectorizedMismatch_456ae_177 : decode cJ8_vectorizedMismatch_456ae 177 = .ok (.istore 14, 2) := by decide +kernel
theorem dJ8_vectorizedMismatch_456ae_179 : decode cJ8_vectorizedMismatch_456ae 179 = .ok (.getstatic 26, 3) := by decide +kernel
theorem dJ8_vectorizedMismatch_456ae_182 : decode cJ8_vectorizedMismatch_456ae 182 = .ok (.aload_n 3, 1) := by decide +kernel
theorem dJ8_vectorizedMismatch_456ae_183 : decode cJ8_vectorizedMismatch_456ae 183 = .ok (.lload 4, 2) := by decide +kernel
theorem dJ8_vectorizedMismatch_456ae_185 : decode cJ8_vectorizedMismatch_456ae 185 = .ok (.lload 12, 2) := by decide +kernel
theorem dJ8_vectorizedMismatch_456ae_187 : decode cJ8_vectorizedMismatch_456ae 187 = .ok (.ladd, 1) := by decide +kernel
theorem dJ8_vectorizedMismatch_456ae_188 : decode cJ8_vectorizedMismatch_456ae 188 = .ok (.invokevirtual 54, 3) := by decide +kernel
theorem dJ8_vectorizedMismatch_456ae_191 : decode cJ8_vectorizedMismatch_456ae 191 = .ok (.istore 15, 2) := by decide +kernel
theorem dJ8_vectorizedMismatch_456ae_193 : decode cJ8_vectorizedMismatch_456ae 193 = .ok (.iload 14, 2) := by decide +kernel
theorem dJ8_vectorizedMismatch_456ae_195 : decode cJ8_vectorizedMismatch_456ae 195 = .ok (.iload 15, 2) := by decide +kernel
theorem dJ8_vectorizedMismatch_456ae_197 : decode cJ8_vectorizedMismatch_456ae 197 = .ok (.if_icmp .eq 54, 3) := by decide +kernel
theorem dJ8_vectorizedMismatch_456ae_200 : decode cJ8_vectorizedMismatch_456ae 200 = .ok (.iload 14, 2) := by decide +kernel
theorem dJ8_vectorizedMismatch_456ae_202 : decode cJ8_vectorizedMismatch_456ae 202 = .ok (.iload 15, 2) := by decide +kernel
theorem dJ8_vectorizedMismatch_456ae_204 : decode cJ8_vectorizedMismatch_456ae 204 = .ok (.ixor, 1) := by decide +kernel
theorem dJ8_vectorizedMismatch_456ae_205 : decode cJ8_vectorizedMismatch_456ae 205 = .ok (.istore 16, 2) := by decide +kernel
theorem dJ8_vectorizedMismatch_456ae_207 : decode cJ8_vectorizedMismatch_456ae 207 = .ok (.getstatic 36, 3) := by decide +kernel
theorem dJ8_vectorizedMismatch_456ae_210 : decode cJ8_vectorizedMismatch_456ae 210 = .ok (.ifCond .eq 18, 3) := by decide +kernel
theorem dJ8_vectorizedMismatch_456ae_213 : decode cJ8_vectorizedMismatch_456ae 213 = .ok (.iload 16, 2) := by decide +kernel
theorem dJ8_vectorizedMismatch_456ae_215 : decode cJ8_vectorizedMismatch_456ae 215 = .ok (.invokestatic 58, 3) := by decide +kernel
theorem dJ8_vectorizedMismatch_456ae_218 : decode cJ8_vectorizedMismatch_456ae 218 = .ok (.getstatic 46, 3) := by decide +kernel
theorem dJ8_vectorizedMismatch_456ae_221 : decode cJ8_vectorizedMismatch_456ae 221 = .ok (.iload 7, 2) := by decide +kernel
theorem dJ8_vectorizedMismatch_456ae_223 : decode cJ8_vectorizedMismatch_456ae 223 = .ok (.iadd, 1) := by decide +kernel
theorem dJ8_vectorizedMismatch_456ae_224 : decode cJ8_vectorizedMismatch_456ae 224 = .ok (.ishr, 1) := by decide +kernel
theorem dJ8_vectorizedMismatch_456ae_225 : decode cJ8_vectorizedMismatch_456ae 225 = .ok (.goto 15, 3) := by decide +kernel
theorem dJ8_vectorizedMismatch_456ae_228 : decode cJ8_vectorizedMismatch_456ae 228 = .ok (.iload 16, 2) := by decide +kernel
theorem dJ8_vectorizedMismatch_456ae_230 : decode cJ8_vectorizedMismatch_456ae 230 = .ok (.invokestatic 11, 3) := by decide +kernel
theorem dJ8_vectorizedMismatch_456ae_233 : decode cJ8_vectorizedMismatch_456ae 233 = .ok (.getstatic 46, 3) := by decide +kernel
theorem dJ8_vectorizedMismatch_456ae_236 : decode cJ8_vectorizedMismatch_456ae 236 = .ok (.iload 7, 2) := by decide +kernel
theorem dJ8_vectorizedMismatch_456ae_238 : decode cJ8_vectorizedMismatch_456ae 238 = .ok (.iadd, 1) := by decide +kernel
theorem dJ8_vectorizedMismatch_456ae_239 : decode cJ8_vectorizedMismatch_456ae 239 = .ok (.ishr, 1) := by decide +kernel
theorem dJ8_vectorizedMismatch_456ae_240 : decode cJ8_vectorizedMismatch_456ae 240 = .ok (.istore 17, 2) := by decide +kernel
theorem dJ8_vectorizedMismatch_456ae_242 : decode cJ8_vectorizedMismatch_456ae 242 = .ok (.iload 9, 2) := by decide +kernel
theorem dJ8_vectorizedMismatch_456ae_244 : decode cJ8_vectorizedMismatch_456ae 244 = .ok (.iload 8, 2) := by decide +kernel
theorem dJ8_vectorizedMismatch_456ae_246 : decode cJ8_vectorizedMismatch_456ae 246 = .ok (.ishl, 1) := by decide +kernel
theorem dJ8_vectorizedMismatch_456ae_247 : decode cJ8_vectorizedMismatch_456ae 247 = .ok (.iload 17, 2) := by decide +kernel
theorem dJ8_vectorizedMismatch_456ae_249 : decode cJ8_vectorizedMismatch_456ae 249 = .ok (.iadd, 1) := by decide +kernel
theorem dJ8_vectorizedMismatch_456ae_250 : decode cJ8_vectorizedMismatch_456ae 250 = .ok (.ireturn, 1) := by decide +kernel
theorem dJ8_vectorizedMismatch_456ae_251 : decode cJ8_vectorizedMismatch_456ae 251 = .ok (.iload 10, 2) := by decide +kernel
theorem dJ8_vectorizedMismatch_456ae_253 : decode cJ8_vectorizedMismatch_456ae 253 = .ok (.iload 11, 2) := by decide +kernel
theorem dJ8_vectorizedMismatch_456ae_255 : decode cJ8_vectorizedMismatch_456ae 255 = .ok (.isub, 1) := by decide +kernel
theorem dJ8_vectorizedMismatch_456ae_256 : decode cJ8_vectorizedMismatch_456ae 256 = .ok (.istore 10, 2) := by decide +kernel
theorem dJ8_vectorizedMismatch_456ae_258 : decode cJ8_vectorizedMismatch_456ae 258 = .ok (.iload 10, 2) := by decide +kernel
theorem dJ8_vectorizedMismatch_456ae_260 : decode cJ8_vectorizedMismatch_456ae 260 = .ok (.iconst (-1), 1) := by decide +kernel
theorem dJ8_vectorizedMismatch_456ae_261 : decode cJ8_vectorizedMismatch_456ae 261 = .ok (.ixor, 1) := by decide +kernel
theorem dJ8_vectorizedMismatch_456ae_262 : decode cJ8_vectorizedMismatch_456ae 262 = .ok (.ireturn, 1) := by decide +kernel
theorem dJ8_vectorizedMismatch_456ae_263 : decode cJ8_vectorizedMismatch_456ae 263 = .ok (.iload 10, 2) := by decide +kernel
theorem dJ8_vectorizedMismatch_456ae_265 : decode cJ8_vectorizedMismatch_456ae 265 = .ok (.iconst (-1), 1) := by decide +kernel
theorem dJ8_vectorizedMismatch_456ae_266 : decode cJ8_vectorizedMismatch_456ae 266 = .ok (.ixor, 1) := by decide +kernel
theorem dJ8_vectorizedMismatch_456ae_267 : decode cJ8_vectorizedMismatch_456ae 267 = .ok (.ireturn, 1) := by decide +kernel
theorem dJ8_mismatch_974f6_0 : decode cJ8_mismatch_974f6 0 = .ok (.iload_n 2, 1) := by decide +kernel
theorem dJ8_mismatch_974f6_1 : decode cJ8_mismatch_974f6 1 = .ok (.ifCond .ne 5, 3) := by decide +kernel
theorem dJ8_mismatch_974f6_4 : decode cJ8_mismatch_974f6 4 = .ok (.iconst (-1), 1) := by decide +kernel
theorem dJ8_mismatch_974f6_5 : decode cJ8_mismatch_974f6 5 = .ok (.ireturn, 1) := by decide +kernel
theorem dJ8_mismatch_974f6_6 : decode cJ8_mismatch_974f6 6 = .ok (.aload_n 0, 1) := by decide +kernel
theorem dJ8_mismatch_974f6_7 : decode cJ8_mismatch_974f6 7 = .ok (.iconst 0, 1) := by decide +kernel
theorem dJ8_mismatch_974f6_8 : decode cJ8_mismatch_974f6 8 = .ok (.laload, 1) := by decide +kernel
theorem dJ8_mismatch_974f6_9 : decode cJ8_mismatch_974f6 9 = .ok (.aload_n 1, 1) := by decide +kernel
theorem dJ8_mismatch_974f6_10 : decode cJ8_mismatch_974f6 10 = .ok (.iconst 0, 1) := by decide +kernel
theorem dJ8_mismatch_974f6_11 : decode cJ8_mismatch_974f6 11 = .ok (.laload, 1) := by decide +kernel
theorem dJ8_mismatch_974f6_12 : decode cJ8_mismatch_974f6 12 = .ok (.lcmp, 1) := by decide +kernel
theorem dJ8_mismatch_974f6_13 : decode cJ8_mismatch_974f6 13 = .ok (.ifCond .eq 5, 3) := by decide +kernel
theorem dJ8_mismatch_974f6_16 : decode cJ8_mismatch_974f6 16 = .ok (.iconst 0, 1) := by decide +kernel
theorem dJ8_mismatch_974f6_17 : decode cJ8_mismatch_974f6 17 = .ok (.ireturn, 1) := by decide +kernel
theorem dJ8_mismatch_974f6_18 : decode cJ8_mismatch_974f6 18 = .ok (.aload_n 0, 1) := by decide +kernel
theorem dJ8_mismatch_974f6_19 : decode cJ8_mismatch_974f6 19 = .ok (.getstatic 170, 3) := by decide +kernel
theorem dJ8_mismatch_974f6_22 : decode cJ8_mismatch_974f6 22 = .ok (.i2l, 1) := by decide +kernel
theorem dJ8_mismatch_974f6_23 : decode cJ8_mismatch_974f6 23 = .ok (.aload_n 1, 1) := by decide +kernel
theorem dJ8_mismatch_974f6_24 : decode cJ8_mismatch_974f6 24 = .ok (.getstatic 170, 3) := by decide +kernel
theorem dJ8_mismatch_974f6_27 : decode cJ8_mismatch_974f6 27 = .ok (.i2l, 1) := by decide +kernel
theorem dJ8_mismatch_974f6_28 : decode cJ8_mismatch_974f6 28 = .ok (.iload_n 2, 1) := by decide +kernel
theorem dJ8_mismatch_974f6_29 : decode cJ8_mismatch_974f6 29 = .ok (.getstatic 20, 3) := by decide +kernel
theorem dJ8_mismatch_974f6_32 : decode cJ8_mismatch_974f6 32 = .ok (.invokestatic 122, 3) := by decide +kernel
theorem dJ8_mismatch_974f6_35 : decode cJ8_mismatch_974f6 35 = .ok (.istore_n 3, 1) := by decide +kernel
theorem dJ8_mismatch_974f6_36 : decode cJ8_mismatch_974f6 36 = .ok (.iload_n 3, 1) := by decide +kernel
theorem dJ8_mismatch_974f6_37 : decode cJ8_mismatch_974f6 37 = .ok (.ifCond .lt 7, 3) := by decide +kernel
theorem dJ8_mismatch_974f6_40 : decode cJ8_mismatch_974f6 40 = .ok (.iload_n 3, 1) := by decide +kernel
theorem dJ8_mismatch_974f6_41 : decode cJ8_mismatch_974f6 41 = .ok (.goto 4, 3) := by decide +kernel
theorem dJ8_mismatch_974f6_44 : decode cJ8_mismatch_974f6 44 = .ok (.iconst (-1), 1) := by decide +kernel
theorem dJ8_mismatch_974f6_45 : decode cJ8_mismatch_974f6 45 = .ok (.ireturn, 1) := by decide +kernel
theorem dJ8_newLength_cabcc_0 : decode cJ8_newLength_cabcc 0 = .ok (.iload_n 0, 1) := by decide +kernel
theorem dJ8_newLength_cabcc_1 : decode cJ8_newLength_cabcc 1 = .ok (.iload_n 1, 1) := by decide +kernel
theorem dJ8_newLength_cabcc_2 : decode cJ8_newLength_cabcc 2 = .ok (.iload_n 2, 1) := by decide +kernel
theorem dJ8_newLength_cabcc_3 : decode cJ8_newLength_cabcc 3 = .ok (.invokestatic 194, 3) := by decide +kernel
theorem dJ8_newLength_cabcc_6 : decode cJ8_newLength_cabcc 6 = .ok (.iadd, 1) := by decide +kernel
theorem dJ8_newLength_cabcc_7 : decode cJ8_newLength_cabcc 7 = .ok (.istore_n 3, 1) := by decide +kernel
theorem dJ8_newLength_cabcc_8 : decode cJ8_newLength_cabcc 8 = .ok (.iconst 0, 1) := by decide +kernel
theorem dJ8_newLength_cabcc_9 : decode cJ8_newLength_cabcc 9 = .ok (.iload_n 3, 1) := by decide +kernel
theorem dJ8_newLength_cabcc_10 : decode cJ8_newLength_cabcc 10 = .ok (.if_icmp .ge 11, 3) := by decide +kernel
theorem dJ8_newLength_cabcc_13 : decode cJ8_newLength_cabcc 13 = .ok (.iload_n 3, 1) := by decide +kernel
theorem dJ8_newLength_cabcc_14 : decode cJ8_newLength_cabcc 14 = .ok (.ldc 200, 2) := by decide +kernel
theorem dJ8_newLength_cabcc_16 : decode cJ8_newLength_cabcc 16 = .ok (.if_icmp .gt 5, 3) := by decide +kernel
theorem dJ8_newLength_cabcc_19 : decode cJ8_newLength_cabcc 19 = .ok (.iload_n 3, 1) := by decide +kernel
theorem dJ8_newLength_cabcc_20 : decode cJ8_newLength_cabcc 20 = .ok (.ireturn, 1) := by decide +kernel
theorem dJ8_newLength_cabcc_21 : decode cJ8_newLength_cabcc 21 = .ok (.iload_n 0, 1) := by decide +kernel
theorem dJ8_newLength_cabcc_22 : decode cJ8_newLength_cabcc 22 = .ok (.iload_n 1, 1) := by decide +kernel
theorem dJ8_newLength_cabcc_23 : decode cJ8_newLength_cabcc 23 = .ok (.invokestatic 201, 3) := by decide +kernel
theorem dJ8_newLength_cabcc_26 : decode cJ8_newLength_cabcc 26 = .ok (.ireturn, 1) := by decide +kernel
theorem dJ3_checkIndex_8e157_0 : decode cJ3_checkIndex_8e157 0 = .ok (.iload_n 0, 1) := by decide +kernel
theorem dJ3_checkIndex_8e157_1 : decode cJ3_checkIndex_8e157 1 = .ok (.ifCond .lt 8, 3) := by decide +kernel
theorem dJ3_checkIndex_8e157_4 : decode cJ3_checkIndex_8e157 4 = .ok (.iload_n 0, 1) := by decide +kernel
theorem dJ3_checkIndex_8e157_5 : decode cJ3_checkIndex_8e157 5 = .ok (.iload_n 1, 1) := by decide +kernel
theorem dJ3_checkIndex_8e157_6 : decode cJ3_checkIndex_8e157 6 = .ok (.if_icmp .lt 10, 3) := by decide +kernel
theorem dJ3_checkIndex_8e157_9 : decode cJ3_checkIndex_8e157 9 = .ok (.aload_n 2, 1) := by decide +kernel
theorem dJ3_checkIndex_8e157_10 : decode cJ3_checkIndex_8e157 10 = .ok (.iload_n 0, 1) := by decide +kernel
theorem dJ3_checkIndex_8e157_11 : decode cJ3_checkIndex_8e157 11 = .ok (.iload_n 1, 1) := by decide +kernel
theorem dJ3_checkIndex_8e157_12 : decode cJ3_checkIndex_8e157 12 = .ok (.invokestatic 95, 3) := by decide +kernel
theorem dJ3_checkIndex_8e157_15 : decode cJ3_checkIndex_8e157 15 = .ok (.athrow, 1) := by decide +kernel
theorem dJ3_checkIndex_8e157_16 : decode cJ3_checkIndex_8e157 16 = .ok (.iload_n 0, 1) := by decide +kernel
theorem dJ3_checkIndex_8e157_17 : decode cJ3_checkIndex_8e157 17 = .ok (.ireturn, 1) := by decide +kernel
