theorem dX3_init_0 : decode cX3_init 0 = .ok (.aload_n 0, 1) := by decide +kernel
theorem dX3_init_1 : decode cX3_init 1 = .ok (.invokespecial 3, 3) := by decide +kernel
theorem dX3_init_4 : decode cX3_init 4 = .ok (.aload_n 0, 1) := by decide +kernel
theorem dX3_init_5 : decode cX3_init 5 = .ok (.bipush 6, 2) := by decide +kernel
theorem dX3_init_7 : decode cX3_init 7 = .ok (.anewarray 9, 3) := by decide +kernel
theorem dX3_init_10 : decode cX3_init 10 = .ok (.putfield 11, 3) := by decide +kernel
theorem dX3_init_13 : decode cX3_init 13 = .ok (.aload_n 0, 1) := by decide +kernel
theorem dX3_init_14 : decode cX3_init 14 = .ok (.iconst 5, 1) := by decide +kernel
theorem dX3_init_15 : decode cX3_init 15 = .ok (.anewarray 17, 3) := by decide +kernel
theorem dX3_init_18 : decode cX3_init 18 = .ok (.putfield 19, 3) := by decide +kernel
theorem dX3_init_21 : decode cX3_init 21 = .ok (.aload_n 0, 1) := by decide +kernel
theorem dX3_init_22 : decode cX3_init 22 = .ok (.bipush 16, 2) := by decide +kernel
theorem dX3_init_24 : decode cX3_init 24 = .ok (.anewarray 23, 3) := by decide +kernel
theorem dX3_init_27 : decode cX3_init 27 = .ok (.putfield 25, 3) := by decide +kernel
theorem dX3_init_30 : decode cX3_init 30 = .ok (.iconst 0, 1) := by decide +kernel
theorem dX3_init_31 : decode cX3_init 31 = .ok (.istore_n 1, 1) := by decide +kernel
theorem dX3_init_32 : decode cX3_init 32 = .ok (.iload_n 1, 1) := by decide +kernel
theorem dX3_init_33 : decode cX3_init 33 = .ok (.bipush 6, 2) := by decide +kernel
theorem dX3_init_35 : decode cX3_init 35 = .ok (.if_icmp .ge 22, 3) := by decide +kernel
theorem dX3_init_38 : decode cX3_init 38 = .ok (.aload_n 0, 1) := by decide +kernel
theorem dX3_init_39 : decode cX3_init 39 = .ok (.getfield 11, 3) := by decide +kernel
theorem dX3_init_42 : decode cX3_init 42 = .ok (.iload_n 1, 1) := by decide +kernel
theorem dX3_init_43 : decode cX3_init 43 = .ok (.new 9, 3) := by decide +kernel
theorem dX3_init_46 : decode cX3_init 46 = .ok (.dup, 1) := by decide +kernel
theorem dX3_init_47 : decode cX3_init 47 = .ok (.invokespecial 29, 3) := by decide +kernel
theorem dX3_init_50 : decode cX3_init 50 = .ok (.aastore, 1) := by decide +kernel
theorem dX3_init_51 : decode cX3_init 51 = .ok (.iinc 1 1, 3) := by decide +kernel
theorem dX3_init_54 : decode cX3_init 54 = .ok (.goto (-22), 3) := by decide +kernel
theorem dX3_init_57 : decode cX3_init 57 = .ok (.iconst 0, 1) := by decide +kernel
theorem dX3_init_58 : decode cX3_init 58 = .ok (.istore_n 1, 1) := by decide +kernel
theorem dX3_init_59 : decode cX3_init 59 = .ok (.iload_n 1, 1) := by decide +kernel
theorem dX3_init_60 : decode cX3_init 60 = .ok (.iconst 5, 1) := by decide +kernel
theorem dX3_init_61 : decode cX3_init 61 = .ok (.if_icmp .ge 22, 3) := by decide +kernel
theorem dX3_init_64 : decode cX3_init 64 = .ok (.aload_n 0, 1) := by decide +kernel
theorem dX3_init_65 : decode cX3_init 65 = .ok (.getfield 19, 3) := by decide +kernel
theorem dX3_init_68 : decode cX3_init 68 = .ok (.iload_n 1, 1) := by decide +kernel
theorem dX3_init_69 : decode cX3_init 69 = .ok (.new 17, 3) := by decide +kernel
theorem dX3_init_72 : decode cX3_init 72 = .ok (.dup, 1) := by decide +kernel
theorem dX3_init_73 : decode cX3_init 73 = .ok (.invokespecial 30, 3) := by decide +kernel
theorem dX3_init_76 : decode cX3_init 76 = .ok (.aastore, 1) := by decide +kernel
theorem dX3_init_77 : decode cX3_init 77 = .ok (.iinc 1 1, 3) := by decide +kernel
theorem dX3_init_80 : decode cX3_init 80 = .ok (.goto (-21), 3) := by decide +kernel
theorem dX3_init_83 : decode cX3_init 83 = .ok (.iconst 0, 1) := by decide +kernel
theorem dX3_init_84 : decode cX3_init 84 = .ok (.istore_n 1, 1) := by decide +kernel
theorem dX3_init_85 : decode cX3_init 85 = .ok (.iload_n 1, 1) := by decide +kernel
theorem dX3_init_86 : decode cX3_init 86 = .ok (.bipush 16, 2) := by decide +kernel
theorem dX3_init_88 : decode cX3_init 88 = .ok (.if_icmp .ge 22, 3) := by decide +kernel
theorem dX3_init_91 : decode cX3_init 91 = .ok (.aload_n 0, 1) := by decide +kernel
theorem dX3_init_92 : decode cX3_init 92 = .ok (.getfield 25, 3) := by decide +kernel
theorem dX3_init_95 : decode cX3_init 95 = .ok (.iload_n 1, 1) := by decide +kernel
theorem dX3_init_96 : decode cX3_init 96 = .ok (.new 23, 3) := by decide +kernel
theorem dX3_init_99 : decode cX3_init 99 = .ok (.dup, 1) := by decide +kernel
theorem dX3_init_100 : decode cX3_init 100 = .ok (.invokespecial 31, 3) := by decide +kernel
theorem dX3_init_103 : decode cX3_init 103 = .ok (.aastore, 1) := by decide +kernel
theorem dX3_init_104 : decode cX3_init 104 = .ok (.iinc 1 1, 3) := by decide +kernel
theorem dX3_init_107 : decode cX3_init 107 = .ok (.goto (-22), 3) := by decide +kernel
theorem dX3_init_110 : decode cX3_init 110 = .ok (.return_, 1) := by decide +kernel
theorem dX3_startAnew_0 : decode cX3_startAnew 0 = .ok (.aload_n 0, 1) := by decide +kernel
theorem dX3_startAnew_1 : decode cX3_startAnew 1 = .ok (.iconst 0, 1) := by decide +kernel
theorem dX3_startAnew_2 : decode cX3_startAnew 2 = .ok (.putfield 32, 3) := by decide +kernel
theorem dX3_startAnew_5 : decode cX3_startAnew 5 = .ok (.aload_n 0, 1) := by decide +kernel
theorem dX3_startAnew_6 : decode cX3_startAnew 6 = .ok (.iconst 0, 1) := by decide +kernel
theorem dX3_startAnew_7 : decode cX3_startAnew 7 = .ok (.putfield 36, 3) := by decide +kernel
theorem dX3_startAnew_10 : decode cX3_startAnew 10 = .ok (.aload_n 0, 1) := by decide +kernel
theorem dX3_startAnew_11 : decode cX3_startAnew 11 = .ok (.iconst 0, 1) := by decide +kernel
theorem dX3_startAnew_12 : decode cX3_startAnew 12 = .ok (.putfield 39, 3) := by decide +kernel
theorem dX3_startAnew_15 : decode cX3_startAnew 15 = .ok (.aload_n 0, 1) := by decide +kernel
theorem dX3_startAnew_16 : decode cX3_startAnew 16 = .ok (.iconst 0, 1) := by decide +kernel
theorem dX3_startAnew_17 : decode cX3_startAnew 17 = .ok (.putfield 42, 3) := by decide +kernel
theorem dX3_startAnew_20 : decode cX3_startAnew 20 = .ok (.aload_n 0, 1) := by decide +kernel
theorem dX3_startAnew_21 : decode cX3_startAnew 21 = .ok (.iload_n 1, 1) := by decide +kernel
theorem dX3_startAnew_22 : decode cX3_startAnew 22 = .ok (.putfield 45, 3) := by decide +kernel
theorem dX3_startAnew_25 : decode cX3_startAnew 25 = .ok (.aload_n 0, 1) := by decide +kernel
theorem dX3_startAnew_26 : decode cX3_startAnew 26 = .ok (.iconst 3, 1) := by decide +kernel
theorem dX3_startAnew_27 : decode cX3_startAnew 27 = .ok (.putfield 48, 3) := by decide +kernel
theorem dX3_startAnew_30 : decode cX3_startAnew 30 = .ok (.aload_n 0, 1) := by decide +kernel
theorem dX3_startAnew_31 : decode cX3_startAnew 31 = .ok (.bipush 10, 2) := by decide +kernel
theorem dX3_startAnew_33 : decode cX3_startAnew 33 = .ok (.putfield 51, 3) := by decide +kernel
theorem dX3_startAnew_36 : decode cX3_startAnew 36 = .ok (.aload_n 0, 1) := by decide +kernel
theorem dX3_startAnew_37 : decode cX3_startAnew 37 = .ok (.iconst (-1), 1) := by decide +kernel
theorem dX3_startAnew_38 : decode cX3_startAnew 38 = .ok (.putfield 54, 3) := by decide +kernel
theorem dX3_startAnew_41 : decode cX3_startAnew 41 = .ok (.aload_n 0, 1) := by decide +kernel
theorem dX3_startAnew_42 : decode cX3_startAnew 42 = .ok (.iconst (-1), 1) := by decide +kernel
theorem dX3_startAnew_43 : decode cX3_startAnew 43 = .ok (.putfield 57, 3) := by decide +kernel
theorem dX3_startAnew_46 : decode cX3_startAnew 46 = .ok (.aload_n 0, 1) := by decide +kernel
theorem dX3_startAnew_47 : decode cX3_startAnew 47 = .ok (.iconst 0, 1) := by decide +kernel
theorem dX3_startAnew_48 : decode cX3_startAnew 48 = .ok (.putfield 60, 3) := by decide +kernel
theorem dX3_startAnew_51 : decode cX3_startAnew 51 = .ok (.aload_n 0, 1) := by decide +kernel
theorem dX3_startAnew_52 : decode cX3_startAnew 52 = .ok (.iconst 0, 1) := by decide +kernel
theorem dX3_startAnew_53 : decode cX3_startAnew 53 = .ok (.putfield 63, 3) := by decide +kernel
theorem dX3_startAnew_56 : decode cX3_startAnew 56 = .ok (.return_, 1) := by decide +kernel
theorem dX3_copyFrom_0 : decode cX3_copyFrom 0 = .ok (.iconst 0, 1) := by decide +kernel
theorem dX3_copyFrom_1 : decode cX3_copyFrom 1 = .ok (.istore_n 2, 1) := by decide +kernel
theorem dX3_copyFrom_2 : decode cX3_copyFrom 2 = .ok (.iload_n 2, 1) := by decide +kernel
theorem dX3_copyFrom_3 : decode cX3_copyFrom 3 = .ok (.bipush 6, 2) := by decide +kernel
theorem dX3_copyFrom_5 : decode cX3_copyFrom 5 = .ok (.if_icmp .ge 24, 3) := by decide +kernel
theorem dX3_copyFrom_8 : decode cX3_copyFrom 8 = .ok (.aload_n 0, 1) := by decide +kernel
theorem dX3_copyFrom_9 : decode cX3_copyFrom 9 = .ok (.getfield 11, 3) := by decide +kernel
theorem dX3_copyFrom_12 : decode cX3_copyFrom 12 = .ok (.iload_n 2, 1) := by decide +kernel
theorem dX3_copyFrom_13 : decode cX3_copyFrom 13 = .ok (.aaload, 1) := by decide +kernel
theorem dX3_copyFrom_14 : decode cX3_copyFrom 14 = .ok (.aload_n 1, 1) := by decide +kernel
theorem dX3_copyFrom_15 : decode cX3_copyFrom 15 = .ok (.getfield 11, 3) := by decide +kernel
theorem dX3_copyFrom_18 : decode cX3_copyFrom 18 = .ok (.iload_n 2, 1) := by decide +kernel
theorem dX3_copyFrom_19 : decode cX3_copyFrom 19 = .ok (.aaload, 1) := by decide +kernel
theorem dX3_copyFrom_20 : decode cX3_copyFrom 20 = .ok (.invokevirtual 66, 3) := by decide +kernel
theorem dX3_copyFrom_23 : decode cX3_copyFrom 23 = .ok (.iinc 2 1, 3) := by decide +kernel
theorem dX3_copyFrom_26 : decode cX3_copyFrom 26 = .ok (.goto (-24), 3) := by decide +kernel
theorem dX3_copyFrom_29 : decode cX3_copyFrom 29 = .ok (.iconst 0, 1) := by decide +kernel
theorem dX3_copyFrom_30 : decode cX3_copyFrom 30 = .ok (.istore_n 2, 1) := by decide +kernel
theorem dX3_copyFrom_31 : decode cX3_copyFrom 31 = .ok (.iload_n 2, 1) := by decide +kernel
theorem dX3_copyFrom_32 : decode cX3_copyFrom 32 = .ok (.iconst 5, 1) := by decide +kernel
theorem dX3_copyFrom_33 : decode cX3_copyFrom 33 = .ok (.if_icmp .ge 24, 3) := by decide +kernel
theorem dX3_copyFrom_36 : decode cX3_copyFrom 36 = .ok (.aload_n 0, 1) := by decide +kernel
theorem dX3_copyFrom_37 : decode cX3_copyFrom 37 = .ok (.getfield 19, 3) := by decide +kernel
theorem dX3_copyFrom_40 : decode cX3_copyFrom 40 = .ok (.iload_n 2, 1) := by decide +kernel
theorem dX3_copyFrom_41 : decode cX3_copyFrom 41 = .ok (.aaload, 1) := by decide +kernel
theorem dX3_copyFrom_42 : decode cX3_copyFrom 42 = .ok (.aload_n 1, 1) := by decide +kernel
theorem dX3_copyFrom_43 : decode cX3_copyFrom 43 = .ok (.getfield 19, 3) := by decide +kernel
theorem dX3_copyFrom_46 : decode cX3_copyFrom 46 = .ok (.iload_n 2, 1) := by decide +kernel
theorem dX3_copyFrom_47 : decode cX3_copyFrom 47 = .ok (.aaload, 1) := by decide +kernel
theorem dX3_copyFrom_48 : decode cX3_copyFrom 48 = .ok (.invokevirtual 70, 3) := by decide +kernel
theorem dX3_copyFrom_51 : decode cX3_copyFrom 51 = .ok (.iinc 2 1, 3) := by decide +kernel
theorem dX3_copyFrom_54 : decode cX3_copyFrom 54 = .ok (.goto (-23), 3) := by decide +kernel
theorem dX3_copyFrom_57 : decode cX3_copyFrom 57 = .ok (.iconst 0, 1) := by decide +kernel
theorem dX3_copyFrom_58 : decode cX3_copyFrom 58 = .ok (.istore_n 2, 1) := by decide +kernel
theorem dX3_copyFrom_59 : decode cX3_copyFrom 59 = .ok (.iload_n 2, 1) := by decide +kernel
theorem dX3_copyFrom_60 : decode cX3_copyFrom 60 = .ok (.bipush 16, 2) := by decide +kernel
theorem dX3_copyFrom_62 : decode cX3_copyFrom 62 = .ok (.if_icmp .ge 24, 3) := by decide +kernel
theorem dX3_copyFrom_65 : decode cX3_copyFrom 65 = .ok (.aload_n 0, 1) := by decide +kernel
theorem dX3_copyFrom_66 : decode cX3_copyFrom 66 = .ok (.getfield 25, 3) := by decide +kernel
theorem dX3_copyFrom_69 : decode cX3_copyFrom 69 = .ok (.iload_n 2, 1) := by decide +kernel
theorem dX3_copyFrom_70 : decode cX3_copyFrom 70 = .ok (.aaload, 1) := by decide +kernel
theorem dX3_copyFrom_71 : decode cX3_copyFrom 71 = .ok (.aload_n 1, 1) := by decide +kernel
theorem dX3_copyFrom_72 : decode cX3_copyFrom 72 = .ok (.getfield 25, 3) := by decide +kernel
theorem dX3_copyFrom_75 : decode cX3_copyFrom 75 = .ok (.iload_n 2, 1) := by decide +kernel
theorem dX3_copyFrom_76 : decode cX3_copyFrom 76 = .ok (.aaload, 1) := by decide +kernel
theorem dX3_copyFrom_77 : decode cX3_copyFrom 77 = .ok (.invokevirtual 73, 3) := by decide +kernel
theorem dX3_copyFrom_80 : decode cX3_copyFrom 80 = .ok (.iinc 2 1, 3) := by decide +kernel
theorem dX3_copyFrom_83 : decode cX3_copyFrom 83 = .ok (.goto (-24), 3) := by decide +kernel
theorem dX3_copyFrom_86 : decode cX3_copyFrom 86 = .ok (.aload_n 0, 1) := by decide +kernel
theorem dX3_copyFrom_87 : decode cX3_copyFrom 87 = .ok (.aload_n 1, 1) := by decide +kernel
theorem dX3_copyFrom_88 : decode cX3_copyFrom 88 = .ok (.getfield 32, 3) := by decide +kernel
theorem dX3_copyFrom_91 : decode cX3_copyFrom 91 = .ok (.putfield 32, 3) := by decide +kernel
theorem dX3_copyFrom_94 : decode cX3_copyFrom 94 = .ok (.aload_n 0, 1) := by decide +kernel
theorem dX3_copyFrom_95 : decode cX3_copyFrom 95 = .ok (.aload_n 1, 1) := by decide +kernel
theorem dX3_copyFrom_96 : decode cX3_copyFrom 96 = .ok (.getfield 36, 3) := by decide +kernel
theorem dX3_copyFrom_99 : decode cX3_copyFrom 99 = .ok (.putfield 36, 3) := by decide +kernel
theorem dX3_copyFrom_102 : decode cX3_copyFrom 102 = .ok (.aload_n 0, 1) := by decide +kernel
theorem dX3_copyFrom_103 : decode cX3_copyFrom 103 = .ok (.aload_n 1, 1) := by decide +kernel
theorem dX3_copyFrom_104 : decode cX3_copyFrom 104 = .ok (.getfield 39, 3) := by decide +kernel
theorem dX3_copyFrom_107 : decode cX3_copyFrom 107 = .ok (.putfield 39, 3) := by decide +kernel
theorem dX3_copyFrom_110 : decode cX3_copyFrom 110 = .ok (.aload_n 0, 1) := by decide +kernel
theorem dX3_copyFrom_111 : decode cX3_copyFrom 111 = .ok (.aload_n 1, 1) := by decide +kernel
theorem dX3_copyFrom_112 : decode cX3_copyFrom 112 = .ok (.getfield 42, 3) := by decide +kernel
theorem dX3_copyFrom_115 : decode cX3_copyFrom 115 = .ok (.putfield 42, 3) := by decide +kernel
theorem dX3_copyFrom_118 : decode cX3_copyFrom 118 = .ok (.aload_n 0, 1) := by decide +kernel
theorem dX3_copyFrom_119 : decode cX3_copyFrom 119 = .ok (.aload_n 1, 1) := by decide +kernel
theorem dX3_copyFrom_120 : decode cX3_copyFrom 120 = .ok (.getfield 45, 3) := by decide +kernel
theorem dX3_copyFrom_123 : decode cX3_copyFrom 123 = .ok (.putfield 45, 3) := by decide +kernel
theorem dX3_copyFrom_126 : decode cX3_copyFrom 126 = .ok (.aload_n 0, 1) := by decide +kernel
theorem dX3_copyFrom_127 : decode cX3_copyFrom 127 = .ok (.aload_n 1, 1) := by decide +kernel
theorem dX3_copyFrom_128 : decode cX3_copyFrom 128 = .ok (.getfield 48, 3) := by decide +kernel
theorem dX3_copyFrom_131 : decode cX3_copyFrom 131 = .ok (.putfield 48, 3) := by decide +kernel
theorem dX3_copyFrom_134 : decode cX3_copyFrom 134 = .ok (.aload_n 0, 1) := by decide +kernel
theorem dX3_copyFrom_135 : decode cX3_copyFrom 135 = .ok (.aload_n 1, 1) := by decide +kernel
theorem dX3_copyFrom_136 : decode cX3_copyFrom 136 = .ok (.getfield 51, 3) := by decide +kernel
theorem dX3_copyFrom_139 : decode cX3_copyFrom 139 = .ok (.putfield 51, 3) := by decide +kernel
theorem dX3_copyFrom_142 : decode cX3_copyFrom 142 = .ok (.aload_n 0, 1) := by decide +kernel
theorem dX3_copyFrom_143 : decode cX3_copyFrom 143 = .ok (.aload_n 1, 1) := by decide +kernel
theorem dX3_copyFrom_144 : decode cX3_copyFrom 144 = .ok (.getfield 54, 3) := by decide +kernel
theorem dX3_copyFrom_147 : decode cX3_copyFrom 147 = .ok (.putfield 54, 3) := by decide +kernel
theorem dX3_copyFrom_150 : decode cX3_copyFrom 150 = .ok (.aload_n 0, 1) := by decide +kernel
theorem dX3_copyFrom_151 : decode cX3_copyFrom 151 = .ok (.aload_n 1, 1) := by decide +kernel
theorem dX3_copyFrom_152 : decode cX3_copyFrom 152 = .ok (.getfield 57, 3) := by decide +kernel
theorem dX3_copyFrom_155 : decode cX3_copyFrom 155 = .ok (.putfield 57, 3) := by decide +kernel
theorem dX3_copyFrom_158 : decode cX3_copyFrom 158 = .ok (.aload_n 0, 1) := by decide +kernel
theorem dX3_copyFrom_159 : decode cX3_copyFrom 159 = .ok (.aload_n 1, 1) := by decide +kernel
theorem dX3_copyFrom_160 : decode cX3_copyFrom 160 = .ok (.getfield 60, 3) := by decide +kernel
theorem dX3_copyFrom_163 : decode cX3_copyFrom 163 = .ok (.putfield 60, 3) := by decide +kernel
theorem dX3_copyFrom_166 : decode cX3_copyFrom 166 = .ok (.aload_n 0, 1) := by decide +kernel
theorem dX3_copyFrom_167 : decode cX3_copyFrom 167 = .ok (.aload_n 1, 1) := by decide +kernel
theorem dX3_copyFrom_168 : decode cX3_copyFrom 168 = .ok (.getfield 63, 3) := by decide +kernel
theorem dX3_copyFrom_171 : decode cX3_copyFrom 171 = .ok (.putfield 63, 3) := by decide +kernel
theorem dX3_copyFrom_174 : decode cX3_copyFrom 174 = .ok (.return_, 1) := by decide +kernel
theorem dX3_today_0 : decode cX3_today 0 = .ok (.aload_n 0, 1) := by decide +kernel
theorem dX3_today_1 : decode cX3_today 1 = .ok (.getfield 45, 3) := by decide +kernel
theorem dX3_today_4 : decode cX3_today 4 = .ok (.ifCond .le 15, 3) := by decide +kernel
theorem dX3_today_7 : decode cX3_today 7 = .ok (.aload_n 0, 1) := by decide +kernel
theorem dX3_today_8 : decode cX3_today 8 = .ok (.getfield 42, 3) := by decide +kernel
theorem dX3_today_11 : decode cX3_today 11 = .ok (.aload_n 0, 1) := by decide +kernel
theorem dX3_today_12 : decode cX3_today 12 = .ok (.getfield 45, 3) := by decide +kernel
theorem dX3_today_15 : decode cX3_today 15 = .ok (.irem, 1) := by decide +kernel
theorem dX3_today_16 : decode cX3_today 16 = .ok (.goto 4, 3) := by decide +kernel
theorem dX3_today_19 : decode cX3_today 19 = .ok (.iconst 0, 1) := by decide +kernel
theorem dX3_today_20 : decode cX3_today 20 = .ok (.ireturn, 1) := by decide +kernel
theorem dX3_ownedBy_0 : decode cX3_ownedBy 0 = .ok (.iconst 0, 1) := by decide +kernel
theorem dX3_ownedBy_1 : decode cX3_ownedBy 1 = .ok (.istore_n 2, 1) := by decide +kernel
theorem dX3_ownedBy_2 : decode cX3_ownedBy 2 = .ok (.iconst 0, 1) := by decide +kernel
theorem dX3_ownedBy_3 : decode cX3_ownedBy 3 = .ok (.istore_n 3, 1) := by decide +kernel
theorem dX3_ownedBy_4 : decode cX3_ownedBy 4 = .ok (.iload_n 3, 1) := by decide +kernel
theorem dX3_ownedBy_5 : decode cX3_ownedBy 5 = .ok (.aload_n 0, 1) := by decide +kernel
theorem dX3_ownedBy_6 : decode cX3_ownedBy 6 = .ok (.getfield 39, 3) := by decide +kernel
theorem dX3_ownedBy_9 : decode cX3_ownedBy 9 = .ok (.if_icmp .ge 25, 3) := by decide +kernel
theorem dX3_ownedBy_12 : decode cX3_ownedBy 12 = .ok (.aload_n 0, 1) := by decide +kernel
theorem dX3_ownedBy_13 : decode cX3_ownedBy 13 = .ok (.getfield 25, 3) := by decide +kernel
theorem dX3_ownedBy_16 : decode cX3_ownedBy 16 = .ok (.iload_n 3, 1) := by decide +kernel
theorem dX3_ownedBy_17 : decode cX3_ownedBy 17 = .ok (.aaload, 1) := by decide +kernel
theorem dX3_ownedBy_18 : decode cX3_ownedBy 18 = .ok (.getfield 76, 3) := by decide +kernel
theorem dX3_ownedBy_21 : decode cX3_ownedBy 21 = .ok (.iload_n 1, 1) := by decide +kernel
theorem dX3_ownedBy_22 : decode cX3_ownedBy 22 = .ok (.if_icmp .ne 6, 3) := by decide +kernel
theorem dX3_ownedBy_25 : decode cX3_ownedBy 25 = .ok (.iinc 2 1, 3) := by decide +kernel
theorem dX3_ownedBy_28 : decode cX3_ownedBy 28 = .ok (.iinc 3 1, 3) := by decide +kernel
theorem dX3_ownedBy_31 : decode cX3_ownedBy 31 = .ok (.goto (-27), 3) := by decide +kernel
theorem dX3_ownedBy_34 : decode cX3_ownedBy 34 = .ok (.iload_n 2, 1) := by decide +kernel
theorem dX3_ownedBy_35 : decode cX3_ownedBy 35 = .ok (.ireturn, 1) := by decide +kernel
theorem dX3_stockOf_0 : decode cX3_stockOf 0 = .ok (.iconst 0, 1) := by decide +kernel
theorem dX3_stockOf_1 : decode cX3_stockOf 1 = .ok (.istore_n 2, 1) := by decide +kernel
theorem dX3_stockOf_2 : decode cX3_stockOf 2 = .ok (.iconst 0, 1) := by decide +kernel
theorem dX3_stockOf_3 : decode cX3_stockOf 3 = .ok (.istore_n 3, 1) := by decide +kernel
theorem dX3_stockOf_4 : decode cX3_stockOf 4 = .ok (.iload_n 3, 1) := by decide +kernel
theorem dX3_stockOf_5 : decode cX3_stockOf 5 = .ok (.aload_n 0, 1) := by decide +kernel
theorem dX3_stockOf_6 : decode cX3_stockOf 6 = .ok (.getfield 39, 3) := by decide +kernel
theorem dX3_stockOf_9 : decode cX3_stockOf 9 = .ok (.if_icmp .ge 25, 3) := by decide +kernel
theorem dX3_stockOf_12 : decode cX3_stockOf 12 = .ok (.aload_n 0, 1) := by decide +kernel
theorem dX3_stockOf_13 : decode cX3_stockOf 13 = .ok (.getfield 25, 3) := by decide +kernel
theorem dX3_stockOf_16 : decode cX3_stockOf 16 = .ok (.iload_n 3, 1) := by decide +kernel
theorem dX3_stockOf_17 : decode cX3_stockOf 17 = .ok (.aaload, 1) := by decide +kernel
theorem dX3_stockOf_18 : decode cX3_stockOf 18 = .ok (.getfield 79, 3) := by decide +kernel
theorem dX3_stockOf_21 : decode cX3_stockOf 21 = .ok (.iload_n 1, 1) := by decide +kernel
theorem dX3_stockOf_22 : decode cX3_stockOf 22 = .ok (.if_icmp .ne 6, 3) := by decide +kernel
theorem dX3_stockOf_25 : decode cX3_stockOf 25 = .ok (.iinc 2 1, 3) := by decide +kernel
theorem dX3_stockOf_28 : decode cX3_stockOf 28 = .ok (.iinc 3 1, 3) := by decide +kernel
theorem dX3_stockOf_31 : decode cX3_stockOf 31 = .ok (.goto (-27), 3) := by decide +kernel
theorem dX3_stockOf_34 : decode cX3_stockOf 34 = .ok (.iload_n 2, 1) := by decide +kernel
theorem dX3_stockOf_35 : decode cX3_stockOf 35 = .ok (.ireturn, 1) := by decide +kernel
theorem dX3_countGranted_0 : decode cX3_countGranted 0 = .ok (.iconst 0, 1) := by decide +kernel
theorem dX3_countGranted_1 : decode cX3_countGranted 1 = .ok (.istore_n 1, 1) := by decide +kernel
theorem dX3_countGranted_2 : decode cX3_countGranted 2 = .ok (.iconst 0, 1) := by decide +kernel
theorem dX3_countGranted_3 : decode cX3_countGranted 3 = .ok (.istore_n 2, 1) := by decide +kernel
theorem dX3_countGranted_4 : decode cX3_countGranted 4 = .ok (.iload_n 2, 1) := by decide +kernel
theorem dX3_countGranted_5 : decode cX3_countGranted 5 = .ok (.aload_n 0, 1) := by decide +kernel
theorem dX3_countGranted_6 : decode cX3_countGranted 6 = .ok (.getfield 39, 3) := by decide +kernel
theorem dX3_countGranted_9 : decode cX3_countGranted 9 = .ok (.if_icmp .ge 24, 3) := by decide +kernel
theorem dX3_countGranted_12 : decode cX3_countGranted 12 = .ok (.aload_n 0, 1) := by decide +kernel
theorem dX3_countGranted_13 : decode cX3_countGranted 13 = .ok (.getfield 25, 3) := by decide +kernel
theorem dX3_countGranted_16 : decode cX3_countGranted 16 = .ok (.iload_n 2, 1) := by decide +kernel
theorem dX3_countGranted_17 : decode cX3_countGranted 17 = .ok (.aaload, 1) := by decide +kernel
theorem dX3_countGranted_18 : decode cX3_countGranted 18 = .ok (.getfield 82, 3) := by decide +kernel
theorem dX3_countGranted_21 : decode cX3_countGranted 21 = .ok (.ifCond .eq 6, 3) := by decide +kernel
theorem dX3_countGranted_24 : decode cX3_countGranted 24 = .ok (.iinc 1 1, 3) := by decide +kernel
theorem dX3_countGranted_27 : decode cX3_countGranted 27 = .ok (.iinc 2 1, 3) := by decide +kernel
theorem dX3_countGranted_30 : decode cX3_countGranted 30 = .ok (.goto (-26), 3) := by decide +kernel
theorem dX3_countGranted_33 : decode cX3_countGranted 33 = .ok (.iload_n 1, 1) := by decide +kernel
theorem dX3_countGranted_34 : decode cX3_countGranted 34 = .ok (.ireturn, 1) := by decide +kernel
theorem dX3_countFaded_0 : decode cX3_countFaded 0 = .ok (.iconst 0, 1) := by decide +kernel
theorem dX3_countFaded_1 : decode cX3_countFaded 1 = .ok (.istore_n 1, 1) := by decide +kernel
theorem dX3_countFaded_2 : decode cX3_countFaded 2 = .ok (.iconst 0, 1) := by decide +kernel
theorem dX3_countFaded_3 : decode cX3_countFaded 3 = .ok (.istore_n 2, 1) := by decide +kernel
theorem dX3_countFaded_4 : decode cX3_countFaded 4 = .ok (.iload_n 2, 1) := by decide +kernel
theorem dX3_countFaded_5 : decode cX3_countFaded 5 = .ok (.aload_n 0, 1) := by decide +kernel
theorem dX3_countFaded_6 : decode cX3_countFaded 6 = .ok (.getfield 39, 3) := by decide +kernel
theorem dX3_countFaded_9 : decode cX3_countFaded 9 = .ok (.if_icmp .ge 24, 3) := by decide +kernel
theorem dX3_countFaded_12 : decode cX3_countFaded 12 = .ok (.aload_n 0, 1) := by decide +kernel
theorem dX3_countFaded_13 : decode cX3_countFaded 13 = .ok (.getfield 25, 3) := by decide +kernel
theorem dX3_countFaded_16 : decode cX3_countFaded 16 = .ok (.iload_n 2, 1) := by decide +kernel
theorem dX3_countFaded_17 : decode cX3_countFaded 17 = .ok (.aaload, 1) := by decide +kernel
theorem dX3_countFaded_18 : decode cX3_countFaded 18 = .ok (.getfield 86, 3) := by decide +kernel
theorem dX3_countFaded_21 : decode cX3_countFaded 21 = .ok (.ifCond .eq 6, 3) := by decide +kernel
theorem dX3_countFaded_24 : decode cX3_countFaded 24 = .ok (.iinc 1 1, 3) := by decide +kernel
theorem dX3_countFaded_27 : decode cX3_countFaded 27 = .ok (.iinc 2 1, 3) := by decide +kernel
theorem dX3_countFaded_30 : decode cX3_countFaded 30 = .ok (.goto (-26), 3) := by decide +kernel
theorem dX3_countFaded_33 : decode cX3_countFaded 33 = .ok (.iload_n 1, 1) := by decide +kernel
theorem dX3_countFaded_34 : decode cX3_countFaded 34 = .ok (.ireturn, 1) := by decide +kernel
theorem dX3_money_0 : decode cX3_money 0 = .ok (.iconst 0, 1) := by decide +kernel
theorem dX3_money_1 : decode cX3_money 1 = .ok (.istore_n 1, 1) := by decide +kernel
theorem dX3_money_2 : decode cX3_money 2 = .ok (.iconst 0, 1) := by decide +kernel
theorem dX3_money_3 : decode cX3_money 3 = .ok (.istore_n 2, 1) := by decide +kernel
theorem dX3_money_4 : decode cX3_money 4 = .ok (.iload_n 2, 1) := by decide +kernel
theorem dX3_money_5 : decode cX3_money 5 = .ok (.aload_n 0, 1) := by decide +kernel
theorem dX3_money_6 : decode cX3_money 6 = .ok (.getfield 32, 3) := by decide +kernel
theorem dX3_money_9 : decode cX3_money 9 = .ok (.if_icmp .ge 21, 3) := by decide +kernel
theorem dX3_money_12 : decode cX3_money 12 = .ok (.iload_n 1, 1) := by decide +kernel
theorem dX3_money_13 : decode cX3_money 13 = .ok (.aload_n 0, 1) := by decide +kernel
theorem dX3_money_14 : decode cX3_money 14 = .ok (.getfield 11, 3) := by decide +kernel
theorem dX3_money_17 : decode cX3_money 17 = .ok (.iload_n 2, 1) := by decide +kernel
theorem dX3_money_18 : decode cX3_money 18 = .ok (.aaload, 1) := by decide +kernel
theorem dX3_money_19 : decode cX3_money 19 = .ok (.getfield 89, 3) := by decide +kernel
theorem dX3_money_22 : decode cX3_money 22 = .ok (.iadd, 1) := by decide +kernel
theorem dX3_money_23 : decode cX3_money 23 = .ok (.istore_n 1, 1) := by decide +kernel
theorem dX3_money_24 : decode cX3_money 24 = .ok (.iinc 2 1, 3) := by decide +kernel
theorem dX3_money_27 : decode cX3_money 27 = .ok (.goto (-23), 3) := by decide +kernel
theorem dX3_money_30 : decode cX3_money 30 = .ok (.iconst 0, 1) := by decide +kernel
theorem dX3_money_31 : decode cX3_money 31 = .ok (.istore_n 2, 1) := by decide +kernel
theorem dX3_money_32 : decode cX3_money 32 = .ok (.iload_n 2, 1) := by decide +kernel
theorem dX3_money_33 : decode cX3_money 33 = .ok (.aload_n 0, 1) := by decide +kernel
theorem dX3_money_34 : decode cX3_money 34 = .ok (.getfield 36, 3) := by decide +kernel
theorem dX3_money_37 : decode cX3_money 37 = .ok (.if_icmp .ge 21, 3) := by decide +kernel
theorem dX3_money_40 : decode cX3_money 40 = .ok (.iload_n 1, 1) := by decide +kernel
theorem dX3_money_41 : decode cX3_money 41 = .ok (.aload_n 0, 1) := by decide +kernel
theorem dX3_money_42 : decode cX3_money 42 = .ok (.getfield 19, 3) := by decide +kernel
theorem dX3_money_45 : decode cX3_money 45 = .ok (.iload_n 2, 1) := by decide +kernel
theorem dX3_money_46 : decode cX3_money 46 = .ok (.aaload, 1) := by decide +kernel
theorem dX3_money_47 : decode cX3_money 47 = .ok (.getfield 92, 3) := by decide +kernel
theorem dX3_money_50 : decode cX3_money 50 = .ok (.iadd, 1) := by decide +kernel
theorem dX3_money_51 : decode cX3_money 51 = .ok (.istore_n 1, 1) := by decide +kernel
theorem dX3_money_52 : decode cX3_money 52 = .ok (.iinc 2 1, 3) := by decide +kernel
theorem dX3_money_55 : decode cX3_money 55 = .ok (.goto (-23), 3) := by decide +kernel
theorem dX3_money_58 : decode cX3_money 58 = .ok (.iload_n 1, 1) := by decide +kernel
theorem dX3_money_59 : decode cX3_money 59 = .ok (.ireturn, 1) := by decide +kernel
theorem dX3_countMisplaced_0 : decode cX3_countMisplaced 0 = .ok (.iconst 0, 1) := by decide +kernel
theorem dX3_countMisplaced_1 : decode cX3_countMisplaced 1 = .ok (.istore_n 1, 1) := by decide +kernel
theorem dX3_countMisplaced_2 : decode cX3_countMisplaced 2 = .ok (.iconst 0, 1) := by decide +kernel
theorem dX3_countMisplaced_3 : decode cX3_countMisplaced 3 = .ok (.istore_n 2, 1) := by decide +kernel
theorem dX3_countMisplaced_4 : decode cX3_countMisplaced 4 = .ok (.iload_n 2, 1) := by decide +kernel
theorem dX3_countMisplaced_5 : decode cX3_countMisplaced 5 = .ok (.aload_n 0, 1) := by decide +kernel
theorem dX3_countMisplaced_6 : decode cX3_countMisplaced 6 = .ok (.getfield 39, 3) := by decide +kernel
theorem dX3_countMisplaced_9 : decode cX3_countMisplaced 9 = .ok (.if_icmp .ge 80, 3) := by decide +kernel
theorem dX3_countMisplaced_12 : decode cX3_countMisplaced 12 = .ok (.aload_n 0, 1) := by decide +kernel
theorem dX3_countMisplaced_13 : decode cX3_countMisplaced 13 = .ok (.getfield 25, 3) := by decide +kernel
theorem dX3_countMisplaced_16 : decode cX3_countMisplaced 16 = .ok (.iload_n 2, 1) := by decide +kernel
theorem dX3_countMisplaced_17 : decode cX3_countMisplaced 17 = .ok (.aaload, 1) := by decide +kernel
theorem dX3_countMisplaced_18 : decode cX3_countMisplaced 18 = .ok (.astore_n 3, 1) := by decide +kernel
theorem dX3_countMisplaced_19 : decode cX3_countMisplaced 19 = .ok (.aload_n 3, 1) := by decide +kernel
theorem dX3_countMisplaced_20 : decode cX3_countMisplaced 20 = .ok (.getfield 79, 3) := by decide +kernel
theorem dX3_countMisplaced_23 : decode cX3_countMisplaced 23 = .ok (.iconst (-1), 1) := by decide +kernel
theorem dX3_countMisplaced_24 : decode cX3_countMisplaced 24 = .ok (.if_icmp .eq 7, 3) := by decide +kernel
theorem dX3_countMisplaced_27 : decode cX3_countMisplaced 27 = .ok (.iconst 1, 1) := by decide +kernel
theorem dX3_countMisplaced_28 : decode cX3_countMisplaced 28 = .ok (.goto 4, 3) := by decide +kernel
theorem dX3_countMisplaced_31 : decode cX3_countMisplaced 31 = .ok (.iconst 0, 1) := by decide +kernel
theorem dX3_countMisplaced_32 : decode cX3_countMisplaced 32 = .ok (.aload_n 3, 1) := by decide +kernel
theorem dX3_countMisplaced_33 : decode cX3_countMisplaced 33 = .ok (.getfield 76, 3) := by decide +kernel
theorem dX3_countMisplaced_36 : decode cX3_countMisplaced 36 = .ok (.iconst (-1), 1) := by decide +kernel
theorem dX3_countMisplaced_37 : decode cX3_countMisplaced 37 = .ok (.if_icmp .eq 7, 3) := by decide +kernel
theorem dX3_countMisplaced_40 : decode cX3_countMisplaced 40 = .ok (.iconst 1, 1) := by decide +kernel
theorem dX3_countMisplaced_41 : decode cX3_countMisplaced 41 = .ok (.goto 4, 3) := by decide +kernel
theorem dX3_countMisplaced_44 : decode cX3_countMisplaced 44 = .ok (.iconst 0, 1) := by decide +kernel
theorem dX3_countMisplaced_45 : decode cX3_countMisplaced 45 = .ok (.iadd, 1) := by decide +kernel
theorem dX3_countMisplaced_46 : decode cX3_countMisplaced 46 = .ok (.aload_n 3, 1) := by decide +kernel
theorem dX3_countMisplaced_47 : decode cX3_countMisplaced 47 = .ok (.getfield 82, 3) := by decide +kernel
theorem dX3_countMisplaced_50 : decode cX3_countMisplaced 50 = .ok (.ifCond .eq 7, 3) := by decide +kernel
theorem dX3_countMisplaced_53 : decode cX3_countMisplaced 53 = .ok (.iconst 1, 1) := by decide +kernel
theorem dX3_countMisplaced_54 : decode cX3_countMisplaced 54 = .ok (.goto 4, 3) := by decide +kernel
theorem dX3_countMisplaced_57 : decode cX3_countMisplaced 57 = .ok (.iconst 0, 1) := by decide +kernel
theorem dX3_countMisplaced_58 : decode cX3_countMisplaced 58 = .ok (.iadd, 1) := by decide +kernel
theorem dX3_countMisplaced_59 : decode cX3_countMisplaced 59 = .ok (.aload_n 3, 1) := by decide +kernel
theorem dX3_countMisplaced_60 : decode cX3_countMisplaced 60 = .ok (.getfield 86, 3) := by decide +kernel
theorem dX3_countMisplaced_63 : decode cX3_countMisplaced 63 = .ok (.ifCond .eq 7, 3) := by decide +kernel
theorem dX3_countMisplaced_66 : decode cX3_countMisplaced 66 = .ok (.iconst 1, 1) := by decide +kernel
theorem dX3_countMisplaced_67 : decode cX3_countMisplaced 67 = .ok (.goto 4, 3) := by decide +kernel
theorem dX3_countMisplaced_70 : decode cX3_countMisplaced 70 = .ok (.iconst 0, 1) := by decide +kernel
theorem dX3_countMisplaced_71 : decode cX3_countMisplaced 71 = .ok (.iadd, 1) := by decide +kernel
theorem dX3_countMisplaced_72 : decode cX3_countMisplaced 72 = .ok (.istore 4, 2) := by decide +kernel
theorem dX3_countMisplaced_74 : decode cX3_countMisplaced 74 = .ok (.iload 4, 2) := by decide +kernel
theorem dX3_countMisplaced_76 : decode cX3_countMisplaced 76 = .ok (.iconst 1, 1) := by decide +kernel
theorem dX3_countMisplaced_77 : decode cX3_countMisplaced 77 = .ok (.if_icmp .eq 6, 3) := by decide +kernel
theorem dX3_countMisplaced_80 : decode cX3_countMisplaced 80 = .ok (.iinc 1 1, 3) := by decide +kernel
theorem dX3_countMisplaced_83 : decode cX3_countMisplaced 83 = .ok (.iinc 2 1, 3) := by decide +kernel
theorem dX3_countMisplaced_86 : decode cX3_countMisplaced 86 = .ok (.goto (-82), 3) := by decide +kernel
theorem dX3_countMisplaced_89 : decode cX3_countMisplaced 89 = .ok (.iload_n 1, 1) := by decide +kernel
theorem dX3_countMisplaced_90 : decode cX3_countMisplaced 90 = .ok (.ireturn, 1) := by decide +kernel
theorem dX3_hasPersonNamed_0 : decode cX3_hasPersonNamed 0 = .ok (.iconst 0, 1) := by decide +kernel
theorem dX3_hasPersonNamed_1 : decode cX3_hasPersonNamed 1 = .ok (.istore_n 2, 1) := by decide +kernel
theorem dX3_hasPersonNamed_2 : decode cX3_hasPersonNamed 2 = .ok (.iload_n 2, 1) := by decide +kernel
theorem dX3_hasPersonNamed_3 : decode cX3_hasPersonNamed 3 = .ok (.aload_n 0, 1) := by decide +kernel
theorem dX3_hasPersonNamed_4 : decode cX3_hasPersonNamed 4 = .ok (.getfield 32, 3) := by decide +kernel
theorem dX3_hasPersonNamed_7 : decode cX3_hasPersonNamed 7 = .ok (.if_icmp .ge 24, 3) := by decide +kernel
theorem dX3_hasPersonNamed_10 : decode cX3_hasPersonNamed 10 = .ok (.aload_n 0, 1) := by decide +kernel
theorem dX3_hasPersonNamed_11 : decode cX3_hasPersonNamed 11 = .ok (.getfield 11, 3) := by decide +kernel
theorem dX3_hasPersonNamed_14 : decode cX3_hasPersonNamed 14 = .ok (.iload_n 2, 1) := by decide +kernel
theorem dX3_hasPersonNamed_15 : decode cX3_hasPersonNamed 15 = .ok (.aaload, 1) := by decide +kernel
theorem dX3_hasPersonNamed_16 : decode cX3_hasPersonNamed 16 = .ok (.getfield 105, 3) := by decide +kernel
theorem dX3_hasPersonNamed_19 : decode cX3_hasPersonNamed 19 = .ok (.iload_n 1, 1) := by decide +kernel
theorem dX3_hasPersonNamed_20 : decode cX3_hasPersonNamed 20 = .ok (.if_icmp .ne 5, 3) := by decide +kernel
theorem dX3_hasPersonNamed_23 : decode cX3_hasPersonNamed 23 = .ok (.iconst 1, 1) := by decide +kernel
theorem dX3_hasPersonNamed_24 : decode cX3_hasPersonNamed 24 = .ok (.ireturn, 1) := by decide +kernel
theorem dX3_hasPersonNamed_25 : decode cX3_hasPersonNamed 25 = .ok (.iinc 2 1, 3) := by decide +kernel
theorem dX3_hasPersonNamed_28 : decode cX3_hasPersonNamed 28 = .ok (.goto (-26), 3) := by decide +kernel
theorem dX3_hasPersonNamed_31 : decode cX3_hasPersonNamed 31 = .ok (.iconst 0, 1) := by decide +kernel
theorem dX3_hasPersonNamed_32 : decode cX3_hasPersonNamed 32 = .ok (.ireturn, 1) := by decide +kernel
theorem dX3_hasWishNamed_0 : decode cX3_hasWishNamed 0 = .ok (.iconst 0, 1) := by decide +kernel
theorem dX3_hasWishNamed_1 : decode cX3_hasWishNamed 1 = .ok (.istore_n 3, 1) := by decide +kernel
theorem dX3_hasWishNamed_2 : decode cX3_hasWishNamed 2 = .ok (.iload_n 3, 1) := by decide +kernel
theorem dX3_hasWishNamed_3 : decode cX3_hasWishNamed 3 = .ok (.aload_n 0, 1) := by decide +kernel
theorem dX3_hasWishNamed_4 : decode cX3_hasWishNamed 4 = .ok (.getfield 39, 3) := by decide +kernel
theorem dX3_hasWishNamed_7 : decode cX3_hasWishNamed 7 = .ok (.if_icmp .ge 29, 3) := by decide +kernel
theorem dX3_hasWishNamed_10 : decode cX3_hasWishNamed 10 = .ok (.iload_n 3, 1) := by decide +kernel
theorem dX3_hasWishNamed_11 : decode cX3_hasWishNamed 11 = .ok (.iload_n 2, 1) := by decide +kernel
theorem dX3_hasWishNamed_12 : decode cX3_hasWishNamed 12 = .ok (.if_icmp .eq 18, 3) := by decide +kernel
theorem dX3_hasWishNamed_15 : decode cX3_hasWishNamed 15 = .ok (.aload_n 0, 1) := by decide +kernel
theorem dX3_hasWishNamed_16 : decode cX3_hasWishNamed 16 = .ok (.getfield 25, 3) := by decide +kernel
theorem dX3_hasWishNamed_19 : decode cX3_hasWishNamed 19 = .ok (.iload_n 3, 1) := by decide +kernel
theorem dX3_hasWishNamed_20 : decode cX3_hasWishNamed 20 = .ok (.aaload, 1) := by decide +kernel
theorem dX3_hasWishNamed_21 : decode cX3_hasWishNamed 21 = .ok (.getfield 108, 3) := by decide +kernel
theorem dX3_hasWishNamed_24 : decode cX3_hasWishNamed 24 = .ok (.iload_n 1, 1) := by decide +kernel
theorem dX3_hasWishNamed_25 : decode cX3_hasWishNamed 25 = .ok (.if_icmp .ne 5, 3) := by decide +kernel
theorem dX3_hasWishNamed_28 : decode cX3_hasWishNamed 28 = .ok (.iconst 1, 1) := by decide +kernel
theorem dX3_hasWishNamed_29 : decode cX3_hasWishNamed 29 = .ok (.ireturn, 1) := by decide +kernel
theorem dX3_hasWishNamed_30 : decode cX3_hasWishNamed 30 = .ok (.iinc 3 1, 3) := by decide +kernel
theorem dX3_hasWishNamed_33 : decode cX3_hasWishNamed 33 = .ok (.goto (-31), 3) := by decide +kernel
theorem dX3_hasWishNamed_36 : decode cX3_hasWishNamed 36 = .ok (.iconst 0, 1) := by decide +kernel
theorem dX3_hasWishNamed_37 : decode cX3_hasWishNamed 37 = .ok (.ireturn, 1) := by decide +kernel
theorem dX3_priceOf_0 : decode cX3_priceOf 0 = .ok (.aload_n 0, 1) := by decide +kernel
theorem dX3_priceOf_1 : decode cX3_priceOf 1 = .ok (.getfield 25, 3) := by decide +kernel
theorem dX3_priceOf_4 : decode cX3_priceOf 4 = .ok (.iload_n 1, 1) := by decide +kernel
theorem dX3_priceOf_5 : decode cX3_priceOf 5 = .ok (.aaload, 1) := by decide +kernel
theorem dX3_priceOf_6 : decode cX3_priceOf 6 = .ok (.astore_n 2, 1) := by decide +kernel
theorem dX3_priceOf_7 : decode cX3_priceOf 7 = .ok (.aload_n 2, 1) := by decide +kernel
theorem dX3_priceOf_8 : decode cX3_priceOf 8 = .ok (.getfield 79, 3) := by decide +kernel
theorem dX3_priceOf_11 : decode cX3_priceOf 11 = .ok (.iconst (-1), 1) := by decide +kernel
theorem dX3_priceOf_12 : decode cX3_priceOf 12 = .ok (.if_icmp .ne 5, 3) := by decide +kernel
theorem dX3_priceOf_15 : decode cX3_priceOf 15 = .ok (.iconst (-1), 1) := by decide +kernel
theorem dX3_priceOf_16 : decode cX3_priceOf 16 = .ok (.ireturn, 1) := by decide +kernel
theorem dX3_priceOf_17 : decode cX3_priceOf 17 = .ok (.aload_n 0, 1) := by decide +kernel
theorem dX3_priceOf_18 : decode cX3_priceOf 18 = .ok (.getfield 19, 3) := by decide +kernel
theorem dX3_priceOf_21 : decode cX3_priceOf 21 = .ok (.aload_n 2, 1) := by decide +kernel
theorem dX3_priceOf_22 : decode cX3_priceOf 22 = .ok (.getfield 79, 3) := by decide +kernel
theorem dX3_priceOf_25 : decode cX3_priceOf 25 = .ok (.aaload, 1) := by decide +kernel
theorem dX3_priceOf_26 : decode cX3_priceOf 26 = .ok (.astore_n 3, 1) := by decide +kernel
theorem dX3_priceOf_27 : decode cX3_priceOf 27 = .ok (.aload_n 2, 1) := by decide +kernel
theorem dX3_priceOf_28 : decode cX3_priceOf 28 = .ok (.getfield 109, 3) := by decide +kernel
theorem dX3_priceOf_31 : decode cX3_priceOf 31 = .ok (.bipush 10, 2) := by decide +kernel
theorem dX3_priceOf_33 : decode cX3_priceOf 33 = .ok (.aload_n 2, 1) := by decide +kernel
theorem dX3_priceOf_34 : decode cX3_priceOf 34 = .ok (.getfield 99, 3) := by decide +kernel
theorem dX3_priceOf_37 : decode cX3_priceOf 37 = .ok (.isub, 1) := by decide +kernel
theorem dX3_priceOf_38 : decode cX3_priceOf 38 = .ok (.imul, 1) := by decide +kernel
theorem dX3_priceOf_39 : decode cX3_priceOf 39 = .ok (.bipush 100, 2) := by decide +kernel
theorem dX3_priceOf_41 : decode cX3_priceOf 41 = .ok (.aload_n 3, 1) := by decide +kernel
theorem dX3_priceOf_42 : decode cX3_priceOf 42 = .ok (.getfield 112, 3) := by decide +kernel
theorem dX3_priceOf_45 : decode cX3_priceOf 45 = .ok (.iadd, 1) := by decide +kernel
theorem dX3_priceOf_46 : decode cX3_priceOf 46 = .ok (.imul, 1) := by decide +kernel
theorem dX3_priceOf_47 : decode cX3_priceOf 47 = .ok (.bipush 50, 2) := by decide +kernel
theorem dX3_priceOf_49 : decode cX3_priceOf 49 = .ok (.aload_n 3, 1) := by decide +kernel
theorem dX3_priceOf_50 : decode cX3_priceOf 50 = .ok (.getfield 102, 3) := by decide +kernel
theorem dX3_priceOf_53 : decode cX3_priceOf 53 = .ok (.iadd, 1) := by decide +kernel
theorem dX3_priceOf_54 : decode cX3_priceOf 54 = .ok (.imul, 1) := by decide +kernel
theorem dX3_priceOf_55 : decode cX3_priceOf 55 = .ok (.ldc 115, 2) := by decide +kernel
theorem dX3_priceOf_57 : decode cX3_priceOf 57 = .ok (.idiv, 1) := by decide +kernel
theorem dX3_priceOf_58 : decode cX3_priceOf 58 = .ok (.istore 4, 2) := by decide +kernel
theorem dX3_priceOf_60 : decode cX3_priceOf 60 = .ok (.iload 4, 2) := by decide +kernel
theorem dX3_priceOf_62 : decode cX3_priceOf 62 = .ok (.ifCond .ne 7, 3) := by decide +kernel
theorem dX3_priceOf_65 : decode cX3_priceOf 65 = .ok (.iconst 1, 1) := by decide +kernel
theorem dX3_priceOf_66 : decode cX3_priceOf 66 = .ok (.goto 5, 3) := by decide +kernel
theorem dX3_priceOf_69 : decode cX3_priceOf 69 = .ok (.iload 4, 2) := by decide +kernel
theorem dX3_priceOf_71 : decode cX3_priceOf 71 = .ok (.ireturn, 1) := by decide +kernel
theorem dX3_offerFor_0 : decode cX3_offerFor 0 = .ok (.aload_n 0, 1) := by decide +kernel
theorem dX3_offerFor_1 : decode cX3_offerFor 1 = .ok (.getfield 25, 3) := by decide +kernel
theorem dX3_offerFor_4 : decode cX3_offerFor 4 = .ok (.iload_n 1, 1) := by decide +kernel
theorem dX3_offerFor_5 : decode cX3_offerFor 5 = .ok (.aaload, 1) := by decide +kernel
theorem dX3_offerFor_6 : decode cX3_offerFor 6 = .ok (.astore_n 3, 1) := by decide +kernel
theorem dX3_offerFor_7 : decode cX3_offerFor 7 = .ok (.aload_n 3, 1) := by decide +kernel
theorem dX3_offerFor_8 : decode cX3_offerFor 8 = .ok (.getfield 109, 3) := by decide +kernel
theorem dX3_offerFor_11 : decode cX3_offerFor 11 = .ok (.bipush 10, 2) := by decide +kernel
theorem dX3_offerFor_13 : decode cX3_offerFor 13 = .ok (.aload_n 3, 1) := by decide +kernel
theorem dX3_offerFor_14 : decode cX3_offerFor 14 = .ok (.getfield 99, 3) := by decide +kernel
theorem dX3_offerFor_17 : decode cX3_offerFor 17 = .ok (.isub, 1) := by decide +kernel
theorem dX3_offerFor_18 : decode cX3_offerFor 18 = .ok (.imul, 1) := by decide +kernel
theorem dX3_offerFor_19 : decode cX3_offerFor 19 = .ok (.bipush 50, 2) := by decide +kernel
theorem dX3_offerFor_21 : decode cX3_offerFor 21 = .ok (.aload_n 0, 1) := by decide +kernel
theorem dX3_offerFor_22 : decode cX3_offerFor 22 = .ok (.getfield 19, 3) := by decide +kernel
theorem dX3_offerFor_25 : decode cX3_offerFor 25 = .ok (.iload_n 2, 1) := by decide +kernel
theorem dX3_offerFor_26 : decode cX3_offerFor 26 = .ok (.aaload, 1) := by decide +kernel
theorem dX3_offerFor_27 : decode cX3_offerFor 27 = .ok (.getfield 102, 3) := by decide +kernel
theorem dX3_offerFor_30 : decode cX3_offerFor 30 = .ok (.iadd, 1) := by decide +kernel
theorem dX3_offerFor_31 : decode cX3_offerFor 31 = .ok (.imul, 1) := by decide +kernel
theorem dX3_offerFor_32 : decode cX3_offerFor 32 = .ok (.sipush 1000, 3) := by decide +kernel
theorem dX3_offerFor_35 : decode cX3_offerFor 35 = .ok (.idiv, 1) := by decide +kernel
theorem dX3_offerFor_36 : decode cX3_offerFor 36 = .ok (.ireturn, 1) := by decide +kernel
theorem dX3_refundFor_0 : decode cX3_refundFor 0 = .ok (.aload_n 0, 1) := by decide +kernel
theorem dX3_refundFor_1 : decode cX3_refundFor 1 = .ok (.getfield 25, 3) := by decide +kernel
theorem dX3_refundFor_4 : decode cX3_refundFor 4 = .ok (.iload_n 1, 1) := by decide +kernel
theorem dX3_refundFor_5 : decode cX3_refundFor 5 = .ok (.aaload, 1) := by decide +kernel
theorem dX3_refundFor_6 : decode cX3_refundFor 6 = .ok (.astore_n 2, 1) := by decide +kernel
theorem dX3_refundFor_7 : decode cX3_refundFor 7 = .ok (.aload_n 2, 1) := by decide +kernel
theorem dX3_refundFor_8 : decode cX3_refundFor 8 = .ok (.getfield 116, 3) := by decide +kernel
theorem dX3_refundFor_11 : decode cX3_refundFor 11 = .ok (.iconst (-1), 1) := by decide +kernel
theorem dX3_refundFor_12 : decode cX3_refundFor 12 = .ok (.if_icmp .ne 7, 3) := by decide +kernel
theorem dX3_refundFor_15 : decode cX3_refundFor 15 = .ok (.iconst (-1), 1) := by decide +kernel
theorem dX3_refundFor_16 : decode cX3_refundFor 16 = .ok (.goto 18, 3) := by decide +kernel
theorem dX3_refundFor_19 : decode cX3_refundFor 19 = .ok (.aload_n 2, 1) := by decide +kernel
theorem dX3_refundFor_20 : decode cX3_refundFor 20 = .ok (.getfield 119, 3) := by decide +kernel
theorem dX3_refundFor_23 : decode cX3_refundFor 23 = .ok (.bipush 100, 2) := by decide +kernel
theorem dX3_refundFor_25 : decode cX3_refundFor 25 = .ok (.aload_n 0, 1) := by decide +kernel
theorem dX3_refundFor_26 : decode cX3_refundFor 26 = .ok (.getfield 51, 3) := by decide +kernel
theorem dX3_refundFor_29 : decode cX3_refundFor 29 = .ok (.isub, 1) := by decide +kernel
theorem dX3_refundFor_30 : decode cX3_refundFor 30 = .ok (.imul, 1) := by decide +kernel
theorem dX3_refundFor_31 : decode cX3_refundFor 31 = .ok (.bipush 100, 2) := by decide +kernel
theorem dX3_refundFor_33 : decode cX3_refundFor 33 = .ok (.idiv, 1) := by decide +kernel
theorem dX3_refundFor_34 : decode cX3_refundFor 34 = .ok (.ireturn, 1) := by decide +kernel
theorem dX3_obstacleToBuy_0 : decode cX3_obstacleToBuy 0 = .ok (.aload_n 0, 1) := by decide +kernel
theorem dX3_obstacleToBuy_1 : decode cX3_obstacleToBuy 1 = .ok (.getfield 25, 3) := by decide +kernel
theorem dX3_obstacleToBuy_4 : decode cX3_obstacleToBuy 4 = .ok (.iload_n 2, 1) := by decide +kernel
theorem dX3_obstacleToBuy_5 : decode cX3_obstacleToBuy 5 = .ok (.aaload, 1) := by decide +kernel
theorem dX3_obstacleToBuy_6 : decode cX3_obstacleToBuy 6 = .ok (.getfield 79, 3) := by decide +kernel
theorem dX3_obstacleToBuy_9 : decode cX3_obstacleToBuy 9 = .ok (.iconst (-1), 1) := by decide +kernel
theorem dX3_obstacleToBuy_10 : decode cX3_obstacleToBuy 10 = .ok (.if_icmp .ne 5, 3) := by decide +kernel
theorem dX3_obstacleToBuy_13 : decode cX3_obstacleToBuy 13 = .ok (.iconst 1, 1) := by decide +kernel
theorem dX3_obstacleToBuy_14 : decode cX3_obstacleToBuy 14 = .ok (.ireturn, 1) := by decide +kernel
theorem dX3_obstacleToBuy_15 : decode cX3_obstacleToBuy 15 = .ok (.aload_n 0, 1) := by decide +kernel
theorem dX3_obstacleToBuy_16 : decode cX3_obstacleToBuy 16 = .ok (.getfield 11, 3) := by decide +kernel
theorem dX3_obstacleToBuy_19 : decode cX3_obstacleToBuy 19 = .ok (.iload_n 1, 1) := by decide +kernel
theorem dX3_obstacleToBuy_20 : decode cX3_obstacleToBuy 20 = .ok (.aaload, 1) := by decide +kernel
theorem dX3_obstacleToBuy_21 : decode cX3_obstacleToBuy 21 = .ok (.getfield 89, 3) := by decide +kernel
theorem dX3_obstacleToBuy_24 : decode cX3_obstacleToBuy 24 = .ok (.aload_n 0, 1) := by decide +kernel
theorem dX3_obstacleToBuy_25 : decode cX3_obstacleToBuy 25 = .ok (.iload_n 2, 1) := by decide +kernel
theorem dX3_obstacleToBuy_26 : decode cX3_obstacleToBuy 26 = .ok (.invokevirtual 122, 3) := by decide +kernel
theorem dX3_obstacleToBuy_29 : decode cX3_obstacleToBuy 29 = .ok (.if_icmp .ge 5, 3) := by decide +kernel
theorem dX3_obstacleToBuy_32 : decode cX3_obstacleToBuy 32 = .ok (.iconst 2, 1) := by decide +kernel
theorem dX3_obstacleToBuy_33 : decode cX3_obstacleToBuy 33 = .ok (.ireturn, 1) := by decide +kernel
theorem dX3_obstacleToBuy_34 : decode cX3_obstacleToBuy 34 = .ok (.aload_n 0, 1) := by decide +kernel
theorem dX3_obstacleToBuy_35 : decode cX3_obstacleToBuy 35 = .ok (.iload_n 1, 1) := by decide +kernel
theorem dX3_obstacleToBuy_36 : decode cX3_obstacleToBuy 36 = .ok (.invokevirtual 126, 3) := by decide +kernel
theorem dX3_obstacleToBuy_39 : decode cX3_obstacleToBuy 39 = .ok (.iconst 4, 1) := by decide +kernel
theorem dX3_obstacleToBuy_40 : decode cX3_obstacleToBuy 40 = .ok (.if_icmp .lt 7, 3) := by decide +kernel
theorem dX3_obstacleToBuy_43 : decode cX3_obstacleToBuy 43 = .ok (.iconst 3, 1) := by decide +kernel
theorem dX3_obstacleToBuy_44 : decode cX3_obstacleToBuy 44 = .ok (.goto 4, 3) := by decide +kernel
theorem dX3_obstacleToBuy_47 : decode cX3_obstacleToBuy 47 = .ok (.iconst 0, 1) := by decide +kernel
theorem dX3_obstacleToBuy_48 : decode cX3_obstacleToBuy 48 = .ok (.ireturn, 1) := by decide +kernel
theorem dX3_obstacleToSell_0 : decode cX3_obstacleToSell 0 = .ok (.aload_n 0, 1) := by decide +kernel
theorem dX3_obstacleToSell_1 : decode cX3_obstacleToSell 1 = .ok (.getfield 25, 3) := by decide +kernel
theorem dX3_obstacleToSell_4 : decode cX3_obstacleToSell 4 = .ok (.iload_n 1, 1) := by decide +kernel
theorem dX3_obstacleToSell_5 : decode cX3_obstacleToSell 5 = .ok (.aaload, 1) := by decide +kernel
theorem dX3_obstacleToSell_6 : decode cX3_obstacleToSell 6 = .ok (.getfield 76, 3) := by decide +kernel
theorem dX3_obstacleToSell_9 : decode cX3_obstacleToSell 9 = .ok (.iconst (-1), 1) := by decide +kernel
theorem dX3_obstacleToSell_10 : decode cX3_obstacleToSell 10 = .ok (.if_icmp .ne 5, 3) := by decide +kernel
theorem dX3_obstacleToSell_13 : decode cX3_obstacleToSell 13 = .ok (.iconst 1, 1) := by decide +kernel
theorem dX3_obstacleToSell_14 : decode cX3_obstacleToSell 14 = .ok (.ireturn, 1) := by decide +kernel
theorem dX3_obstacleToSell_15 : decode cX3_obstacleToSell 15 = .ok (.aload_n 0, 1) := by decide +kernel
theorem dX3_obstacleToSell_16 : decode cX3_obstacleToSell 16 = .ok (.iload_n 2, 1) := by decide +kernel
theorem dX3_obstacleToSell_17 : decode cX3_obstacleToSell 17 = .ok (.invokevirtual 129, 3) := by decide +kernel
theorem dX3_obstacleToSell_20 : decode cX3_obstacleToSell 20 = .ok (.aload_n 0, 1) := by decide +kernel
theorem dX3_obstacleToSell_21 : decode cX3_obstacleToSell 21 = .ok (.getfield 19, 3) := by decide +kernel
theorem dX3_obstacleToSell_24 : decode cX3_obstacleToSell 24 = .ok (.iload_n 2, 1) := by decide +kernel
theorem dX3_obstacleToSell_25 : decode cX3_obstacleToSell 25 = .ok (.aaload, 1) := by decide +kernel
theorem dX3_obstacleToSell_26 : decode cX3_obstacleToSell 26 = .ok (.getfield 132, 3) := by decide +kernel
theorem dX3_obstacleToSell_29 : decode cX3_obstacleToSell 29 = .ok (.if_icmp .lt 5, 3) := by decide +kernel
theorem dX3_obstacleToSell_32 : decode cX3_obstacleToSell 32 = .ok (.iconst 2, 1) := by decide +kernel
theorem dX3_obstacleToSell_33 : decode cX3_obstacleToSell 33 = .ok (.ireturn, 1) := by decide +kernel
theorem dX3_obstacleToSell_34 : decode cX3_obstacleToSell 34 = .ok (.aload_n 0, 1) := by decide +kernel
theorem dX3_obstacleToSell_35 : decode cX3_obstacleToSell 35 = .ok (.getfield 19, 3) := by decide +kernel
theorem dX3_obstacleToSell_38 : decode cX3_obstacleToSell 38 = .ok (.iload_n 2, 1) := by decide +kernel
theorem dX3_obstacleToSell_39 : decode cX3_obstacleToSell 39 = .ok (.aaload, 1) := by decide +kernel
theorem dX3_obstacleToSell_40 : decode cX3_obstacleToSell 40 = .ok (.getfield 92, 3) := by decide +kernel
theorem dX3_obstacleToSell_43 : decode cX3_obstacleToSell 43 = .ok (.aload_n 0, 1) := by decide +kernel
theorem dX3_obstacleToSell_44 : decode cX3_obstacleToSell 44 = .ok (.iload_n 1, 1) := by decide +kernel
theorem dX3_obstacleToSell_45 : decode cX3_obstacleToSell 45 = .ok (.iload_n 2, 1) := by decide +kernel
theorem dX3_obstacleToSell_46 : decode cX3_obstacleToSell 46 = .ok (.invokevirtual 135, 3) := by decide +kernel
theorem dX3_obstacleToSell_49 : decode cX3_obstacleToSell 49 = .ok (.if_icmp .ge 7, 3) := by decide +kernel
theorem dX3_obstacleToSell_52 : decode cX3_obstacleToSell 52 = .ok (.iconst 3, 1) := by decide +kernel
theorem dX3_obstacleToSell_53 : decode cX3_obstacleToSell 53 = .ok (.goto 4, 3) := by decide +kernel
theorem dX3_obstacleToSell_56 : decode cX3_obstacleToSell 56 = .ok (.iconst 0, 1) := by decide +kernel
theorem dX3_obstacleToSell_57 : decode cX3_obstacleToSell 57 = .ok (.ireturn, 1) := by decide +kernel
theorem dX3_obstacleToReturn_0 : decode cX3_obstacleToReturn 0 = .ok (.aload_n 0, 1) := by decide +kernel
theorem dX3_obstacleToReturn_1 : decode cX3_obstacleToReturn 1 = .ok (.getfield 25, 3) := by decide +kernel
theorem dX3_obstacleToReturn_4 : decode cX3_obstacleToReturn 4 = .ok (.iload_n 1, 1) := by decide +kernel
theorem dX3_obstacleToReturn_5 : decode cX3_obstacleToReturn 5 = .ok (.aaload, 1) := by decide +kernel
theorem dX3_obstacleToReturn_6 : decode cX3_obstacleToReturn 6 = .ok (.astore_n 2, 1) := by decide +kernel
theorem dX3_obstacleToReturn_7 : decode cX3_obstacleToReturn 7 = .ok (.aload_n 2, 1) := by decide +kernel
theorem dX3_obstacleToReturn_8 : decode cX3_obstacleToReturn 8 = .ok (.getfield 76, 3) := by decide +kernel
theorem dX3_obstacleToReturn_11 : decode cX3_obstacleToReturn 11 = .ok (.iconst (-1), 1) := by decide +kernel
theorem dX3_obstacleToReturn_12 : decode cX3_obstacleToReturn 12 = .ok (.if_icmp .eq 11, 3) := by decide +kernel
theorem dX3_obstacleToReturn_15 : decode cX3_obstacleToReturn 15 = .ok (.aload_n 2, 1) := by decide +kernel
theorem dX3_obstacleToReturn_16 : decode cX3_obstacleToReturn 16 = .ok (.getfield 116, 3) := by decide +kernel
theorem dX3_obstacleToReturn_19 : decode cX3_obstacleToReturn 19 = .ok (.iconst (-1), 1) := by decide +kernel
theorem dX3_obstacleToReturn_20 : decode cX3_obstacleToReturn 20 = .ok (.if_icmp .ne 5, 3) := by decide +kernel
theorem dX3_obstacleToReturn_23 : decode cX3_obstacleToReturn 23 = .ok (.iconst 1, 1) := by decide +kernel
theorem dX3_obstacleToReturn_24 : decode cX3_obstacleToReturn 24 = .ok (.ireturn, 1) := by decide +kernel
theorem dX3_obstacleToReturn_25 : decode cX3_obstacleToReturn 25 = .ok (.aload_n 0, 1) := by decide +kernel
theorem dX3_obstacleToReturn_26 : decode cX3_obstacleToReturn 26 = .ok (.getfield 42, 3) := by decide +kernel
theorem dX3_obstacleToReturn_29 : decode cX3_obstacleToReturn 29 = .ok (.aload_n 2, 1) := by decide +kernel
theorem dX3_obstacleToReturn_30 : decode cX3_obstacleToReturn 30 = .ok (.getfield 116, 3) := by decide +kernel
theorem dX3_obstacleToReturn_33 : decode cX3_obstacleToReturn 33 = .ok (.isub, 1) := by decide +kernel
theorem dX3_obstacleToReturn_34 : decode cX3_obstacleToReturn 34 = .ok (.aload_n 0, 1) := by decide +kernel
theorem dX3_obstacleToReturn_35 : decode cX3_obstacleToReturn 35 = .ok (.getfield 48, 3) := by decide +kernel
theorem dX3_obstacleToReturn_38 : decode cX3_obstacleToReturn 38 = .ok (.if_icmp .le 5, 3) := by decide +kernel
theorem dX3_obstacleToReturn_41 : decode cX3_obstacleToReturn 41 = .ok (.iconst 2, 1) := by decide +kernel
theorem dX3_obstacleToReturn_42 : decode cX3_obstacleToReturn 42 = .ok (.ireturn, 1) := by decide +kernel
theorem dX3_obstacleToReturn_43 : decode cX3_obstacleToReturn 43 = .ok (.aload_n 0, 1) := by decide +kernel
theorem dX3_obstacleToReturn_44 : decode cX3_obstacleToReturn 44 = .ok (.getfield 19, 3) := by decide +kernel
theorem dX3_obstacleToReturn_47 : decode cX3_obstacleToReturn 47 = .ok (.aload_n 2, 1) := by decide +kernel
theorem dX3_obstacleToReturn_48 : decode cX3_obstacleToReturn 48 = .ok (.getfield 139, 3) := by decide +kernel
theorem dX3_obstacleToReturn_51 : decode cX3_obstacleToReturn 51 = .ok (.aaload, 1) := by decide +kernel
theorem dX3_obstacleToReturn_52 : decode cX3_obstacleToReturn 52 = .ok (.astore_n 3, 1) := by decide +kernel
theorem dX3_obstacleToReturn_53 : decode cX3_obstacleToReturn 53 = .ok (.aload_n 0, 1) := by decide +kernel
theorem dX3_obstacleToReturn_54 : decode cX3_obstacleToReturn 54 = .ok (.aload_n 2, 1) := by decide +kernel
theorem dX3_obstacleToReturn_55 : decode cX3_obstacleToReturn 55 = .ok (.getfield 139, 3) := by decide +kernel
theorem dX3_obstacleToReturn_58 : decode cX3_obstacleToReturn 58 = .ok (.invokevirtual 129, 3) := by decide +kernel
theorem dX3_obstacleToReturn_61 : decode cX3_obstacleToReturn 61 = .ok (.aload_n 3, 1) := by decide +kernel
theorem dX3_obstacleToReturn_62 : decode cX3_obstacleToReturn 62 = .ok (.getfield 132, 3) := by decide +kernel
theorem dX3_obstacleToReturn_65 : decode cX3_obstacleToReturn 65 = .ok (.if_icmp .lt 5, 3) := by decide +kernel
theorem dX3_obstacleToReturn_68 : decode cX3_obstacleToReturn 68 = .ok (.iconst 3, 1) := by decide +kernel
theorem dX3_obstacleToReturn_69 : decode cX3_obstacleToReturn 69 = .ok (.ireturn, 1) := by decide +kernel
theorem dX3_obstacleToReturn_70 : decode cX3_obstacleToReturn 70 = .ok (.aload_n 3, 1) := by decide +kernel
theorem dX3_obstacleToReturn_71 : decode cX3_obstacleToReturn 71 = .ok (.getfield 92, 3) := by decide +kernel
theorem dX3_obstacleToReturn_74 : decode cX3_obstacleToReturn 74 = .ok (.aload_n 0, 1) := by decide +kernel
theorem dX3_obstacleToReturn_75 : decode cX3_obstacleToReturn 75 = .ok (.iload_n 1, 1) := by decide +kernel
theorem dX3_obstacleToReturn_76 : decode cX3_obstacleToReturn 76 = .ok (.invokevirtual 142, 3) := by decide +kernel
theorem dX3_obstacleToReturn_79 : decode cX3_obstacleToReturn 79 = .ok (.if_icmp .ge 7, 3) := by decide +kernel
theorem dX3_obstacleToReturn_82 : decode cX3_obstacleToReturn 82 = .ok (.iconst 4, 1) := by decide +kernel
theorem dX3_obstacleToReturn_83 : decode cX3_obstacleToReturn 83 = .ok (.goto 4, 3) := by decide +kernel
theorem dX3_obstacleToReturn_86 : decode cX3_obstacleToReturn 86 = .ok (.iconst 0, 1) := by decide +kernel
theorem dX3_obstacleToReturn_87 : decode cX3_obstacleToReturn 87 = .ok (.ireturn, 1) := by decide +kernel
theorem dX3_obstacleToGrant_0 : decode cX3_obstacleToGrant 0 = .ok (.aload_n 0, 1) := by decide +kernel
theorem dX3_obstacleToGrant_1 : decode cX3_obstacleToGrant 1 = .ok (.getfield 25, 3) := by decide +kernel
theorem dX3_obstacleToGrant_4 : decode cX3_obstacleToGrant 4 = .ok (.iload_n 1, 1) := by decide +kernel
theorem dX3_obstacleToGrant_5 : decode cX3_obstacleToGrant 5 = .ok (.aaload, 1) := by decide +kernel
theorem dX3_obstacleToGrant_6 : decode cX3_obstacleToGrant 6 = .ok (.getfield 76, 3) := by decide +kernel
theorem dX3_obstacleToGrant_9 : decode cX3_obstacleToGrant 9 = .ok (.istore_n 2, 1) := by decide +kernel
theorem dX3_obstacleToGrant_10 : decode cX3_obstacleToGrant 10 = .ok (.iload_n 2, 1) := by decide +kernel
theorem dX3_obstacleToGrant_11 : decode cX3_obstacleToGrant 11 = .ok (.iconst (-1), 1) := by decide +kernel
theorem dX3_obstacleToGrant_12 : decode cX3_obstacleToGrant 12 = .ok (.if_icmp .ne 5, 3) := by decide +kernel
theorem dX3_obstacleToGrant_15 : decode cX3_obstacleToGrant 15 = .ok (.iconst 1, 1) := by decide +kernel
theorem dX3_obstacleToGrant_16 : decode cX3_obstacleToGrant 16 = .ok (.ireturn, 1) := by decide +kernel
theorem dX3_obstacleToGrant_17 : decode cX3_obstacleToGrant 17 = .ok (.aload_n 0, 1) := by decide +kernel
theorem dX3_obstacleToGrant_18 : decode cX3_obstacleToGrant 18 = .ok (.getfield 11, 3) := by decide +kernel
theorem dX3_obstacleToGrant_21 : decode cX3_obstacleToGrant 21 = .ok (.iload_n 2, 1) := by decide +kernel
theorem dX3_obstacleToGrant_22 : decode cX3_obstacleToGrant 22 = .ok (.aaload, 1) := by decide +kernel
theorem dX3_obstacleToGrant_23 : decode cX3_obstacleToGrant 23 = .ok (.getfield 145, 3) := by decide +kernel
theorem dX3_obstacleToGrant_26 : decode cX3_obstacleToGrant 26 = .ok (.aload_n 0, 1) := by decide +kernel
theorem dX3_obstacleToGrant_27 : decode cX3_obstacleToGrant 27 = .ok (.invokevirtual 148, 3) := by decide +kernel
theorem dX3_obstacleToGrant_30 : decode cX3_obstacleToGrant 30 = .ok (.if_icmp .eq 5, 3) := by decide +kernel
theorem dX3_obstacleToGrant_33 : decode cX3_obstacleToGrant 33 = .ok (.iconst 2, 1) := by decide +kernel
theorem dX3_obstacleToGrant_34 : decode cX3_obstacleToGrant 34 = .ok (.ireturn, 1) := by decide +kernel
theorem dX3_obstacleToGrant_35 : decode cX3_obstacleToGrant 35 = .ok (.aload_n 0, 1) := by decide +kernel
theorem dX3_obstacleToGrant_36 : decode cX3_obstacleToGrant 36 = .ok (.getfield 11, 3) := by decide +kernel
theorem dX3_obstacleToGrant_39 : decode cX3_obstacleToGrant 39 = .ok (.iload_n 2, 1) := by decide +kernel
theorem dX3_obstacleToGrant_40 : decode cX3_obstacleToGrant 40 = .ok (.aaload, 1) := by decide +kernel
theorem dX3_obstacleToGrant_41 : decode cX3_obstacleToGrant 41 = .ok (.getfield 152, 3) := by decide +kernel
theorem dX3_obstacleToGrant_44 : decode cX3_obstacleToGrant 44 = .ok (.aload_n 0, 1) := by decide +kernel
theorem dX3_obstacleToGrant_45 : decode cX3_obstacleToGrant 45 = .ok (.getfield 25, 3) := by decide +kernel
theorem dX3_obstacleToGrant_48 : decode cX3_obstacleToGrant 48 = .ok (.iload_n 1, 1) := by decide +kernel
theorem dX3_obstacleToGrant_49 : decode cX3_obstacleToGrant 49 = .ok (.aaload, 1) := by decide +kernel
theorem dX3_obstacleToGrant_50 : decode cX3_obstacleToGrant 50 = .ok (.getfield 155, 3) := by decide +kernel
theorem dX3_obstacleToGrant_53 : decode cX3_obstacleToGrant 53 = .ok (.if_icmp .ge 7, 3) := by decide +kernel
theorem dX3_obstacleToGrant_56 : decode cX3_obstacleToGrant 56 = .ok (.iconst 3, 1) := by decide +kernel
theorem dX3_obstacleToGrant_57 : decode cX3_obstacleToGrant 57 = .ok (.goto 4, 3) := by decide +kernel
theorem dX3_obstacleToGrant_60 : decode cX3_obstacleToGrant 60 = .ok (.iconst 0, 1) := by decide +kernel
theorem dX3_obstacleToGrant_61 : decode cX3_obstacleToGrant 61 = .ok (.ireturn, 1) := by decide +kernel
theorem dX3_cheapestFor_0 : decode cX3_cheapestFor 0 = .ok (.iconst (-1), 1) := by decide +kernel
theorem dX3_cheapestFor_1 : decode cX3_cheapestFor 1 = .ok (.istore_n 3, 1) := by decide +kernel
theorem dX3_cheapestFor_2 : decode cX3_cheapestFor 2 = .ok (.iconst 0, 1) := by decide +kernel
theorem dX3_cheapestFor_3 : decode cX3_cheapestFor 3 = .ok (.istore 4, 2) := by decide +kernel
theorem dX3_cheapestFor_5 : decode cX3_cheapestFor 5 = .ok (.iload 4, 2) := by decide +kernel
theorem dX3_cheapestFor_7 : decode cX3_cheapestFor 7 = .ok (.aload_n 0, 1) := by decide +kernel
theorem dX3_cheapestFor_8 : decode cX3_cheapestFor 8 = .ok (.getfield 39, 3) := by decide +kernel
theorem dX3_cheapestFor_11 : decode cX3_cheapestFor 11 = .ok (.if_icmp .ge 51, 3) := by decide +kernel
theorem dX3_cheapestFor_14 : decode cX3_cheapestFor 14 = .ok (.aload_n 0, 1) := by decide +kernel
theorem dX3_cheapestFor_15 : decode cX3_cheapestFor 15 = .ok (.iload_n 1, 1) := by decide +kernel
theorem dX3_cheapestFor_16 : decode cX3_cheapestFor 16 = .ok (.iload 4, 2) := by decide +kernel
theorem dX3_cheapestFor_18 : decode cX3_cheapestFor 18 = .ok (.invokevirtual 158, 3) := by decide +kernel
theorem dX3_cheapestFor_21 : decode cX3_cheapestFor 21 = .ok (.ifCond .ne 35, 3) := by decide +kernel
theorem dX3_cheapestFor_24 : decode cX3_cheapestFor 24 = .ok (.aload_n 0, 1) := by decide +kernel
theorem dX3_cheapestFor_25 : decode cX3_cheapestFor 25 = .ok (.iload 4, 2) := by decide +kernel
theorem dX3_cheapestFor_27 : decode cX3_cheapestFor 27 = .ok (.invokevirtual 122, 3) := by decide +kernel
theorem dX3_cheapestFor_30 : decode cX3_cheapestFor 30 = .ok (.iload_n 2, 1) := by decide +kernel
theorem dX3_cheapestFor_31 : decode cX3_cheapestFor 31 = .ok (.if_icmp .gt 25, 3) := by decide +kernel
theorem dX3_cheapestFor_34 : decode cX3_cheapestFor 34 = .ok (.iload_n 3, 1) := by decide +kernel
theorem dX3_cheapestFor_35 : decode cX3_cheapestFor 35 = .ok (.iconst (-1), 1) := by decide +kernel
theorem dX3_cheapestFor_36 : decode cX3_cheapestFor 36 = .ok (.if_icmp .eq 17, 3) := by decide +kernel
theorem dX3_cheapestFor_39 : decode cX3_cheapestFor 39 = .ok (.aload_n 0, 1) := by decide +kernel
theorem dX3_cheapestFor_40 : decode cX3_cheapestFor 40 = .ok (.iload 4, 2) := by decide +kernel
theorem dX3_cheapestFor_42 : decode cX3_cheapestFor 42 = .ok (.invokevirtual 122, 3) := by decide +kernel
theorem dX3_cheapestFor_45 : decode cX3_cheapestFor 45 = .ok (.aload_n 0, 1) := by decide +kernel
theorem dX3_cheapestFor_46 : decode cX3_cheapestFor 46 = .ok (.iload_n 3, 1) := by decide +kernel
theorem dX3_cheapestFor_47 : decode cX3_cheapestFor 47 = .ok (.invokevirtual 122, 3) := by decide +kernel
theorem dX3_cheapestFor_50 : decode cX3_cheapestFor 50 = .ok (.if_icmp .ge 6, 3) := by decide +kernel
theorem dX3_cheapestFor_53 : decode cX3_cheapestFor 53 = .ok (.iload 4, 2) := by decide +kernel
theorem dX3_cheapestFor_55 : decode cX3_cheapestFor 55 = .ok (.istore_n 3, 1) := by decide +kernel
theorem dX3_cheapestFor_56 : decode cX3_cheapestFor 56 = .ok (.iinc 4 1, 3) := by decide +kernel
theorem dX3_cheapestFor_59 : decode cX3_cheapestFor 59 = .ok (.goto (-54), 3) := by decide +kernel
theorem dX3_cheapestFor_62 : decode cX3_cheapestFor 62 = .ok (.iload_n 3, 1) := by decide +kernel
theorem dX3_cheapestFor_63 : decode cX3_cheapestFor 63 = .ok (.ireturn, 1) := by decide +kernel
theorem dX3_bestGrantFor_0 : decode cX3_bestGrantFor 0 = .ok (.iconst (-1), 1) := by decide +kernel
theorem dX3_bestGrantFor_1 : decode cX3_bestGrantFor 1 = .ok (.istore_n 2, 1) := by decide +kernel
theorem dX3_bestGrantFor_2 : decode cX3_bestGrantFor 2 = .ok (.iconst 0, 1) := by decide +kernel
theorem dX3_bestGrantFor_3 : decode cX3_bestGrantFor 3 = .ok (.istore_n 3, 1) := by decide +kernel
theorem dX3_bestGrantFor_4 : decode cX3_bestGrantFor 4 = .ok (.iload_n 3, 1) := by decide +kernel
theorem dX3_bestGrantFor_5 : decode cX3_bestGrantFor 5 = .ok (.aload_n 0, 1) := by decide +kernel
theorem dX3_bestGrantFor_6 : decode cX3_bestGrantFor 6 = .ok (.getfield 39, 3) := by decide +kernel
theorem dX3_bestGrantFor_9 : decode cX3_bestGrantFor 9 = .ok (.if_icmp .ge 58, 3) := by decide +kernel
theorem dX3_bestGrantFor_12 : decode cX3_bestGrantFor 12 = .ok (.aload_n 0, 1) := by decide +kernel
theorem dX3_bestGrantFor_13 : decode cX3_bestGrantFor 13 = .ok (.getfield 25, 3) := by decide +kernel
theorem dX3_bestGrantFor_16 : decode cX3_bestGrantFor 16 = .ok (.iload_n 3, 1) := by decide +kernel
theorem dX3_bestGrantFor_17 : decode cX3_bestGrantFor 17 = .ok (.aaload, 1) := by decide +kernel
theorem dX3_bestGrantFor_18 : decode cX3_bestGrantFor 18 = .ok (.getfield 76, 3) := by decide +kernel
theorem dX3_bestGrantFor_21 : decode cX3_bestGrantFor 21 = .ok (.iload_n 1, 1) := by decide +kernel
theorem dX3_bestGrantFor_22 : decode cX3_bestGrantFor 22 = .ok (.if_icmp .ne 39, 3) := by decide +kernel
theorem dX3_bestGrantFor_25 : decode cX3_bestGrantFor 25 = .ok (.aload_n 0, 1) := by decide +kernel
theorem dX3_bestGrantFor_26 : decode cX3_bestGrantFor 26 = .ok (.iload_n 3, 1) := by decide +kernel
theorem dX3_bestGrantFor_27 : decode cX3_bestGrantFor 27 = .ok (.invokevirtual 161, 3) := by decide +kernel
theorem dX3_bestGrantFor_30 : decode cX3_bestGrantFor 30 = .ok (.ifCond .ne 31, 3) := by decide +kernel
theorem dX3_bestGrantFor_33 : decode cX3_bestGrantFor 33 = .ok (.iload_n 2, 1) := by decide +kernel
theorem dX3_bestGrantFor_34 : decode cX3_bestGrantFor 34 = .ok (.iconst (-1), 1) := by decide +kernel
theorem dX3_bestGrantFor_35 : decode cX3_bestGrantFor 35 = .ok (.if_icmp .eq 24, 3) := by decide +kernel
theorem dX3_bestGrantFor_38 : decode cX3_bestGrantFor 38 = .ok (.aload_n 0, 1) := by decide +kernel
theorem dX3_bestGrantFor_39 : decode cX3_bestGrantFor 39 = .ok (.getfield 25, 3) := by decide +kernel
theorem dX3_bestGrantFor_42 : decode cX3_bestGrantFor 42 = .ok (.iload_n 3, 1) := by decide +kernel
theorem dX3_bestGrantFor_43 : decode cX3_bestGrantFor 43 = .ok (.aaload, 1) := by decide +kernel
theorem dX3_bestGrantFor_44 : decode cX3_bestGrantFor 44 = .ok (.invokevirtual 164, 3) := by decide +kernel
theorem dX3_bestGrantFor_47 : decode cX3_bestGrantFor 47 = .ok (.aload_n 0, 1) := by decide +kernel
theorem dX3_bestGrantFor_48 : decode cX3_bestGrantFor 48 = .ok (.getfield 25, 3) := by decide +kernel
theorem dX3_bestGrantFor_51 : decode cX3_bestGrantFor 51 = .ok (.iload_n 2, 1) := by decide +kernel
theorem dX3_bestGrantFor_52 : decode cX3_bestGrantFor 52 = .ok (.aaload, 1) := by decide +kernel
theorem dX3_bestGrantFor_53 : decode cX3_bestGrantFor 53 = .ok (.invokevirtual 164, 3) := by decide +kernel
theorem dX3_bestGrantFor_56 : decode cX3_bestGrantFor 56 = .ok (.if_icmp .le 5, 3) := by decide +kernel
theorem dX3_bestGrantFor_59 : decode cX3_bestGrantFor 59 = .ok (.iload_n 3, 1) := by decide +kernel
theorem dX3_bestGrantFor_60 : decode cX3_bestGrantFor 60 = .ok (.istore_n 2, 1) := by decide +kernel
theorem dX3_bestGrantFor_61 : decode cX3_bestGrantFor 61 = .ok (.iinc 3 1, 3) := by decide +kernel
theorem dX3_bestGrantFor_64 : decode cX3_bestGrantFor 64 = .ok (.goto (-60), 3) := by decide +kernel
theorem dX3_bestGrantFor_67 : decode cX3_bestGrantFor 67 = .ok (.iload_n 2, 1) := by decide +kernel
theorem dX3_bestGrantFor_68 : decode cX3_bestGrantFor 68 = .ok (.ireturn, 1) := by decide +kernel
theorem dX3_bestStallFor_0 : decode cX3_bestStallFor 0 = .ok (.iconst (-1), 1) := by decide +kernel
theorem dX3_bestStallFor_1 : decode cX3_bestStallFor 1 = .ok (.istore_n 2, 1) := by decide +kernel
theorem dX3_bestStallFor_2 : decode cX3_bestStallFor 2 = .ok (.iconst 0, 1) := by decide +kernel
theorem dX3_bestStallFor_3 : decode cX3_bestStallFor 3 = .ok (.istore_n 3, 1) := by decide +kernel
theorem dX3_bestStallFor_4 : decode cX3_bestStallFor 4 = .ok (.iload_n 3, 1) := by decide +kernel
theorem dX3_bestStallFor_5 : decode cX3_bestStallFor 5 = .ok (.aload_n 0, 1) := by decide +kernel
theorem dX3_bestStallFor_6 : decode cX3_bestStallFor 6 = .ok (.getfield 36, 3) := by decide +kernel
theorem dX3_bestStallFor_9 : decode cX3_bestStallFor 9 = .ok (.if_icmp .ge 40, 3) := by decide +kernel
theorem dX3_bestStallFor_12 : decode cX3_bestStallFor 12 = .ok (.aload_n 0, 1) := by decide +kernel
theorem dX3_bestStallFor_13 : decode cX3_bestStallFor 13 = .ok (.iload_n 1, 1) := by decide +kernel
theorem dX3_bestStallFor_14 : decode cX3_bestStallFor 14 = .ok (.iload_n 3, 1) := by decide +kernel
theorem dX3_bestStallFor_15 : decode cX3_bestStallFor 15 = .ok (.invokevirtual 167, 3) := by decide +kernel
theorem dX3_bestStallFor_18 : decode cX3_bestStallFor 18 = .ok (.ifCond .ne 25, 3) := by decide +kernel
theorem dX3_bestStallFor_21 : decode cX3_bestStallFor 21 = .ok (.iload_n 2, 1) := by decide +kernel
theorem dX3_bestStallFor_22 : decode cX3_bestStallFor 22 = .ok (.iconst (-1), 1) := by decide +kernel
theorem dX3_bestStallFor_23 : decode cX3_bestStallFor 23 = .ok (.if_icmp .eq 18, 3) := by decide +kernel
theorem dX3_bestStallFor_26 : decode cX3_bestStallFor 26 = .ok (.aload_n 0, 1) := by decide +kernel
theorem dX3_bestStallFor_27 : decode cX3_bestStallFor 27 = .ok (.iload_n 1, 1) := by decide +kernel
theorem dX3_bestStallFor_28 : decode cX3_bestStallFor 28 = .ok (.iload_n 3, 1) := by decide +kernel
theorem dX3_bestStallFor_29 : decode cX3_bestStallFor 29 = .ok (.invokevirtual 135, 3) := by decide +kernel
theorem dX3_bestStallFor_32 : decode cX3_bestStallFor 32 = .ok (.aload_n 0, 1) := by decide +kernel
theorem dX3_bestStallFor_33 : decode cX3_bestStallFor 33 = .ok (.iload_n 1, 1) := by decide +kernel
theorem dX3_bestStallFor_34 : decode cX3_bestStallFor 34 = .ok (.iload_n 2, 1) := by decide +kernel
theorem dX3_bestStallFor_35 : decode cX3_bestStallFor 35 = .ok (.invokevirtual 135, 3) := by decide +kernel
theorem dX3_bestStallFor_38 : decode cX3_bestStallFor 38 = .ok (.if_icmp .le 5, 3) := by decide +kernel
theorem dX3_bestStallFor_41 : decode cX3_bestStallFor 41 = .ok (.iload_n 3, 1) := by decide +kernel
theorem dX3_bestStallFor_42 : decode cX3_bestStallFor 42 = .ok (.istore_n 2, 1) := by decide +kernel
theorem dX3_bestStallFor_43 : decode cX3_bestStallFor 43 = .ok (.iinc 3 1, 3) := by decide +kernel
theorem dX3_bestStallFor_46 : decode cX3_bestStallFor 46 = .ok (.goto (-42), 3) := by decide +kernel
theorem dX3_bestStallFor_49 : decode cX3_bestStallFor 49 = .ok (.iload_n 2, 1) := by decide +kernel
theorem dX3_bestStallFor_50 : decode cX3_bestStallFor 50 = .ok (.ireturn, 1) := by decide +kernel
theorem dX3_carryOutPurchase_0 : decode cX3_carryOutPurchase 0 = .ok (.aload_n 0, 1) := by decide +kernel
theorem dX3_carryOutPurchase_1 : decode cX3_carryOutPurchase 1 = .ok (.iload_n 2, 1) := by decide +kernel
theorem dX3_carryOutPurchase_2 : decode cX3_carryOutPurchase 2 = .ok (.invokevirtual 122, 3) := by decide +kernel
theorem dX3_carryOutPurchase_5 : decode cX3_carryOutPurchase 5 = .ok (.istore_n 3, 1) := by decide +kernel
theorem dX3_carryOutPurchase_6 : decode cX3_carryOutPurchase 6 = .ok (.aload_n 0, 1) := by decide +kernel
theorem dX3_carryOutPurchase_7 : decode cX3_carryOutPurchase 7 = .ok (.getfield 25, 3) := by decide +kernel
theorem dX3_carryOutPurchase_10 : decode cX3_carryOutPurchase 10 = .ok (.iload_n 2, 1) := by decide +kernel
theorem dX3_carryOutPurchase_11 : decode cX3_carryOutPurchase 11 = .ok (.aaload, 1) := by decide +kernel
theorem dX3_carryOutPurchase_12 : decode cX3_carryOutPurchase 12 = .ok (.getfield 79, 3) := by decide +kernel
theorem dX3_carryOutPurchase_15 : decode cX3_carryOutPurchase 15 = .ok (.istore 4, 2) := by decide +kernel
theorem dX3_carryOutPurchase_17 : decode cX3_carryOutPurchase 17 = .ok (.aload_n 0, 1) := by decide +kernel
theorem dX3_carryOutPurchase_18 : decode cX3_carryOutPurchase 18 = .ok (.iload_n 1, 1) := by decide +kernel
theorem dX3_carryOutPurchase_19 : decode cX3_carryOutPurchase 19 = .ok (.iload_n 2, 1) := by decide +kernel
theorem dX3_carryOutPurchase_20 : decode cX3_carryOutPurchase 20 = .ok (.iload_n 3, 1) := by decide +kernel
theorem dX3_carryOutPurchase_21 : decode cX3_carryOutPurchase 21 = .ok (.invokevirtual 170, 3) := by decide +kernel
theorem dX3_carryOutPurchase_24 : decode cX3_carryOutPurchase 24 = .ok (.aload_n 0, 1) := by decide +kernel
theorem dX3_carryOutPurchase_25 : decode cX3_carryOutPurchase 25 = .ok (.getfield 19, 3) := by decide +kernel
theorem dX3_carryOutPurchase_28 : decode cX3_carryOutPurchase 28 = .ok (.iload 4, 2) := by decide +kernel
theorem dX3_carryOutPurchase_30 : decode cX3_carryOutPurchase 30 = .ok (.aaload, 1) := by decide +kernel
theorem dX3_carryOutPurchase_31 : decode cX3_carryOutPurchase 31 = .ok (.aload_n 0, 1) := by decide +kernel
theorem dX3_carryOutPurchase_32 : decode cX3_carryOutPurchase 32 = .ok (.getfield 19, 3) := by decide +kernel
theorem dX3_carryOutPurchase_35 : decode cX3_carryOutPurchase 35 = .ok (.iload 4, 2) := by decide +kernel
theorem dX3_carryOutPurchase_37 : decode cX3_carryOutPurchase 37 = .ok (.aaload, 1) := by decide +kernel
theorem dX3_carryOutPurchase_38 : decode cX3_carryOutPurchase 38 = .ok (.getfield 102, 3) := by decide +kernel
theorem dX3_carryOutPurchase_41 : decode cX3_carryOutPurchase 41 = .ok (.iconst 1, 1) := by decide +kernel
theorem dX3_carryOutPurchase_42 : decode cX3_carryOutPurchase 42 = .ok (.iadd, 1) := by decide +kernel
theorem dX3_carryOutPurchase_43 : decode cX3_carryOutPurchase 43 = .ok (.bipush 50, 2) := by decide +kernel
theorem dX3_carryOutPurchase_45 : decode cX3_carryOutPurchase 45 = .ok (.invokestatic 174, 3) := by decide +kernel
theorem dX3_carryOutPurchase_48 : decode cX3_carryOutPurchase 48 = .ok (.putfield 102, 3) := by decide +kernel
theorem dX3_carryOutPurchase_51 : decode cX3_carryOutPurchase 51 = .ok (.iload_n 3, 1) := by decide +kernel
theorem dX3_carryOutPurchase_52 : decode cX3_carryOutPurchase 52 = .ok (.ireturn, 1) := by decide +kernel
theorem dX3_handOver_0 : decode cX3_handOver 0 = .ok (.aload_n 0, 1) := by decide +kernel
theorem dX3_handOver_1 : decode cX3_handOver 1 = .ok (.getfield 25, 3) := by decide +kernel
theorem dX3_handOver_4 : decode cX3_handOver 4 = .ok (.iload_n 2, 1) := by decide +kernel
theorem dX3_handOver_5 : decode cX3_handOver 5 = .ok (.aaload, 1) := by decide +kernel
theorem dX3_handOver_6 : decode cX3_handOver 6 = .ok (.astore 4, 2) := by decide +kernel
theorem dX3_handOver_8 : decode cX3_handOver 8 = .ok (.aload 4, 2) := by decide +kernel
theorem dX3_handOver_10 : decode cX3_handOver 10 = .ok (.getfield 79, 3) := by decide +kernel
theorem dX3_handOver_13 : decode cX3_handOver 13 = .ok (.istore 5, 2) := by decide +kernel
theorem dX3_handOver_15 : decode cX3_handOver 15 = .ok (.aload_n 0, 1) := by decide +kernel
theorem dX3_handOver_16 : decode cX3_handOver 16 = .ok (.getfield 11, 3) := by decide +kernel
theorem dX3_handOver_19 : decode cX3_handOver 19 = .ok (.iload_n 1, 1) := by decide +kernel
theorem dX3_handOver_20 : decode cX3_handOver 20 = .ok (.aaload, 1) := by decide +kernel
theorem dX3_handOver_21 : decode cX3_handOver 21 = .ok (.dup, 1) := by decide +kernel
theorem dX3_handOver_22 : decode cX3_handOver 22 = .ok (.getfield 89, 3) := by decide +kernel
theorem dX3_handOver_25 : decode cX3_handOver 25 = .ok (.iload_n 3, 1) := by decide +kernel
theorem dX3_handOver_26 : decode cX3_handOver 26 = .ok (.isub, 1) := by decide +kernel
theorem dX3_handOver_27 : decode cX3_handOver 27 = .ok (.putfield 89, 3) := by decide +kernel
theorem dX3_handOver_30 : decode cX3_handOver 30 = .ok (.aload_n 0, 1) := by decide +kernel
theorem dX3_handOver_31 : decode cX3_handOver 31 = .ok (.getfield 19, 3) := by decide +kernel
theorem dX3_handOver_34 : decode cX3_handOver 34 = .ok (.iload 5, 2) := by decide +kernel
theorem dX3_handOver_36 : decode cX3_handOver 36 = .ok (.aaload, 1) := by decide +kernel
theorem dX3_handOver_37 : decode cX3_handOver 37 = .ok (.dup, 1) := by decide +kernel
theorem dX3_handOver_38 : decode cX3_handOver 38 = .ok (.getfield 92, 3) := by decide +kernel
theorem dX3_handOver_41 : decode cX3_handOver 41 = .ok (.iload_n 3, 1) := by decide +kernel
theorem dX3_handOver_42 : decode cX3_handOver 42 = .ok (.iadd, 1) := by decide +kernel
theorem dX3_handOver_43 : decode cX3_handOver 43 = .ok (.putfield 92, 3) := by decide +kernel
theorem dX3_handOver_46 : decode cX3_handOver 46 = .ok (.aload 4, 2) := by decide +kernel
theorem dX3_handOver_48 : decode cX3_handOver 48 = .ok (.iconst (-1), 1) := by decide +kernel
theorem dX3_handOver_49 : decode cX3_handOver 49 = .ok (.iload_n 1, 1) := by decide +kernel
theorem dX3_handOver_50 : decode cX3_handOver 50 = .ok (.invokevirtual 179, 3) := by decide +kernel
theorem dX3_handOver_53 : decode cX3_handOver 53 = .ok (.aload 4, 2) := by decide +kernel
theorem dX3_handOver_55 : decode cX3_handOver 55 = .ok (.aload_n 0, 1) := by decide +kernel
theorem dX3_handOver_56 : decode cX3_handOver 56 = .ok (.getfield 42, 3) := by decide +kernel
theorem dX3_handOver_59 : decode cX3_handOver 59 = .ok (.putfield 116, 3) := by decide +kernel
theorem dX3_handOver_62 : decode cX3_handOver 62 = .ok (.aload 4, 2) := by decide +kernel
theorem dX3_handOver_64 : decode cX3_handOver 64 = .ok (.iload_n 3, 1) := by decide +kernel
theorem dX3_handOver_65 : decode cX3_handOver 65 = .ok (.putfield 119, 3) := by decide +kernel
theorem dX3_handOver_68 : decode cX3_handOver 68 = .ok (.aload 4, 2) := by decide +kernel
theorem dX3_handOver_70 : decode cX3_handOver 70 = .ok (.iload 5, 2) := by decide +kernel
theorem dX3_handOver_72 : decode cX3_handOver 72 = .ok (.putfield 139, 3) := by decide +kernel
theorem dX3_handOver_75 : decode cX3_handOver 75 = .ok (.return_, 1) := by decide +kernel
theorem dX3_carryOutSale_0 : decode cX3_carryOutSale 0 = .ok (.aload_n 0, 1) := by decide +kernel
theorem dX3_carryOutSale_1 : decode cX3_carryOutSale 1 = .ok (.iload_n 1, 1) := by decide +kernel
theorem dX3_carryOutSale_2 : decode cX3_carryOutSale 2 = .ok (.iload_n 2, 1) := by decide +kernel
theorem dX3_carryOutSale_3 : decode cX3_carryOutSale 3 = .ok (.invokevirtual 135, 3) := by decide +kernel
theorem dX3_carryOutSale_6 : decode cX3_carryOutSale 6 = .ok (.istore_n 3, 1) := by decide +kernel
theorem dX3_carryOutSale_7 : decode cX3_carryOutSale 7 = .ok (.aload_n 0, 1) := by decide +kernel
theorem dX3_carryOutSale_8 : decode cX3_carryOutSale 8 = .ok (.iload_n 1, 1) := by decide +kernel
theorem dX3_carryOutSale_9 : decode cX3_carryOutSale 9 = .ok (.iload_n 2, 1) := by decide +kernel
theorem dX3_carryOutSale_10 : decode cX3_carryOutSale 10 = .ok (.iload_n 3, 1) := by decide +kernel
theorem dX3_carryOutSale_11 : decode cX3_carryOutSale 11 = .ok (.invokevirtual 183, 3) := by decide +kernel
theorem dX3_carryOutSale_14 : decode cX3_carryOutSale 14 = .ok (.iload_n 3, 1) := by decide +kernel
theorem dX3_carryOutSale_15 : decode cX3_carryOutSale 15 = .ok (.ireturn, 1) := by decide +kernel
theorem dX3_carryOutReturn_0 : decode cX3_carryOutReturn 0 = .ok (.aload_n 0, 1) := by decide +kernel
theorem dX3_carryOutReturn_1 : decode cX3_carryOutReturn 1 = .ok (.iload_n 1, 1) := by decide +kernel
theorem dX3_carryOutReturn_2 : decode cX3_carryOutReturn 2 = .ok (.invokevirtual 142, 3) := by decide +kernel
theorem dX3_carryOutReturn_5 : decode cX3_carryOutReturn 5 = .ok (.istore_n 2, 1) := by decide +kernel
theorem dX3_carryOutReturn_6 : decode cX3_carryOutReturn 6 = .ok (.aload_n 0, 1) := by decide +kernel
theorem dX3_carryOutReturn_7 : decode cX3_carryOutReturn 7 = .ok (.getfield 25, 3) := by decide +kernel
theorem dX3_carryOutReturn_10 : decode cX3_carryOutReturn 10 = .ok (.iload_n 1, 1) := by decide +kernel
theorem dX3_carryOutReturn_11 : decode cX3_carryOutReturn 11 = .ok (.aaload, 1) := by decide +kernel
theorem dX3_carryOutReturn_12 : decode cX3_carryOutReturn 12 = .ok (.getfield 139, 3) := by decide +kernel
theorem dX3_carryOutReturn_15 : decode cX3_carryOutReturn 15 = .ok (.istore_n 3, 1) := by decide +kernel
theorem dX3_carryOutReturn_16 : decode cX3_carryOutReturn 16 = .ok (.aload_n 0, 1) := by decide +kernel
theorem dX3_carryOutReturn_17 : decode cX3_carryOutReturn 17 = .ok (.iload_n 1, 1) := by decide +kernel
theorem dX3_carryOutReturn_18 : decode cX3_carryOutReturn 18 = .ok (.iload_n 3, 1) := by decide +kernel
theorem dX3_carryOutReturn_19 : decode cX3_carryOutReturn 19 = .ok (.iload_n 2, 1) := by decide +kernel
theorem dX3_carryOutReturn_20 : decode cX3_carryOutReturn 20 = .ok (.invokevirtual 183, 3) := by decide +kernel
theorem dX3_carryOutReturn_23 : decode cX3_carryOutReturn 23 = .ok (.aload_n 0, 1) := by decide +kernel
theorem dX3_carryOutReturn_24 : decode cX3_carryOutReturn 24 = .ok (.getfield 19, 3) := by decide +kernel
theorem dX3_carryOutReturn_27 : decode cX3_carryOutReturn 27 = .ok (.iload_n 3, 1) := by decide +kernel
theorem dX3_carryOutReturn_28 : decode cX3_carryOutReturn 28 = .ok (.aaload, 1) := by decide +kernel
theorem dX3_carryOutReturn_29 : decode cX3_carryOutReturn 29 = .ok (.aload_n 0, 1) := by decide +kernel
theorem dX3_carryOutReturn_30 : decode cX3_carryOutReturn 30 = .ok (.getfield 19, 3) := by decide +kernel
theorem dX3_carryOutReturn_33 : decode cX3_carryOutReturn 33 = .ok (.iload_n 3, 1) := by decide +kernel
theorem dX3_carryOutReturn_34 : decode cX3_carryOutReturn 34 = .ok (.aaload, 1) := by decide +kernel
theorem dX3_carryOutReturn_35 : decode cX3_carryOutReturn 35 = .ok (.getfield 102, 3) := by decide +kernel
theorem dX3_carryOutReturn_38 : decode cX3_carryOutReturn 38 = .ok (.iconst 2, 1) := by decide +kernel
theorem dX3_carryOutReturn_39 : decode cX3_carryOutReturn 39 = .ok (.isub, 1) := by decide +kernel
theorem dX3_carryOutReturn_40 : decode cX3_carryOutReturn 40 = .ok (.iconst 0, 1) := by decide +kernel
theorem dX3_carryOutReturn_41 : decode cX3_carryOutReturn 41 = .ok (.invokestatic 186, 3) := by decide +kernel
theorem dX3_carryOutReturn_44 : decode cX3_carryOutReturn 44 = .ok (.putfield 102, 3) := by decide +kernel
theorem dX3_carryOutReturn_47 : decode cX3_carryOutReturn 47 = .ok (.iload_n 2, 1) := by decide +kernel
theorem dX3_carryOutReturn_48 : decode cX3_carryOutReturn 48 = .ok (.ireturn, 1) := by decide +kernel
theorem dX3_takeBack_0 : decode cX3_takeBack 0 = .ok (.aload_n 0, 1) := by decide +kernel
theorem dX3_takeBack_1 : decode cX3_takeBack 1 = .ok (.getfield 19, 3) := by decide +kernel
theorem dX3_takeBack_4 : decode cX3_takeBack 4 = .ok (.iload_n 2, 1) := by decide +kernel
theorem dX3_takeBack_5 : decode cX3_takeBack 5 = .ok (.aaload, 1) := by decide +kernel
theorem dX3_takeBack_6 : decode cX3_takeBack 6 = .ok (.dup, 1) := by decide +kernel
theorem dX3_takeBack_7 : decode cX3_takeBack 7 = .ok (.getfield 92, 3) := by decide +kernel
theorem dX3_takeBack_10 : decode cX3_takeBack 10 = .ok (.iload_n 3, 1) := by decide +kernel
theorem dX3_takeBack_11 : decode cX3_takeBack 11 = .ok (.isub, 1) := by decide +kernel
theorem dX3_takeBack_12 : decode cX3_takeBack 12 = .ok (.putfield 92, 3) := by decide +kernel
theorem dX3_takeBack_15 : decode cX3_takeBack 15 = .ok (.aload_n 0, 1) := by decide +kernel
theorem dX3_takeBack_16 : decode cX3_takeBack 16 = .ok (.getfield 11, 3) := by decide +kernel
theorem dX3_takeBack_19 : decode cX3_takeBack 19 = .ok (.aload_n 0, 1) := by decide +kernel
theorem dX3_takeBack_20 : decode cX3_takeBack 20 = .ok (.getfield 25, 3) := by decide +kernel
theorem dX3_takeBack_23 : decode cX3_takeBack 23 = .ok (.iload_n 1, 1) := by decide +kernel
theorem dX3_takeBack_24 : decode cX3_takeBack 24 = .ok (.aaload, 1) := by decide +kernel
theorem dX3_takeBack_25 : decode cX3_takeBack 25 = .ok (.getfield 76, 3) := by decide +kernel
theorem dX3_takeBack_28 : decode cX3_takeBack 28 = .ok (.aaload, 1) := by decide +kernel
theorem dX3_takeBack_29 : decode cX3_takeBack 29 = .ok (.dup, 1) := by decide +kernel
theorem dX3_takeBack_30 : decode cX3_takeBack 30 = .ok (.getfield 89, 3) := by decide +kernel
theorem dX3_takeBack_33 : decode cX3_takeBack 33 = .ok (.iload_n 3, 1) := by decide +kernel
theorem dX3_takeBack_34 : decode cX3_takeBack 34 = .ok (.iadd, 1) := by decide +kernel
theorem dX3_takeBack_35 : decode cX3_takeBack 35 = .ok (.putfield 89, 3) := by decide +kernel
theorem dX3_takeBack_38 : decode cX3_takeBack 38 = .ok (.aload_n 0, 1) := by decide +kernel
theorem dX3_takeBack_39 : decode cX3_takeBack 39 = .ok (.getfield 25, 3) := by decide +kernel
theorem dX3_takeBack_42 : decode cX3_takeBack 42 = .ok (.iload_n 1, 1) := by decide +kernel
theorem dX3_takeBack_43 : decode cX3_takeBack 43 = .ok (.aaload, 1) := by decide +kernel
theorem dX3_takeBack_44 : decode cX3_takeBack 44 = .ok (.iload_n 2, 1) := by decide +kernel
theorem dX3_takeBack_45 : decode cX3_takeBack 45 = .ok (.iconst (-1), 1) := by decide +kernel
theorem dX3_takeBack_46 : decode cX3_takeBack 46 = .ok (.invokevirtual 179, 3) := by decide +kernel
theorem dX3_takeBack_49 : decode cX3_takeBack 49 = .ok (.return_, 1) := by decide +kernel
theorem dX3_carryOutGrant_0 : decode cX3_carryOutGrant 0 = .ok (.aload_n 0, 1) := by decide +kernel
theorem dX3_carryOutGrant_1 : decode cX3_carryOutGrant 1 = .ok (.getfield 11, 3) := by decide +kernel
theorem dX3_carryOutGrant_4 : decode cX3_carryOutGrant 4 = .ok (.aload_n 0, 1) := by decide +kernel
theorem dX3_carryOutGrant_5 : decode cX3_carryOutGrant 5 = .ok (.getfield 25, 3) := by decide +kernel
theorem dX3_carryOutGrant_8 : decode cX3_carryOutGrant 8 = .ok (.iload_n 1, 1) := by decide +kernel
theorem dX3_carryOutGrant_9 : decode cX3_carryOutGrant 9 = .ok (.aaload, 1) := by decide +kernel
theorem dX3_carryOutGrant_10 : decode cX3_carryOutGrant 10 = .ok (.getfield 76, 3) := by decide +kernel
theorem dX3_carryOutGrant_13 : decode cX3_carryOutGrant 13 = .ok (.aaload, 1) := by decide +kernel
theorem dX3_carryOutGrant_14 : decode cX3_carryOutGrant 14 = .ok (.astore_n 2, 1) := by decide +kernel
theorem dX3_carryOutGrant_15 : decode cX3_carryOutGrant 15 = .ok (.aload_n 2, 1) := by decide +kernel
theorem dX3_carryOutGrant_16 : decode cX3_carryOutGrant 16 = .ok (.dup, 1) := by decide +kernel
theorem dX3_carryOutGrant_17 : decode cX3_carryOutGrant 17 = .ok (.getfield 189, 3) := by decide +kernel
theorem dX3_carryOutGrant_20 : decode cX3_carryOutGrant 20 = .ok (.aload_n 0, 1) := by decide +kernel
theorem dX3_carryOutGrant_21 : decode cX3_carryOutGrant 21 = .ok (.getfield 25, 3) := by decide +kernel
theorem dX3_carryOutGrant_24 : decode cX3_carryOutGrant 24 = .ok (.iload_n 1, 1) := by decide +kernel
theorem dX3_carryOutGrant_25 : decode cX3_carryOutGrant 25 = .ok (.aaload, 1) := by decide +kernel
theorem dX3_carryOutGrant_26 : decode cX3_carryOutGrant 26 = .ok (.invokevirtual 164, 3) := by decide +kernel
theorem dX3_carryOutGrant_29 : decode cX3_carryOutGrant 29 = .ok (.iadd, 1) := by decide +kernel
theorem dX3_carryOutGrant_30 : decode cX3_carryOutGrant 30 = .ok (.putfield 189, 3) := by decide +kernel
theorem dX3_carryOutGrant_33 : decode cX3_carryOutGrant 33 = .ok (.aload_n 0, 1) := by decide +kernel
theorem dX3_carryOutGrant_34 : decode cX3_carryOutGrant 34 = .ok (.getfield 25, 3) := by decide +kernel
theorem dX3_carryOutGrant_37 : decode cX3_carryOutGrant 37 = .ok (.iload_n 1, 1) := by decide +kernel
theorem dX3_carryOutGrant_38 : decode cX3_carryOutGrant 38 = .ok (.aaload, 1) := by decide +kernel
theorem dX3_carryOutGrant_39 : decode cX3_carryOutGrant 39 = .ok (.iconst (-1), 1) := by decide +kernel
theorem dX3_carryOutGrant_40 : decode cX3_carryOutGrant 40 = .ok (.iconst (-1), 1) := by decide +kernel
theorem dX3_carryOutGrant_41 : decode cX3_carryOutGrant 41 = .ok (.invokevirtual 179, 3) := by decide +kernel
theorem dX3_carryOutGrant_44 : decode cX3_carryOutGrant 44 = .ok (.aload_n 0, 1) := by decide +kernel
theorem dX3_carryOutGrant_45 : decode cX3_carryOutGrant 45 = .ok (.getfield 25, 3) := by decide +kernel
theorem dX3_carryOutGrant_48 : decode cX3_carryOutGrant 48 = .ok (.iload_n 1, 1) := by decide +kernel
theorem dX3_carryOutGrant_49 : decode cX3_carryOutGrant 49 = .ok (.aaload, 1) := by decide +kernel
theorem dX3_carryOutGrant_50 : decode cX3_carryOutGrant 50 = .ok (.iconst 1, 1) := by decide +kernel
theorem dX3_carryOutGrant_51 : decode cX3_carryOutGrant 51 = .ok (.putfield 82, 3) := by decide +kernel
theorem dX3_carryOutGrant_54 : decode cX3_carryOutGrant 54 = .ok (.aload_n 2, 1) := by decide +kernel
theorem dX3_carryOutGrant_55 : decode cX3_carryOutGrant 55 = .ok (.getfield 189, 3) := by decide +kernel
theorem dX3_carryOutGrant_58 : decode cX3_carryOutGrant 58 = .ok (.ireturn, 1) := by decide +kernel
theorem dX3_simulate_0 : decode cX3_simulate 0 = .ok (.iconst 0, 1) := by decide +kernel
theorem dX3_simulate_1 : decode cX3_simulate 1 = .ok (.istore_n 2, 1) := by decide +kernel
theorem dX3_simulate_2 : decode cX3_simulate 2 = .ok (.iconst 0, 1) := by decide +kernel
theorem dX3_simulate_3 : decode cX3_simulate 3 = .ok (.istore_n 3, 1) := by decide +kernel
theorem dX3_simulate_4 : decode cX3_simulate 4 = .ok (.iload_n 3, 1) := by decide +kernel
theorem dX3_simulate_5 : decode cX3_simulate 5 = .ok (.iload_n 1, 1) := by decide +kernel
theorem dX3_simulate_6 : decode cX3_simulate 6 = .ok (.if_icmp .ge 58, 3) := by decide +kernel
theorem dX3_simulate_9 : decode cX3_simulate 9 = .ok (.iload_n 2, 1) := by decide +kernel
theorem dX3_simulate_10 : decode cX3_simulate 10 = .ok (.aload_n 0, 1) := by decide +kernel
theorem dX3_simulate_11 : decode cX3_simulate 11 = .ok (.invokevirtual 192, 3) := by decide +kernel
theorem dX3_simulate_14 : decode cX3_simulate 14 = .ok (.iadd, 1) := by decide +kernel
theorem dX3_simulate_15 : decode cX3_simulate 15 = .ok (.istore_n 2, 1) := by decide +kernel
theorem dX3_simulate_16 : decode cX3_simulate 16 = .ok (.aload_n 0, 1) := by decide +kernel
theorem dX3_simulate_17 : decode cX3_simulate 17 = .ok (.invokevirtual 195, 3) := by decide +kernel
theorem dX3_simulate_20 : decode cX3_simulate 20 = .ok (.aload_n 0, 1) := by decide +kernel
theorem dX3_simulate_21 : decode cX3_simulate 21 = .ok (.invokevirtual 198, 3) := by decide +kernel
theorem dX3_simulate_24 : decode cX3_simulate 24 = .ok (.aload_n 0, 1) := by decide +kernel
theorem dX3_simulate_25 : decode cX3_simulate 25 = .ok (.invokevirtual 148, 3) := by decide +kernel
theorem dX3_simulate_28 : decode cX3_simulate 28 = .ok (.aload_n 0, 1) := by decide +kernel
theorem dX3_simulate_29 : decode cX3_simulate 29 = .ok (.getfield 54, 3) := by decide +kernel
theorem dX3_simulate_32 : decode cX3_simulate 32 = .ok (.if_icmp .ne 7, 3) := by decide +kernel
theorem dX3_simulate_35 : decode cX3_simulate 35 = .ok (.aload_n 0, 1) := by decide +kernel
theorem dX3_simulate_36 : decode cX3_simulate 36 = .ok (.invokevirtual 201, 3) := by decide +kernel
theorem dX3_simulate_39 : decode cX3_simulate 39 = .ok (.aload_n 0, 1) := by decide +kernel
theorem dX3_simulate_40 : decode cX3_simulate 40 = .ok (.invokevirtual 148, 3) := by decide +kernel
theorem dX3_simulate_43 : decode cX3_simulate 43 = .ok (.aload_n 0, 1) := by decide +kernel
theorem dX3_simulate_44 : decode cX3_simulate 44 = .ok (.getfield 57, 3) := by decide +kernel
theorem dX3_simulate_47 : decode cX3_simulate 47 = .ok (.if_icmp .ne 7, 3) := by decide +kernel
theorem dX3_simulate_50 : decode cX3_simulate 50 = .ok (.aload_n 0, 1) := by decide +kernel
theorem dX3_simulate_51 : decode cX3_simulate 51 = .ok (.invokevirtual 204, 3) := by decide +kernel
theorem dX3_simulate_54 : decode cX3_simulate 54 = .ok (.aload_n 0, 1) := by decide +kernel
theorem dX3_simulate_55 : decode cX3_simulate 55 = .ok (.invokevirtual 207, 3) := by decide +kernel
theorem dX3_simulate_58 : decode cX3_simulate 58 = .ok (.iinc 3 1, 3) := by decide +kernel
theorem dX3_simulate_61 : decode cX3_simulate 61 = .ok (.goto (-57), 3) := by decide +kernel
theorem dX3_simulate_64 : decode cX3_simulate 64 = .ok (.iload_n 2, 1) := by decide +kernel
theorem dX3_simulate_65 : decode cX3_simulate 65 = .ok (.ireturn, 1) := by decide +kernel
theorem dX3_celebrate_0 : decode cX3_celebrate 0 = .ok (.iconst 0, 1) := by decide +kernel
theorem dX3_celebrate_1 : decode cX3_celebrate 1 = .ok (.istore_n 1, 1) := by decide +kernel
theorem dX3_celebrate_2 : decode cX3_celebrate 2 = .ok (.iconst 0, 1) := by decide +kernel
theorem dX3_celebrate_3 : decode cX3_celebrate 3 = .ok (.istore_n 2, 1) := by decide +kernel
theorem dX3_celebrate_4 : decode cX3_celebrate 4 = .ok (.iload_n 2, 1) := by decide +kernel
theorem dX3_celebrate_5 : decode cX3_celebrate 5 = .ok (.aload_n 0, 1) := by decide +kernel
theorem dX3_celebrate_6 : decode cX3_celebrate 6 = .ok (.getfield 32, 3) := by decide +kernel
theorem dX3_celebrate_9 : decode cX3_celebrate 9 = .ok (.if_icmp .ge 76, 3) := by decide +kernel
theorem dX3_celebrate_12 : decode cX3_celebrate 12 = .ok (.aload_n 0, 1) := by decide +kernel
theorem dX3_celebrate_13 : decode cX3_celebrate 13 = .ok (.getfield 11, 3) := by decide +kernel
theorem dX3_celebrate_16 : decode cX3_celebrate 16 = .ok (.iload_n 2, 1) := by decide +kernel
theorem dX3_celebrate_17 : decode cX3_celebrate 17 = .ok (.aaload, 1) := by decide +kernel
theorem dX3_celebrate_18 : decode cX3_celebrate 18 = .ok (.getfield 145, 3) := by decide +kernel
theorem dX3_celebrate_21 : decode cX3_celebrate 21 = .ok (.aload_n 0, 1) := by decide +kernel
theorem dX3_celebrate_22 : decode cX3_celebrate 22 = .ok (.invokevirtual 148, 3) := by decide +kernel
theorem dX3_celebrate_25 : decode cX3_celebrate 25 = .ok (.if_icmp .ne 54, 3) := by decide +kernel
theorem dX3_celebrate_28 : decode cX3_celebrate 28 = .ok (.aload_n 0, 1) := by decide +kernel
theorem dX3_celebrate_29 : decode cX3_celebrate 29 = .ok (.getfield 11, 3) := by decide +kernel
theorem dX3_celebrate_32 : decode cX3_celebrate 32 = .ok (.iload_n 2, 1) := by decide +kernel
theorem dX3_celebrate_33 : decode cX3_celebrate 33 = .ok (.aaload, 1) := by decide +kernel
theorem dX3_celebrate_34 : decode cX3_celebrate 34 = .ok (.dup, 1) := by decide +kernel
theorem dX3_celebrate_35 : decode cX3_celebrate 35 = .ok (.getfield 152, 3) := by decide +kernel
theorem dX3_celebrate_38 : decode cX3_celebrate 38 = .ok (.iconst 1, 1) := by decide +kernel
theorem dX3_celebrate_39 : decode cX3_celebrate 39 = .ok (.iadd, 1) := by decide +kernel
theorem dX3_celebrate_40 : decode cX3_celebrate 40 = .ok (.putfield 152, 3) := by decide +kernel
theorem dX3_celebrate_43 : decode cX3_celebrate 43 = .ok (.aload_n 0, 1) := by decide +kernel
theorem dX3_celebrate_44 : decode cX3_celebrate 44 = .ok (.getfield 11, 3) := by decide +kernel
theorem dX3_celebrate_47 : decode cX3_celebrate 47 = .ok (.iload_n 2, 1) := by decide +kernel
theorem dX3_celebrate_48 : decode cX3_celebrate 48 = .ok (.aaload, 1) := by decide +kernel
theorem dX3_celebrate_49 : decode cX3_celebrate 49 = .ok (.getfield 210, 3) := by decide +kernel
theorem dX3_celebrate_52 : decode cX3_celebrate 52 = .ok (.ifCond .eq 11, 3) := by decide +kernel
theorem dX3_celebrate_55 : decode cX3_celebrate 55 = .ok (.aload_n 0, 1) := by decide +kernel
theorem dX3_celebrate_56 : decode cX3_celebrate 56 = .ok (.iload_n 2, 1) := by decide +kernel
theorem dX3_celebrate_57 : decode cX3_celebrate 57 = .ok (.invokevirtual 213, 3) := by decide +kernel
theorem dX3_celebrate_60 : decode cX3_celebrate 60 = .ok (.goto 4, 3) := by decide +kernel
theorem dX3_celebrate_63 : decode cX3_celebrate 63 = .ok (.iconst (-1), 1) := by decide +kernel
theorem dX3_celebrate_64 : decode cX3_celebrate 64 = .ok (.istore_n 3, 1) := by decide +kernel
theorem dX3_celebrate_65 : decode cX3_celebrate 65 = .ok (.iload_n 3, 1) := by decide +kernel
theorem dX3_celebrate_66 : decode cX3_celebrate 66 = .ok (.iconst (-1), 1) := by decide +kernel
theorem dX3_celebrate_67 : decode cX3_celebrate 67 = .ok (.if_icmp .eq 12, 3) := by decide +kernel
theorem dX3_celebrate_70 : decode cX3_celebrate 70 = .ok (.aload_n 0, 1) := by decide +kernel
theorem dX3_celebrate_71 : decode cX3_celebrate 71 = .ok (.iload_n 3, 1) := by decide +kernel
theorem dX3_celebrate_72 : decode cX3_celebrate 72 = .ok (.invokevirtual 216, 3) := by decide +kernel
theorem dX3_celebrate_75 : decode cX3_celebrate 75 = .ok (.pop, 1) := by decide +kernel
theorem dX3_celebrate_76 : decode cX3_celebrate 76 = .ok (.iinc 1 1, 3) := by decide +kernel
theorem dX3_celebrate_79 : decode cX3_celebrate 79 = .ok (.iinc 2 1, 3) := by decide +kernel
theorem dX3_celebrate_82 : decode cX3_celebrate 82 = .ok (.goto (-78), 3) := by decide +kernel
theorem dX3_celebrate_85 : decode cX3_celebrate 85 = .ok (.iload_n 1, 1) := by decide +kernel
theorem dX3_celebrate_86 : decode cX3_celebrate 86 = .ok (.ireturn, 1) := by decide +kernel
theorem dX3_shop_0 : decode cX3_shop 0 = .ok (.iconst 0, 1) := by decide +kernel
theorem dX3_shop_1 : decode cX3_shop 1 = .ok (.istore_n 1, 1) := by decide +kernel
theorem dX3_shop_2 : decode cX3_shop 2 = .ok (.iload_n 1, 1) := by decide +kernel
theorem dX3_shop_3 : decode cX3_shop 3 = .ok (.aload_n 0, 1) := by decide +kernel
theorem dX3_shop_4 : decode cX3_shop 4 = .ok (.getfield 32, 3) := by decide +kernel
theorem dX3_shop_7 : decode cX3_shop 7 = .ok (.if_icmp .ge 48, 3) := by decide +kernel
theorem dX3_shop_10 : decode cX3_shop 10 = .ok (.aload_n 0, 1) := by decide +kernel
theorem dX3_shop_11 : decode cX3_shop 11 = .ok (.getfield 11, 3) := by decide +kernel
theorem dX3_shop_14 : decode cX3_shop 14 = .ok (.iload_n 1, 1) := by decide +kernel
theorem dX3_shop_15 : decode cX3_shop 15 = .ok (.aaload, 1) := by decide +kernel
theorem dX3_shop_16 : decode cX3_shop 16 = .ok (.getfield 219, 3) := by decide +kernel
theorem dX3_shop_19 : decode cX3_shop 19 = .ok (.ifCond .le 30, 3) := by decide +kernel
theorem dX3_shop_22 : decode cX3_shop 22 = .ok (.aload_n 0, 1) := by decide +kernel
theorem dX3_shop_23 : decode cX3_shop 23 = .ok (.iload_n 1, 1) := by decide +kernel
theorem dX3_shop_24 : decode cX3_shop 24 = .ok (.aload_n 0, 1) := by decide +kernel
theorem dX3_shop_25 : decode cX3_shop 25 = .ok (.getfield 11, 3) := by decide +kernel
theorem dX3_shop_28 : decode cX3_shop 28 = .ok (.iload_n 1, 1) := by decide +kernel
theorem dX3_shop_29 : decode cX3_shop 29 = .ok (.aaload, 1) := by decide +kernel
theorem dX3_shop_30 : decode cX3_shop 30 = .ok (.getfield 219, 3) := by decide +kernel
theorem dX3_shop_33 : decode cX3_shop 33 = .ok (.invokevirtual 222, 3) := by decide +kernel
theorem dX3_shop_36 : decode cX3_shop 36 = .ok (.istore_n 2, 1) := by decide +kernel
theorem dX3_shop_37 : decode cX3_shop 37 = .ok (.iload_n 2, 1) := by decide +kernel
theorem dX3_shop_38 : decode cX3_shop 38 = .ok (.iconst (-1), 1) := by decide +kernel
theorem dX3_shop_39 : decode cX3_shop 39 = .ok (.if_icmp .eq 10, 3) := by decide +kernel
theorem dX3_shop_42 : decode cX3_shop 42 = .ok (.aload_n 0, 1) := by decide +kernel
theorem dX3_shop_43 : decode cX3_shop 43 = .ok (.iload_n 1, 1) := by decide +kernel
theorem dX3_shop_44 : decode cX3_shop 44 = .ok (.iload_n 2, 1) := by decide +kernel
theorem dX3_shop_45 : decode cX3_shop 45 = .ok (.invokevirtual 225, 3) := by decide +kernel
theorem dX3_shop_48 : decode cX3_shop 48 = .ok (.pop, 1) := by decide +kernel
theorem dX3_shop_49 : decode cX3_shop 49 = .ok (.iinc 1 1, 3) := by decide +kernel
theorem dX3_shop_52 : decode cX3_shop 52 = .ok (.goto (-50), 3) := by decide +kernel
theorem dX3_shop_55 : decode cX3_shop 55 = .ok (.return_, 1) := by decide +kernel
theorem dX3_bargain_0 : decode cX3_bargain 0 = .ok (.iconst 0, 1) := by decide +kernel
theorem dX3_bargain_1 : decode cX3_bargain 1 = .ok (.istore_n 1, 1) := by decide +kernel
theorem dX3_bargain_2 : decode cX3_bargain 2 = .ok (.iload_n 1, 1) := by decide +kernel
theorem dX3_bargain_3 : decode cX3_bargain 3 = .ok (.aload_n 0, 1) := by decide +kernel
theorem dX3_bargain_4 : decode cX3_bargain 4 = .ok (.getfield 32, 3) := by decide +kernel
theorem dX3_bargain_7 : decode cX3_bargain 7 = .ok (.if_icmp .ge 94, 3) := by decide +kernel
theorem dX3_bargain_10 : decode cX3_bargain 10 = .ok (.aload_n 0, 1) := by decide +kernel
theorem dX3_bargain_11 : decode cX3_bargain 11 = .ok (.getfield 11, 3) := by decide +kernel
theorem dX3_bargain_14 : decode cX3_bargain 14 = .ok (.iload_n 1, 1) := by decide +kernel
theorem dX3_bargain_15 : decode cX3_bargain 15 = .ok (.aaload, 1) := by decide +kernel
theorem dX3_bargain_16 : decode cX3_bargain 16 = .ok (.getfield 228, 3) := by decide +kernel
theorem dX3_bargain_19 : decode cX3_bargain 19 = .ok (.istore_n 2, 1) := by decide +kernel
theorem dX3_bargain_20 : decode cX3_bargain 20 = .ok (.iconst 0, 1) := by decide +kernel
theorem dX3_bargain_21 : decode cX3_bargain 21 = .ok (.istore_n 3, 1) := by decide +kernel
theorem dX3_bargain_22 : decode cX3_bargain 22 = .ok (.iload_n 2, 1) := by decide +kernel
theorem dX3_bargain_23 : decode cX3_bargain 23 = .ok (.ifCond .eq 72, 3) := by decide +kernel
theorem dX3_bargain_26 : decode cX3_bargain 26 = .ok (.iload_n 3, 1) := by decide +kernel
theorem dX3_bargain_27 : decode cX3_bargain 27 = .ok (.aload_n 0, 1) := by decide +kernel
theorem dX3_bargain_28 : decode cX3_bargain 28 = .ok (.getfield 39, 3) := by decide +kernel
theorem dX3_bargain_31 : decode cX3_bargain 31 = .ok (.if_icmp .ge 64, 3) := by decide +kernel
theorem dX3_bargain_34 : decode cX3_bargain 34 = .ok (.aload_n 0, 1) := by decide +kernel
theorem dX3_bargain_35 : decode cX3_bargain 35 = .ok (.getfield 25, 3) := by decide +kernel
theorem dX3_bargain_38 : decode cX3_bargain 38 = .ok (.iload_n 3, 1) := by decide +kernel
theorem dX3_bargain_39 : decode cX3_bargain 39 = .ok (.aaload, 1) := by decide +kernel
theorem dX3_bargain_40 : decode cX3_bargain 40 = .ok (.getfield 76, 3) := by decide +kernel
theorem dX3_bargain_43 : decode cX3_bargain 43 = .ok (.iload_n 1, 1) := by decide +kernel
theorem dX3_bargain_44 : decode cX3_bargain 44 = .ok (.if_icmp .ne 11, 3) := by decide +kernel
theorem dX3_bargain_47 : decode cX3_bargain 47 = .ok (.aload_n 0, 1) := by decide +kernel
theorem dX3_bargain_48 : decode cX3_bargain 48 = .ok (.iload_n 3, 1) := by decide +kernel
theorem dX3_bargain_49 : decode cX3_bargain 49 = .ok (.invokevirtual 231, 3) := by decide +kernel
theorem dX3_bargain_52 : decode cX3_bargain 52 = .ok (.goto 4, 3) := by decide +kernel
theorem dX3_bargain_55 : decode cX3_bargain 55 = .ok (.iconst (-1), 1) := by decide +kernel
theorem dX3_bargain_56 : decode cX3_bargain 56 = .ok (.istore 4, 2) := by decide +kernel
theorem dX3_bargain_58 : decode cX3_bargain 58 = .ok (.iload 4, 2) := by decide +kernel
theorem dX3_bargain_60 : decode cX3_bargain 60 = .ok (.iconst (-1), 1) := by decide +kernel
theorem dX3_bargain_61 : decode cX3_bargain 61 = .ok (.if_icmp .eq 28, 3) := by decide +kernel
theorem dX3_bargain_64 : decode cX3_bargain 64 = .ok (.aload_n 0, 1) := by decide +kernel
theorem dX3_bargain_65 : decode cX3_bargain 65 = .ok (.iload_n 3, 1) := by decide +kernel
theorem dX3_bargain_66 : decode cX3_bargain 66 = .ok (.iload 4, 2) := by decide +kernel
theorem dX3_bargain_68 : decode cX3_bargain 68 = .ok (.invokevirtual 135, 3) := by decide +kernel
theorem dX3_bargain_71 : decode cX3_bargain 71 = .ok (.aload_n 0, 1) := by decide +kernel
theorem dX3_bargain_72 : decode cX3_bargain 72 = .ok (.iload_n 3, 1) := by decide +kernel
theorem dX3_bargain_73 : decode cX3_bargain 73 = .ok (.invokevirtual 234, 3) := by decide +kernel
theorem dX3_bargain_76 : decode cX3_bargain 76 = .ok (.if_icmp .le 13, 3) := by decide +kernel
theorem dX3_bargain_79 : decode cX3_bargain 79 = .ok (.aload_n 0, 1) := by decide +kernel
theorem dX3_bargain_80 : decode cX3_bargain 80 = .ok (.iload_n 3, 1) := by decide +kernel
theorem dX3_bargain_81 : decode cX3_bargain 81 = .ok (.iload 4, 2) := by decide +kernel
theorem dX3_bargain_83 : decode cX3_bargain 83 = .ok (.invokevirtual 237, 3) := by decide +kernel
theorem dX3_bargain_86 : decode cX3_bargain 86 = .ok (.pop, 1) := by decide +kernel
theorem dX3_bargain_87 : decode cX3_bargain 87 = .ok (.iconst 0, 1) := by decide +kernel
theorem dX3_bargain_88 : decode cX3_bargain 88 = .ok (.istore_n 2, 1) := by decide +kernel
theorem dX3_bargain_89 : decode cX3_bargain 89 = .ok (.iinc 3 1, 3) := by decide +kernel
theorem dX3_bargain_92 : decode cX3_bargain 92 = .ok (.goto (-70), 3) := by decide +kernel
theorem dX3_bargain_95 : decode cX3_bargain 95 = .ok (.iinc 1 1, 3) := by decide +kernel
theorem dX3_bargain_98 : decode cX3_bargain 98 = .ok (.goto (-96), 3) := by decide +kernel
theorem dX3_bargain_101 : decode cX3_bargain 101 = .ok (.return_, 1) := by decide +kernel
theorem dX3_costOf_0 : decode cX3_costOf 0 = .ok (.aload_n 0, 1) := by decide +kernel
theorem dX3_costOf_1 : decode cX3_costOf 1 = .ok (.getfield 25, 3) := by decide +kernel
theorem dX3_costOf_4 : decode cX3_costOf 4 = .ok (.iload_n 1, 1) := by decide +kernel
theorem dX3_costOf_5 : decode cX3_costOf 5 = .ok (.aaload, 1) := by decide +kernel
theorem dX3_costOf_6 : decode cX3_costOf 6 = .ok (.getfield 116, 3) := by decide +kernel
theorem dX3_costOf_9 : decode cX3_costOf 9 = .ok (.iconst (-1), 1) := by decide +kernel
theorem dX3_costOf_10 : decode cX3_costOf 10 = .ok (.if_icmp .ne 15, 3) := by decide +kernel
theorem dX3_costOf_13 : decode cX3_costOf 13 = .ok (.aload_n 0, 1) := by decide +kernel
theorem dX3_costOf_14 : decode cX3_costOf 14 = .ok (.getfield 25, 3) := by decide +kernel
theorem dX3_costOf_17 : decode cX3_costOf 17 = .ok (.iload_n 1, 1) := by decide +kernel
theorem dX3_costOf_18 : decode cX3_costOf 18 = .ok (.aaload, 1) := by decide +kernel
theorem dX3_costOf_19 : decode cX3_costOf 19 = .ok (.invokevirtual 164, 3) := by decide +kernel
theorem dX3_costOf_22 : decode cX3_costOf 22 = .ok (.goto 12, 3) := by decide +kernel
theorem dX3_costOf_25 : decode cX3_costOf 25 = .ok (.aload_n 0, 1) := by decide +kernel
theorem dX3_costOf_26 : decode cX3_costOf 26 = .ok (.getfield 25, 3) := by decide +kernel
theorem dX3_costOf_29 : decode cX3_costOf 29 = .ok (.iload_n 1, 1) := by decide +kernel
theorem dX3_costOf_30 : decode cX3_costOf 30 = .ok (.aaload, 1) := by decide +kernel
theorem dX3_costOf_31 : decode cX3_costOf 31 = .ok (.getfield 119, 3) := by decide +kernel
theorem dX3_costOf_34 : decode cX3_costOf 34 = .ok (.ireturn, 1) := by decide +kernel
theorem dX3_holdAuctions_0 : decode cX3_holdAuctions 0 = .ok (.iconst 0, 1) := by decide +kernel
theorem dX3_holdAuctions_1 : decode cX3_holdAuctions 1 = .ok (.istore_n 1, 1) := by decide +kernel
theorem dX3_holdAuctions_2 : decode cX3_holdAuctions 2 = .ok (.iload_n 1, 1) := by decide +kernel
theorem dX3_holdAuctions_3 : decode cX3_holdAuctions 3 = .ok (.aload_n 0, 1) := by decide +kernel
theorem dX3_holdAuctions_4 : decode cX3_holdAuctions 4 = .ok (.getfield 36, 3) := by decide +kernel
theorem dX3_holdAuctions_7 : decode cX3_holdAuctions 7 = .ok (.if_icmp .ge 25, 3) := by decide +kernel
theorem dX3_holdAuctions_10 : decode cX3_holdAuctions 10 = .ok (.aload_n 0, 1) := by decide +kernel
theorem dX3_holdAuctions_11 : decode cX3_holdAuctions 11 = .ok (.iload_n 1, 1) := by decide +kernel
theorem dX3_holdAuctions_12 : decode cX3_holdAuctions 12 = .ok (.invokevirtual 240, 3) := by decide +kernel
theorem dX3_holdAuctions_15 : decode cX3_holdAuctions 15 = .ok (.istore_n 2, 1) := by decide +kernel
theorem dX3_holdAuctions_16 : decode cX3_holdAuctions 16 = .ok (.iload_n 2, 1) := by decide +kernel
theorem dX3_holdAuctions_17 : decode cX3_holdAuctions 17 = .ok (.iconst (-1), 1) := by decide +kernel
theorem dX3_holdAuctions_18 : decode cX3_holdAuctions 18 = .ok (.if_icmp .eq 8, 3) := by decide +kernel
theorem dX3_holdAuctions_21 : decode cX3_holdAuctions 21 = .ok (.aload_n 0, 1) := by decide +kernel
theorem dX3_holdAuctions_22 : decode cX3_holdAuctions 22 = .ok (.iload_n 2, 1) := by decide +kernel
theorem dX3_holdAuctions_23 : decode cX3_holdAuctions 23 = .ok (.invokevirtual 243, 3) := by decide +kernel
theorem dX3_holdAuctions_26 : decode cX3_holdAuctions 26 = .ok (.iinc 1 1, 3) := by decide +kernel
theorem dX3_holdAuctions_29 : decode cX3_holdAuctions 29 = .ok (.goto (-27), 3) := by decide +kernel
theorem dX3_holdAuctions_32 : decode cX3_holdAuctions 32 = .ok (.return_, 1) := by decide +kernel
theorem dX3_mostValuableIn_0 : decode cX3_mostValuableIn 0 = .ok (.iconst (-1), 1) := by decide +kernel
theorem dX3_mostValuableIn_1 : decode cX3_mostValuableIn 1 = .ok (.istore_n 2, 1) := by decide +kernel
theorem dX3_mostValuableIn_2 : decode cX3_mostValuableIn 2 = .ok (.iconst 0, 1) := by decide +kernel
theorem dX3_mostValuableIn_3 : decode cX3_mostValuableIn 3 = .ok (.istore_n 3, 1) := by decide +kernel
theorem dX3_mostValuableIn_4 : decode cX3_mostValuableIn 4 = .ok (.iload_n 3, 1) := by decide +kernel
theorem dX3_mostValuableIn_5 : decode cX3_mostValuableIn 5 = .ok (.aload_n 0, 1) := by decide +kernel
theorem dX3_mostValuableIn_6 : decode cX3_mostValuableIn 6 = .ok (.getfield 39, 3) := by decide +kernel
theorem dX3_mostValuableIn_9 : decode cX3_mostValuableIn 9 = .ok (.if_icmp .ge 50, 3) := by decide +kernel
theorem dX3_mostValuableIn_12 : decode cX3_mostValuableIn 12 = .ok (.aload_n 0, 1) := by decide +kernel
theorem dX3_mostValuableIn_13 : decode cX3_mostValuableIn 13 = .ok (.getfield 25, 3) := by decide +kernel
theorem dX3_mostValuableIn_16 : decode cX3_mostValuableIn 16 = .ok (.iload_n 3, 1) := by decide +kernel
theorem dX3_mostValuableIn_17 : decode cX3_mostValuableIn 17 = .ok (.aaload, 1) := by decide +kernel
theorem dX3_mostValuableIn_18 : decode cX3_mostValuableIn 18 = .ok (.getfield 79, 3) := by decide +kernel
theorem dX3_mostValuableIn_21 : decode cX3_mostValuableIn 21 = .ok (.iload_n 1, 1) := by decide +kernel
theorem dX3_mostValuableIn_22 : decode cX3_mostValuableIn 22 = .ok (.if_icmp .ne 31, 3) := by decide +kernel
theorem dX3_mostValuableIn_25 : decode cX3_mostValuableIn 25 = .ok (.iload_n 2, 1) := by decide +kernel
theorem dX3_mostValuableIn_26 : decode cX3_mostValuableIn 26 = .ok (.iconst (-1), 1) := by decide +kernel
theorem dX3_mostValuableIn_27 : decode cX3_mostValuableIn 27 = .ok (.if_icmp .eq 24, 3) := by decide +kernel
theorem dX3_mostValuableIn_30 : decode cX3_mostValuableIn 30 = .ok (.aload_n 0, 1) := by decide +kernel
theorem dX3_mostValuableIn_31 : decode cX3_mostValuableIn 31 = .ok (.getfield 25, 3) := by decide +kernel
theorem dX3_mostValuableIn_34 : decode cX3_mostValuableIn 34 = .ok (.iload_n 3, 1) := by decide +kernel
theorem dX3_mostValuableIn_35 : decode cX3_mostValuableIn 35 = .ok (.aaload, 1) := by decide +kernel
theorem dX3_mostValuableIn_36 : decode cX3_mostValuableIn 36 = .ok (.invokevirtual 164, 3) := by decide +kernel
theorem dX3_mostValuableIn_39 : decode cX3_mostValuableIn 39 = .ok (.aload_n 0, 1) := by decide +kernel
theorem dX3_mostValuableIn_40 : decode cX3_mostValuableIn 40 = .ok (.getfield 25, 3) := by decide +kernel
theorem dX3_mostValuableIn_43 : decode cX3_mostValuableIn 43 = .ok (.iload_n 2, 1) := by decide +kernel
theorem dX3_mostValuableIn_44 : decode cX3_mostValuableIn 44 = .ok (.aaload, 1) := by decide +kernel
theorem dX3_mostValuableIn_45 : decode cX3_mostValuableIn 45 = .ok (.invokevirtual 164, 3) := by decide +kernel
theorem dX3_mostValuableIn_48 : decode cX3_mostValuableIn 48 = .ok (.if_icmp .le 5, 3) := by decide +kernel
theorem dX3_mostValuableIn_51 : decode cX3_mostValuableIn 51 = .ok (.iload_n 3, 1) := by decide +kernel
theorem dX3_mostValuableIn_52 : decode cX3_mostValuableIn 52 = .ok (.istore_n 2, 1) := by decide +kernel
theorem dX3_mostValuableIn_53 : decode cX3_mostValuableIn 53 = .ok (.iinc 3 1, 3) := by decide +kernel
theorem dX3_mostValuableIn_56 : decode cX3_mostValuableIn 56 = .ok (.goto (-52), 3) := by decide +kernel
theorem dX3_mostValuableIn_59 : decode cX3_mostValuableIn 59 = .ok (.iload_n 2, 1) := by decide +kernel
theorem dX3_mostValuableIn_60 : decode cX3_mostValuableIn 60 = .ok (.ireturn, 1) := by decide +kernel
theorem dX3_auctionOff_0 : decode cX3_auctionOff 0 = .ok (.aload_n 0, 1) := by decide +kernel
theorem dX3_auctionOff_1 : decode cX3_auctionOff 1 = .ok (.getfield 25, 3) := by decide +kernel
theorem dX3_auctionOff_4 : decode cX3_auctionOff 4 = .ok (.iload_n 1, 1) := by decide +kernel
theorem dX3_auctionOff_5 : decode cX3_auctionOff 5 = .ok (.aaload, 1) := by decide +kernel
theorem dX3_auctionOff_6 : decode cX3_auctionOff 6 = .ok (.invokevirtual 164, 3) := by decide +kernel
theorem dX3_auctionOff_9 : decode cX3_auctionOff 9 = .ok (.istore_n 2, 1) := by decide +kernel
theorem dX3_auctionOff_10 : decode cX3_auctionOff 10 = .ok (.iconst (-1), 1) := by decide +kernel
theorem dX3_auctionOff_11 : decode cX3_auctionOff 11 = .ok (.istore_n 3, 1) := by decide +kernel
theorem dX3_auctionOff_12 : decode cX3_auctionOff 12 = .ok (.iconst 0, 1) := by decide +kernel
theorem dX3_auctionOff_13 : decode cX3_auctionOff 13 = .ok (.istore 4, 2) := by decide +kernel
theorem dX3_auctionOff_15 : decode cX3_auctionOff 15 = .ok (.iconst 0, 1) := by decide +kernel
theorem dX3_auctionOff_16 : decode cX3_auctionOff 16 = .ok (.istore 5, 2) := by decide +kernel
theorem dX3_auctionOff_18 : decode cX3_auctionOff 18 = .ok (.iload 5, 2) := by decide +kernel
theorem dX3_auctionOff_20 : decode cX3_auctionOff 20 = .ok (.aload_n 0, 1) := by decide +kernel
theorem dX3_auctionOff_21 : decode cX3_auctionOff 21 = .ok (.getfield 32, 3) := by decide +kernel
theorem dX3_auctionOff_24 : decode cX3_auctionOff 24 = .ok (.if_icmp .ge 51, 3) := by decide +kernel
theorem dX3_auctionOff_27 : decode cX3_auctionOff 27 = .ok (.aload_n 0, 1) := by decide +kernel
theorem dX3_auctionOff_28 : decode cX3_auctionOff 28 = .ok (.getfield 11, 3) := by decide +kernel
theorem dX3_auctionOff_31 : decode cX3_auctionOff 31 = .ok (.iload 5, 2) := by decide +kernel
theorem dX3_auctionOff_33 : decode cX3_auctionOff 33 = .ok (.aaload, 1) := by decide +kernel
theorem dX3_auctionOff_34 : decode cX3_auctionOff 34 = .ok (.getfield 89, 3) := by decide +kernel
theorem dX3_auctionOff_37 : decode cX3_auctionOff 37 = .ok (.iconst 2, 1) := by decide +kernel
theorem dX3_auctionOff_38 : decode cX3_auctionOff 38 = .ok (.idiv, 1) := by decide +kernel
theorem dX3_auctionOff_39 : decode cX3_auctionOff 39 = .ok (.iload_n 2, 1) := by decide +kernel
theorem dX3_auctionOff_40 : decode cX3_auctionOff 40 = .ok (.invokestatic 174, 3) := by decide +kernel
theorem dX3_auctionOff_43 : decode cX3_auctionOff 43 = .ok (.istore 6, 2) := by decide +kernel
theorem dX3_auctionOff_45 : decode cX3_auctionOff 45 = .ok (.iload 6, 2) := by decide +kernel
theorem dX3_auctionOff_47 : decode cX3_auctionOff 47 = .ok (.iload 4, 2) := by decide +kernel
theorem dX3_auctionOff_49 : decode cX3_auctionOff 49 = .ok (.if_icmp .le 20, 3) := by decide +kernel
theorem dX3_auctionOff_52 : decode cX3_auctionOff 52 = .ok (.aload_n 0, 1) := by decide +kernel
theorem dX3_auctionOff_53 : decode cX3_auctionOff 53 = .ok (.iload 5, 2) := by decide +kernel
theorem dX3_auctionOff_55 : decode cX3_auctionOff 55 = .ok (.invokevirtual 126, 3) := by decide +kernel
theorem dX3_auctionOff_58 : decode cX3_auctionOff 58 = .ok (.iconst 4, 1) := by decide +kernel
theorem dX3_auctionOff_59 : decode cX3_auctionOff 59 = .ok (.if_icmp .ge 10, 3) := by decide +kernel
theorem dX3_auctionOff_62 : decode cX3_auctionOff 62 = .ok (.iload 5, 2) := by decide +kernel
theorem dX3_auctionOff_64 : decode cX3_auctionOff 64 = .ok (.istore_n 3, 1) := by decide +kernel
theorem dX3_auctionOff_65 : decode cX3_auctionOff 65 = .ok (.iload 6, 2) := by decide +kernel
theorem dX3_auctionOff_67 : decode cX3_auctionOff 67 = .ok (.istore 4, 2) := by decide +kernel
theorem dX3_auctionOff_69 : decode cX3_auctionOff 69 = .ok (.iinc 5 1, 3) := by decide +kernel
theorem dX3_auctionOff_72 : decode cX3_auctionOff 72 = .ok (.goto (-54), 3) := by decide +kernel
theorem dX3_auctionOff_75 : decode cX3_auctionOff 75 = .ok (.iload_n 3, 1) := by decide +kernel
theorem dX3_auctionOff_76 : decode cX3_auctionOff 76 = .ok (.iconst (-1), 1) := by decide +kernel
theorem dX3_auctionOff_77 : decode cX3_auctionOff 77 = .ok (.if_icmp .eq 19, 3) := by decide +kernel
theorem dX3_auctionOff_80 : decode cX3_auctionOff 80 = .ok (.iload 4, 2) := by decide +kernel
theorem dX3_auctionOff_82 : decode cX3_auctionOff 82 = .ok (.iload_n 2, 1) := by decide +kernel
theorem dX3_auctionOff_83 : decode cX3_auctionOff 83 = .ok (.iconst 2, 1) := by decide +kernel
theorem dX3_auctionOff_84 : decode cX3_auctionOff 84 = .ok (.idiv, 1) := by decide +kernel
theorem dX3_auctionOff_85 : decode cX3_auctionOff 85 = .ok (.if_icmp .lt 11, 3) := by decide +kernel
theorem dX3_auctionOff_88 : decode cX3_auctionOff 88 = .ok (.aload_n 0, 1) := by decide +kernel
theorem dX3_auctionOff_89 : decode cX3_auctionOff 89 = .ok (.iload_n 3, 1) := by decide +kernel
theorem dX3_auctionOff_90 : decode cX3_auctionOff 90 = .ok (.iload_n 1, 1) := by decide +kernel
theorem dX3_auctionOff_91 : decode cX3_auctionOff 91 = .ok (.iload 4, 2) := by decide +kernel
theorem dX3_auctionOff_93 : decode cX3_auctionOff 93 = .ok (.invokevirtual 170, 3) := by decide +kernel
theorem dX3_auctionOff_96 : decode cX3_auctionOff 96 = .ok (.return_, 1) := by decide +kernel
theorem dX3_collectTaxes_0 : decode cX3_collectTaxes 0 = .ok (.iconst 0, 1) := by decide +kernel
theorem dX3_collectTaxes_1 : decode cX3_collectTaxes 1 = .ok (.istore_n 1, 1) := by decide +kernel
theorem dX3_collectTaxes_2 : decode cX3_collectTaxes 2 = .ok (.iload_n 1, 1) := by decide +kernel
theorem dX3_collectTaxes_3 : decode cX3_collectTaxes 3 = .ok (.aload_n 0, 1) := by decide +kernel
theorem dX3_collectTaxes_4 : decode cX3_collectTaxes 4 = .ok (.getfield 32, 3) := by decide +kernel
theorem dX3_collectTaxes_7 : decode cX3_collectTaxes 7 = .ok (.if_icmp .ge 67, 3) := by decide +kernel
theorem dX3_collectTaxes_10 : decode cX3_collectTaxes 10 = .ok (.aload_n 0, 1) := by decide +kernel
theorem dX3_collectTaxes_11 : decode cX3_collectTaxes 11 = .ok (.getfield 36, 3) := by decide +kernel
theorem dX3_collectTaxes_14 : decode cX3_collectTaxes 14 = .ok (.ifCond .le 60, 3) := by decide +kernel
theorem dX3_collectTaxes_17 : decode cX3_collectTaxes 17 = .ok (.aload_n 0, 1) := by decide +kernel
theorem dX3_collectTaxes_18 : decode cX3_collectTaxes 18 = .ok (.getfield 11, 3) := by decide +kernel
theorem dX3_collectTaxes_21 : decode cX3_collectTaxes 21 = .ok (.iload_n 1, 1) := by decide +kernel
theorem dX3_collectTaxes_22 : decode cX3_collectTaxes 22 = .ok (.aaload, 1) := by decide +kernel
theorem dX3_collectTaxes_23 : decode cX3_collectTaxes 23 = .ok (.getfield 89, 3) := by decide +kernel
theorem dX3_collectTaxes_26 : decode cX3_collectTaxes 26 = .ok (.aload_n 0, 1) := by decide +kernel
theorem dX3_collectTaxes_27 : decode cX3_collectTaxes 27 = .ok (.getfield 60, 3) := by decide +kernel
theorem dX3_collectTaxes_30 : decode cX3_collectTaxes 30 = .ok (.imul, 1) := by decide +kernel
theorem dX3_collectTaxes_31 : decode cX3_collectTaxes 31 = .ok (.bipush 100, 2) := by decide +kernel
theorem dX3_collectTaxes_33 : decode cX3_collectTaxes 33 = .ok (.idiv, 1) := by decide +kernel
theorem dX3_collectTaxes_34 : decode cX3_collectTaxes 34 = .ok (.istore_n 2, 1) := by decide +kernel
theorem dX3_collectTaxes_35 : decode cX3_collectTaxes 35 = .ok (.aload_n 0, 1) := by decide +kernel
theorem dX3_collectTaxes_36 : decode cX3_collectTaxes 36 = .ok (.getfield 11, 3) := by decide +kernel
theorem dX3_collectTaxes_39 : decode cX3_collectTaxes 39 = .ok (.iload_n 1, 1) := by decide +kernel
theorem dX3_collectTaxes_40 : decode cX3_collectTaxes 40 = .ok (.aaload, 1) := by decide +kernel
theorem dX3_collectTaxes_41 : decode cX3_collectTaxes 41 = .ok (.dup, 1) := by decide +kernel
theorem dX3_collectTaxes_42 : decode cX3_collectTaxes 42 = .ok (.getfield 89, 3) := by decide +kernel
theorem dX3_collectTaxes_45 : decode cX3_collectTaxes 45 = .ok (.iload_n 2, 1) := by decide +kernel
theorem dX3_collectTaxes_46 : decode cX3_collectTaxes 46 = .ok (.isub, 1) := by decide +kernel
theorem dX3_collectTaxes_47 : decode cX3_collectTaxes 47 = .ok (.putfield 89, 3) := by decide +kernel
theorem dX3_collectTaxes_50 : decode cX3_collectTaxes 50 = .ok (.aload_n 0, 1) := by decide +kernel
theorem dX3_collectTaxes_51 : decode cX3_collectTaxes 51 = .ok (.getfield 19, 3) := by decide +kernel
theorem dX3_collectTaxes_54 : decode cX3_collectTaxes 54 = .ok (.aload_n 0, 1) := by decide +kernel
theorem dX3_collectTaxes_55 : decode cX3_collectTaxes 55 = .ok (.invokevirtual 247, 3) := by decide +kernel
theorem dX3_collectTaxes_58 : decode cX3_collectTaxes 58 = .ok (.aaload, 1) := by decide +kernel
theorem dX3_collectTaxes_59 : decode cX3_collectTaxes 59 = .ok (.dup, 1) := by decide +kernel
theorem dX3_collectTaxes_60 : decode cX3_collectTaxes 60 = .ok (.getfield 92, 3) := by decide +kernel
theorem dX3_collectTaxes_63 : decode cX3_collectTaxes 63 = .ok (.iload_n 2, 1) := by decide +kernel
theorem dX3_collectTaxes_64 : decode cX3_collectTaxes 64 = .ok (.iadd, 1) := by decide +kernel
theorem dX3_collectTaxes_65 : decode cX3_collectTaxes 65 = .ok (.putfield 92, 3) := by decide +kernel
theorem dX3_collectTaxes_68 : decode cX3_collectTaxes 68 = .ok (.iinc 1 1, 3) := by decide +kernel
theorem dX3_collectTaxes_71 : decode cX3_collectTaxes 71 = .ok (.goto (-69), 3) := by decide +kernel
theorem dX3_collectTaxes_74 : decode cX3_collectTaxes 74 = .ok (.return_, 1) := by decide +kernel
theorem dX3_poorestStall_0 : decode cX3_poorestStall 0 = .ok (.iconst 0, 1) := by decide +kernel
theorem dX3_poorestStall_1 : decode cX3_poorestStall 1 = .ok (.istore_n 1, 1) := by decide +kernel
theorem dX3_poorestStall_2 : decode cX3_poorestStall 2 = .ok (.iconst 1, 1) := by decide +kernel
theorem dX3_poorestStall_3 : decode cX3_poorestStall 3 = .ok (.istore_n 2, 1) := by decide +kernel
theorem dX3_poorestStall_4 : decode cX3_poorestStall 4 = .ok (.iload_n 2, 1) := by decide +kernel
theorem dX3_poorestStall_5 : decode cX3_poorestStall 5 = .ok (.aload_n 0, 1) := by decide +kernel
theorem dX3_poorestStall_6 : decode cX3_poorestStall 6 = .ok (.getfield 36, 3) := by decide +kernel
theorem dX3_poorestStall_9 : decode cX3_poorestStall 9 = .ok (.if_icmp .ge 32, 3) := by decide +kernel
theorem dX3_poorestStall_12 : decode cX3_poorestStall 12 = .ok (.aload_n 0, 1) := by decide +kernel
theorem dX3_poorestStall_13 : decode cX3_poorestStall 13 = .ok (.getfield 19, 3) := by decide +kernel
theorem dX3_poorestStall_16 : decode cX3_poorestStall 16 = .ok (.iload_n 2, 1) := by decide +kernel
theorem dX3_poorestStall_17 : decode cX3_poorestStall 17 = .ok (.aaload, 1) := by decide +kernel
theorem dX3_poorestStall_18 : decode cX3_poorestStall 18 = .ok (.getfield 92, 3) := by decide +kernel
theorem dX3_poorestStall_21 : decode cX3_poorestStall 21 = .ok (.aload_n 0, 1) := by decide +kernel
theorem dX3_poorestStall_22 : decode cX3_poorestStall 22 = .ok (.getfield 19, 3) := by decide +kernel
theorem dX3_poorestStall_25 : decode cX3_poorestStall 25 = .ok (.iload_n 1, 1) := by decide +kernel
theorem dX3_poorestStall_26 : decode cX3_poorestStall 26 = .ok (.aaload, 1) := by decide +kernel
theorem dX3_poorestStall_27 : decode cX3_poorestStall 27 = .ok (.getfield 92, 3) := by decide +kernel
theorem dX3_poorestStall_30 : decode cX3_poorestStall 30 = .ok (.if_icmp .ge 5, 3) := by decide +kernel
theorem dX3_poorestStall_33 : decode cX3_poorestStall 33 = .ok (.iload_n 2, 1) := by decide +kernel
theorem dX3_poorestStall_34 : decode cX3_poorestStall 34 = .ok (.istore_n 1, 1) := by decide +kernel
theorem dX3_poorestStall_35 : decode cX3_poorestStall 35 = .ok (.iinc 2 1, 3) := by decide +kernel
theorem dX3_poorestStall_38 : decode cX3_poorestStall 38 = .ok (.goto (-34), 3) := by decide +kernel
theorem dX3_poorestStall_41 : decode cX3_poorestStall 41 = .ok (.iload_n 1, 1) := by decide +kernel
theorem dX3_poorestStall_42 : decode cX3_poorestStall 42 = .ok (.ireturn, 1) := by decide +kernel
theorem dX3_endDay_0 : decode cX3_endDay 0 = .ok (.aload_n 0, 1) := by decide +kernel
theorem dX3_endDay_1 : decode cX3_endDay 1 = .ok (.dup, 1) := by decide +kernel
theorem dX3_endDay_2 : decode cX3_endDay 2 = .ok (.getfield 42, 3) := by decide +kernel
theorem dX3_endDay_5 : decode cX3_endDay 5 = .ok (.iconst 1, 1) := by decide +kernel
theorem dX3_endDay_6 : decode cX3_endDay 6 = .ok (.iadd, 1) := by decide +kernel
theorem dX3_endDay_7 : decode cX3_endDay 7 = .ok (.putfield 42, 3) := by decide +kernel
theorem dX3_endDay_10 : decode cX3_endDay 10 = .ok (.aload_n 0, 1) := by decide +kernel
theorem dX3_endDay_11 : decode cX3_endDay 11 = .ok (.invokevirtual 148, 3) := by decide +kernel
theorem dX3_endDay_14 : decode cX3_endDay 14 = .ok (.ifCond .ne 41, 3) := by decide +kernel
theorem dX3_endDay_17 : decode cX3_endDay 17 = .ok (.iconst 0, 1) := by decide +kernel
theorem dX3_endDay_18 : decode cX3_endDay 18 = .ok (.istore_n 1, 1) := by decide +kernel
theorem dX3_endDay_19 : decode cX3_endDay 19 = .ok (.iload_n 1, 1) := by decide +kernel
theorem dX3_endDay_20 : decode cX3_endDay 20 = .ok (.aload_n 0, 1) := by decide +kernel
theorem dX3_endDay_21 : decode cX3_endDay 21 = .ok (.getfield 39, 3) := by decide +kernel
theorem dX3_endDay_24 : decode cX3_endDay 24 = .ok (.if_icmp .ge 31, 3) := by decide +kernel
theorem dX3_endDay_27 : decode cX3_endDay 27 = .ok (.aload_n 0, 1) := by decide +kernel
theorem dX3_endDay_28 : decode cX3_endDay 28 = .ok (.getfield 25, 3) := by decide +kernel
theorem dX3_endDay_31 : decode cX3_endDay 31 = .ok (.iload_n 1, 1) := by decide +kernel
theorem dX3_endDay_32 : decode cX3_endDay 32 = .ok (.aaload, 1) := by decide +kernel
theorem dX3_endDay_33 : decode cX3_endDay 33 = .ok (.invokevirtual 95, 3) := by decide +kernel
theorem dX3_endDay_36 : decode cX3_endDay 36 = .ok (.ifCond .eq 13, 3) := by decide +kernel
theorem dX3_endDay_39 : decode cX3_endDay 39 = .ok (.aload_n 0, 1) := by decide +kernel
theorem dX3_endDay_40 : decode cX3_endDay 40 = .ok (.aload_n 0, 1) := by decide +kernel
theorem dX3_endDay_41 : decode cX3_endDay 41 = .ok (.getfield 25, 3) := by decide +kernel
theorem dX3_endDay_44 : decode cX3_endDay 44 = .ok (.iload_n 1, 1) := by decide +kernel
theorem dX3_endDay_45 : decode cX3_endDay 45 = .ok (.aaload, 1) := by decide +kernel
theorem dX3_endDay_46 : decode cX3_endDay 46 = .ok (.invokevirtual 250, 3) := by decide +kernel
theorem dX3_endDay_49 : decode cX3_endDay 49 = .ok (.iinc 1 1, 3) := by decide +kernel
theorem dX3_endDay_52 : decode cX3_endDay 52 = .ok (.goto (-33), 3) := by decide +kernel
theorem dX3_endDay_55 : decode cX3_endDay 55 = .ok (.return_, 1) := by decide +kernel
theorem dX3_wearOut_0 : decode cX3_wearOut 0 = .ok (.aload_n 1, 1) := by decide +kernel
theorem dX3_wearOut_1 : decode cX3_wearOut 1 = .ok (.dup, 1) := by decide +kernel
theorem dX3_wearOut_2 : decode cX3_wearOut 2 = .ok (.getfield 99, 3) := by decide +kernel
theorem dX3_wearOut_5 : decode cX3_wearOut 5 = .ok (.iconst 1, 1) := by decide +kernel
theorem dX3_wearOut_6 : decode cX3_wearOut 6 = .ok (.iadd, 1) := by decide +kernel
theorem dX3_wearOut_7 : decode cX3_wearOut 7 = .ok (.putfield 99, 3) := by decide +kernel
theorem dX3_wearOut_10 : decode cX3_wearOut 10 = .ok (.aload_n 1, 1) := by decide +kernel
theorem dX3_wearOut_11 : decode cX3_wearOut 11 = .ok (.getfield 99, 3) := by decide +kernel
theorem dX3_wearOut_14 : decode cX3_wearOut 14 = .ok (.bipush 10, 2) := by decide +kernel
theorem dX3_wearOut_16 : decode cX3_wearOut 16 = .ok (.if_icmp .lt 14, 3) := by decide +kernel
theorem dX3_wearOut_19 : decode cX3_wearOut 19 = .ok (.aload_n 1, 1) := by decide +kernel
theorem dX3_wearOut_20 : decode cX3_wearOut 20 = .ok (.iconst (-1), 1) := by decide +kernel
theorem dX3_wearOut_21 : decode cX3_wearOut 21 = .ok (.iconst (-1), 1) := by decide +kernel
theorem dX3_wearOut_22 : decode cX3_wearOut 22 = .ok (.invokevirtual 179, 3) := by decide +kernel
theorem dX3_wearOut_25 : decode cX3_wearOut 25 = .ok (.aload_n 1, 1) := by decide +kernel
theorem dX3_wearOut_26 : decode cX3_wearOut 26 = .ok (.iconst 1, 1) := by decide +kernel
theorem dX3_wearOut_27 : decode cX3_wearOut 27 = .ok (.putfield 86, 3) := by decide +kernel
theorem dX3_wearOut_30 : decode cX3_wearOut 30 = .ok (.return_, 1) := by decide +kernel
theorem dX4_init_0 : decode cX4_init 0 = .ok (.aload_n 0, 1) := by decide +kernel
theorem dX4_init_1 : decode cX4_init 1 = .ok (.invokespecial 1, 3) := by decide +kernel
theorem dX4_init_4 : decode cX4_init 4 = .ok (.return_, 1) := by decide +kernel
theorem dX4_copyFrom_0 : decode cX4_copyFrom 0 = .ok (.aload_n 0, 1) := by decide +kernel
theorem dX4_copyFrom_1 : decode cX4_copyFrom 1 = .ok (.aload_n 1, 1) := by decide +kernel
theorem dX4_copyFrom_2 : decode cX4_copyFrom 2 = .ok (.getfield 7, 3) := by decide +kernel
theorem dX4_copyFrom_5 : decode cX4_copyFrom 5 = .ok (.putfield 7, 3) := by decide +kernel
theorem dX4_copyFrom_8 : decode cX4_copyFrom 8 = .ok (.aload_n 0, 1) := by decide +kernel
theorem dX4_copyFrom_9 : decode cX4_copyFrom 9 = .ok (.aload_n 1, 1) := by decide +kernel
theorem dX4_copyFrom_10 : decode cX4_copyFrom 10 = .ok (.getfield 13, 3) := by decide +kernel
theorem dX4_copyFrom_13 : decode cX4_copyFrom 13 = .ok (.putfield 13, 3) := by decide +kernel
theorem dX4_copyFrom_16 : decode cX4_copyFrom 16 = .ok (.aload_n 0, 1) := by decide +kernel
theorem dX4_copyFrom_17 : decode cX4_copyFrom 17 = .ok (.aload_n 1, 1) := by decide +kernel
theorem dX4_copyFrom_18 : decode cX4_copyFrom 18 = .ok (.getfield 16, 3) := by decide +kernel
theorem dX4_copyFrom_21 : decode cX4_copyFrom 21 = .ok (.putfield 16, 3) := by decide +kernel
theorem dX4_copyFrom_24 : decode cX4_copyFrom 24 = .ok (.aload_n 0, 1) := by decide +kernel
theorem dX4_copyFrom_25 : decode cX4_copyFrom 25 = .ok (.aload_n 1, 1) := by decide +kernel
theorem dX4_copyFrom_26 : decode cX4_copyFrom 26 = .ok (.getfield 19, 3) := by decide +kernel
theorem dX4_copyFrom_29 : decode cX4_copyFrom 29 = .ok (.putfield 19, 3) := by decide +kernel
theorem dX4_copyFrom_32 : decode cX4_copyFrom 32 = .ok (.aload_n 0, 1) := by decide +kernel
theorem dX4_copyFrom_33 : decode cX4_copyFrom 33 = .ok (.aload_n 1, 1) := by decide +kernel
theorem dX4_copyFrom_34 : decode cX4_copyFrom 34 = .ok (.getfield 22, 3) := by decide +kernel
theorem dX4_copyFrom_37 : decode cX4_copyFrom 37 = .ok (.putfield 22, 3) := by decide +kernel
theorem dX4_copyFrom_40 : decode cX4_copyFrom 40 = .ok (.aload_n 0, 1) := by decide +kernel
theorem dX4_copyFrom_41 : decode cX4_copyFrom 41 = .ok (.aload_n 1, 1) := by decide +kernel
theorem dX4_copyFrom_42 : decode cX4_copyFrom 42 = .ok (.getfield 25, 3) := by decide +kernel
theorem dX4_copyFrom_45 : decode cX4_copyFrom 45 = .ok (.putfield 25, 3) := by decide +kernel
theorem dX4_copyFrom_48 : decode cX4_copyFrom 48 = .ok (.aload_n 0, 1) := by decide +kernel
theorem dX4_copyFrom_49 : decode cX4_copyFrom 49 = .ok (.aload_n 1, 1) := by decide +kernel
theorem dX4_copyFrom_50 : decode cX4_copyFrom 50 = .ok (.getfield 28, 3) := by decide +kernel
theorem dX4_copyFrom_53 : decode cX4_copyFrom 53 = .ok (.putfield 28, 3) := by decide +kernel
theorem dX4_copyFrom_56 : decode cX4_copyFrom 56 = .ok (.aload_n 0, 1) := by decide +kernel
theorem dX4_copyFrom_57 : decode cX4_copyFrom 57 = .ok (.aload_n 1, 1) := by decide +kernel
theorem dX4_copyFrom_58 : decode cX4_copyFrom 58 = .ok (.getfield 32, 3) := by decide +kernel
theorem dX4_copyFrom_61 : decode cX4_copyFrom 61 = .ok (.putfield 32, 3) := by decide +kernel
theorem dX4_copyFrom_64 : decode cX4_copyFrom 64 = .ok (.return_, 1) := by decide +kernel
theorem dX5_init_0 : decode cX5_init 0 = .ok (.aload_n 0, 1) := by decide +kernel
theorem dX5_init_1 : decode cX5_init 1 = .ok (.invokespecial 3, 3) := by decide +kernel
theorem dX5_init_4 : decode cX5_init 4 = .ok (.aload_n 0, 1) := by decide +kernel
theorem dX5_init_5 : decode cX5_init 5 = .ok (.new 9, 3) := by decide +kernel
theorem dX5_init_8 : decode cX5_init 8 = .ok (.dup, 1) := by decide +kernel
theorem dX5_init_9 : decode cX5_init 9 = .ok (.invokespecial 11, 3) := by decide +kernel
theorem dX5_init_12 : decode cX5_init 12 = .ok (.putfield 12, 3) := by decide +kernel
theorem dX5_init_15 : decode cX5_init 15 = .ok (.aload_n 0, 1) := by decide +kernel
theorem dX5_init_16 : decode cX5_init 16 = .ok (.new 18, 3) := by decide +kernel
theorem dX5_init_19 : decode cX5_init 19 = .ok (.dup, 1) := by decide +kernel
theorem dX5_init_20 : decode cX5_init 20 = .ok (.invokespecial 20, 3) := by decide +kernel
theorem dX5_init_23 : decode cX5_init 23 = .ok (.putfield 21, 3) := by decide +kernel
theorem dX5_init_26 : decode cX5_init 26 = .ok (.aload_n 0, 1) := by decide +kernel
theorem dX5_init_27 : decode cX5_init 27 = .ok (.iconst (-1), 1) := by decide +kernel
theorem dX5_init_28 : decode cX5_init 28 = .ok (.putfield 25, 3) := by decide +kernel
theorem dX5_init_31 : decode cX5_init 31 = .ok (.aload_n 0, 1) := by decide +kernel
theorem dX5_init_32 : decode cX5_init 32 = .ok (.iconst 3, 1) := by decide +kernel
theorem dX5_init_33 : decode cX5_init 33 = .ok (.newarray .int, 2) := by decide +kernel
theorem dX5_init_35 : decode cX5_init 35 = .ok (.putfield 29, 3) := by decide +kernel
theorem dX5_init_38 : decode cX5_init 38 = .ok (.aload_n 0, 1) := by decide +kernel
theorem dX5_init_39 : decode cX5_init 39 = .ok (.iconst 3, 1) := by decide +kernel
theorem dX5_init_40 : decode cX5_init 40 = .ok (.newarray .int, 2) := by decide +kernel
theorem dX5_init_42 : decode cX5_init 42 = .ok (.putfield 33, 3) := by decide +kernel
theorem dX5_init_45 : decode cX5_init 45 = .ok (.return_, 1) := by decide +kernel
theorem dX5_read_0 : decode cX5_read 0 = .ok (.aload_n 0, 1) := by decide +kernel
theorem dX5_read_1 : decode cX5_read 1 = .ok (.iconst 0, 1) := by decide +kernel
theorem dX5_read_2 : decode cX5_read 2 = .ok (.putfield 36, 3) := by decide +kernel
theorem dX5_read_5 : decode cX5_read 5 = .ok (.aload_n 0, 1) := by decide +kernel
theorem dX5_read_6 : decode cX5_read 6 = .ok (.iconst (-1), 1) := by decide +kernel
theorem dX5_read_7 : decode cX5_read 7 = .ok (.putfield 25, 3) := by decide +kernel
theorem dX5_read_10 : decode cX5_read 10 = .ok (.aload_n 0, 1) := by decide +kernel
theorem dX5_read_11 : decode cX5_read 11 = .ok (.iconst 0, 1) := by decide +kernel
theorem dX5_read_12 : decode cX5_read 12 = .ok (.putfield 39, 3) := by decide +kernel
theorem dX5_read_15 : decode cX5_read 15 = .ok (.aload_n 0, 1) := by decide +kernel
theorem dX5_read_16 : decode cX5_read 16 = .ok (.iconst 0, 1) := by decide +kernel
theorem dX5_read_17 : decode cX5_read 17 = .ok (.putfield 42, 3) := by decide +kernel
theorem dX5_read_20 : decode cX5_read 20 = .ok (.aload_n 0, 1) := by decide +kernel
theorem dX5_read_21 : decode cX5_read 21 = .ok (.getfield 12, 3) := by decide +kernel
theorem dX5_read_24 : decode cX5_read 24 = .ok (.iload_n 1, 1) := by decide +kernel
theorem dX5_read_25 : decode cX5_read 25 = .ok (.invokevirtual 45, 3) := by decide +kernel
theorem dX5_read_28 : decode cX5_read 28 = .ok (.aload_n 0, 1) := by decide +kernel
theorem dX5_read_29 : decode cX5_read 29 = .ok (.invokevirtual 49, 3) := by decide +kernel
theorem dX5_read_32 : decode cX5_read 32 = .ok (.aload_n 0, 1) := by decide +kernel
theorem dX5_read_33 : decode cX5_read 33 = .ok (.invokevirtual 52, 3) := by decide +kernel
theorem dX5_read_36 : decode cX5_read 36 = .ok (.istore_n 2, 1) := by decide +kernel
theorem dX5_read_37 : decode cX5_read 37 = .ok (.iconst 0, 1) := by decide +kernel
theorem dX5_read_38 : decode cX5_read 38 = .ok (.istore_n 3, 1) := by decide +kernel
theorem dX5_read_39 : decode cX5_read 39 = .ok (.iload_n 2, 1) := by decide +kernel
theorem dX5_read_40 : decode cX5_read 40 = .ok (.ifCond .eq 39, 3) := by decide +kernel
theorem dX5_read_43 : decode cX5_read 43 = .ok (.iload_n 3, 1) := by decide +kernel
theorem dX5_read_44 : decode cX5_read 44 = .ok (.ldc 56, 2) := by decide +kernel
theorem dX5_read_46 : decode cX5_read 46 = .ok (.if_icmp .ge 33, 3) := by decide +kernel
theorem dX5_read_49 : decode cX5_read 49 = .ok (.aload_n 0, 1) := by decide +kernel
theorem dX5_read_50 : decode cX5_read 50 = .ok (.invokevirtual 57, 3) := by decide +kernel
theorem dX5_read_53 : decode cX5_read 53 = .ok (.istore 4, 2) := by decide +kernel
theorem dX5_read_55 : decode cX5_read 55 = .ok (.iload 4, 2) := by decide +kernel
theorem dX5_read_57 : decode cX5_read 57 = .ok (.ifCond .ne 10, 3) := by decide +kernel
theorem dX5_read_60 : decode cX5_read 60 = .ok (.aload_n 0, 1) := by decide +kernel
theorem dX5_read_61 : decode cX5_read 61 = .ok (.invokevirtual 52, 3) := by decide +kernel
theorem dX5_read_64 : decode cX5_read 64 = .ok (.ifCond .eq 7, 3) := by decide +kernel
theorem dX5_read_67 : decode cX5_read 67 = .ok (.iconst 1, 1) := by decide +kernel
theorem dX5_read_68 : decode cX5_read 68 = .ok (.goto 4, 3) := by decide +kernel
theorem dX5_read_71 : decode cX5_read 71 = .ok (.iconst 0, 1) := by decide +kernel
theorem dX5_read_72 : decode cX5_read 72 = .ok (.istore_n 2, 1) := by decide +kernel
theorem dX5_read_73 : decode cX5_read 73 = .ok (.iinc 3 1, 3) := by decide +kernel
theorem dX5_read_76 : decode cX5_read 76 = .ok (.goto (-37), 3) := by decide +kernel
theorem dX5_read_79 : decode cX5_read 79 = .ok (.goto 6, 3) := by decide +kernel
theorem dX5_read_82 : decode cX5_read 82 = .ok (.astore_n 2, 1) := by decide +kernel
theorem dX5_read_83 : decode cX5_read 83 = .ok (.iconst 0, 1) := by decide +kernel
theorem dX5_read_84 : decode cX5_read 84 = .ok (.ireturn, 1) := by decide +kernel
theorem dX5_read_85 : decode cX5_read 85 = .ok (.iconst 1, 1) := by decide +kernel
theorem dX5_read_86 : decode cX5_read 86 = .ok (.ireturn, 1) := by decide +kernel
theorem dX5_require_0 : decode cX5_require 0 = .ok (.iload_n 1, 1) := by decide +kernel
theorem dX5_require_1 : decode cX5_require 1 = .ok (.ifCond .ne 29, 3) := by decide +kernel
theorem dX5_require_4 : decode cX5_require 4 = .ok (.aload_n 0, 1) := by decide +kernel
theorem dX5_require_5 : decode cX5_require 5 = .ok (.iload_n 2, 1) := by decide +kernel
theorem dX5_require_6 : decode cX5_require 6 = .ok (.putfield 36, 3) := by decide +kernel
theorem dX5_require_9 : decode cX5_require 9 = .ok (.aload_n 0, 1) := by decide +kernel
theorem dX5_require_10 : decode cX5_require 10 = .ok (.aload_n 0, 1) := by decide +kernel
theorem dX5_require_11 : decode cX5_require 11 = .ok (.getfield 12, 3) := by decide +kernel
theorem dX5_require_14 : decode cX5_require 14 = .ok (.getfield 62, 3) := by decide +kernel
theorem dX5_require_17 : decode cX5_require 17 = .ok (.putfield 25, 3) := by decide +kernel
theorem dX5_require_20 : decode cX5_require 20 = .ok (.new 60, 3) := by decide +kernel
theorem dX5_require_23 : decode cX5_require 23 = .ok (.dup, 1) := by decide +kernel
theorem dX5_require_24 : decode cX5_require 24 = .ok (.ldc 65, 2) := by decide +kernel
theorem dX5_require_26 : decode cX5_require 26 = .ok (.invokespecial 67, 3) := by decide +kernel
theorem dX5_require_29 : decode cX5_require 29 = .ok (.athrow, 1) := by decide +kernel
theorem dX5_require_30 : decode cX5_require 30 = .ok (.return_, 1) := by decide +kernel
theorem dX5_readMarket_0 : decode cX5_readMarket 0 = .ok (.aload_n 0, 1) := by decide +kernel
theorem dX5_readMarket_1 : decode cX5_readMarket 1 = .ok (.getfield 12, 3) := by decide +kernel
theorem dX5_readMarket_4 : decode cX5_readMarket 4 = .ok (.invokevirtual 70, 3) := by decide +kernel
theorem dX5_readMarket_7 : decode cX5_readMarket 7 = .ok (.aload_n 0, 1) := by decide +kernel
theorem dX5_readMarket_8 : decode cX5_readMarket 8 = .ok (.aload_n 0, 1) := by decide +kernel
theorem dX5_readMarket_9 : decode cX5_readMarket 9 = .ok (.getfield 12, 3) := by decide +kernel
theorem dX5_readMarket_12 : decode cX5_readMarket 12 = .ok (.ldc 73, 2) := by decide +kernel
theorem dX5_readMarket_14 : decode cX5_readMarket 14 = .ok (.invokevirtual 75, 3) := by decide +kernel
theorem dX5_readMarket_17 : decode cX5_readMarket 17 = .ok (.iconst 1, 1) := by decide +kernel
theorem dX5_readMarket_18 : decode cX5_readMarket 18 = .ok (.invokevirtual 79, 3) := by decide +kernel
theorem dX5_readMarket_21 : decode cX5_readMarket 21 = .ok (.aload_n 0, 1) := by decide +kernel
theorem dX5_readMarket_22 : decode cX5_readMarket 22 = .ok (.getfield 21, 3) := by decide +kernel
theorem dX5_readMarket_25 : decode cX5_readMarket 25 = .ok (.aload_n 0, 1) := by decide +kernel
theorem dX5_readMarket_26 : decode cX5_readMarket 26 = .ok (.iconst 4, 1) := by decide +kernel
theorem dX5_readMarket_27 : decode cX5_readMarket 27 = .ok (.bipush 60, 2) := by decide +kernel
theorem dX5_readMarket_29 : decode cX5_readMarket 29 = .ok (.invokevirtual 83, 3) := by decide +kernel
theorem dX5_readMarket_32 : decode cX5_readMarket 32 = .ok (.invokevirtual 87, 3) := by decide +kernel
theorem dX5_readMarket_35 : decode cX5_readMarket 35 = .ok (.return_, 1) := by decide +kernel
theorem dX5_isItemNext_0 : decode cX5_isItemNext 0 = .ok (.aload_n 0, 1) := by decide +kernel
theorem dX5_isItemNext_1 : decode cX5_isItemNext 1 = .ok (.getfield 12, 3) := by decide +kernel
theorem dX5_isItemNext_4 : decode cX5_isItemNext 4 = .ok (.invokevirtual 70, 3) := by decide +kernel
theorem dX5_isItemNext_7 : decode cX5_isItemNext 7 = .ok (.aload_n 0, 1) := by decide +kernel
theorem dX5_isItemNext_8 : decode cX5_isItemNext 8 = .ok (.getfield 39, 3) := by decide +kernel
theorem dX5_isItemNext_11 : decode cX5_isItemNext 11 = .ok (.ifCond .le 77, 3) := by decide +kernel
theorem dX5_isItemNext_14 : decode cX5_isItemNext 14 = .ok (.aload_n 0, 1) := by decide +kernel
theorem dX5_isItemNext_15 : decode cX5_isItemNext 15 = .ok (.getfield 12, 3) := by decide +kernel
theorem dX5_isItemNext_18 : decode cX5_isItemNext 18 = .ok (.getfield 88, 3) := by decide +kernel
theorem dX5_isItemNext_21 : decode cX5_isItemNext 21 = .ok (.getstatic 92, 3) := by decide +kernel
theorem dX5_isItemNext_24 : decode cX5_isItemNext 24 = .ok (.if_acmp .ne 64, 3) := by decide +kernel
theorem dX5_isItemNext_27 : decode cX5_isItemNext 27 = .ok (.aload_n 0, 1) := by decide +kernel
theorem dX5_isItemNext_28 : decode cX5_isItemNext 28 = .ok (.getfield 39, 3) := by decide +kernel
theorem dX5_isItemNext_31 : decode cX5_isItemNext 31 = .ok (.iconst 1, 1) := by decide +kernel
theorem dX5_isItemNext_32 : decode cX5_isItemNext 32 = .ok (.isub, 1) := by decide +kernel
theorem dX5_isItemNext_33 : decode cX5_isItemNext 33 = .ok (.istore_n 1, 1) := by decide +kernel
theorem dX5_isItemNext_34 : decode cX5_isItemNext 34 = .ok (.aload_n 0, 1) := by decide +kernel
theorem dX5_isItemNext_35 : decode cX5_isItemNext 35 = .ok (.getfield 33, 3) := by decide +kernel
theorem dX5_isItemNext_38 : decode cX5_isItemNext 38 = .ok (.iload_n 1, 1) := by decide +kernel
theorem dX5_isItemNext_39 : decode cX5_isItemNext 39 = .ok (.iaload, 1) := by decide +kernel
theorem dX5_isItemNext_40 : decode cX5_isItemNext 40 = .ok (.ifCond .le 28, 3) := by decide +kernel
theorem dX5_isItemNext_43 : decode cX5_isItemNext 43 = .ok (.aload_n 0, 1) := by decide +kernel
theorem dX5_isItemNext_44 : decode cX5_isItemNext 44 = .ok (.getfield 33, 3) := by decide +kernel
theorem dX5_isItemNext_47 : decode cX5_isItemNext 47 = .ok (.iload_n 1, 1) := by decide +kernel
theorem dX5_isItemNext_48 : decode cX5_isItemNext 48 = .ok (.dup2, 1) := by decide +kernel
theorem dX5_isItemNext_49 : decode cX5_isItemNext 49 = .ok (.iaload, 1) := by decide +kernel
theorem dX5_isItemNext_50 : decode cX5_isItemNext 50 = .ok (.iconst 1, 1) := by decide +kernel
theorem dX5_isItemNext_51 : decode cX5_isItemNext 51 = .ok (.isub, 1) := by decide +kernel
theorem dX5_isItemNext_52 : decode cX5_isItemNext 52 = .ok (.iastore, 1) := by decide +kernel
theorem dX5_isItemNext_53 : decode cX5_isItemNext 53 = .ok (.aload_n 0, 1) := by decide +kernel
theorem dX5_isItemNext_54 : decode cX5_isItemNext 54 = .ok (.getfield 12, 3) := by decide +kernel
theorem dX5_isItemNext_57 : decode cX5_isItemNext 57 = .ok (.aload_n 0, 1) := by decide +kernel
theorem dX5_isItemNext_58 : decode cX5_isItemNext 58 = .ok (.getfield 29, 3) := by decide +kernel
theorem dX5_isItemNext_61 : decode cX5_isItemNext 61 = .ok (.iload_n 1, 1) := by decide +kernel
theorem dX5_isItemNext_62 : decode cX5_isItemNext 62 = .ok (.iaload, 1) := by decide +kernel
theorem dX5_isItemNext_63 : decode cX5_isItemNext 63 = .ok (.putfield 97, 3) := by decide +kernel
theorem dX5_isItemNext_66 : decode cX5_isItemNext 66 = .ok (.iconst 1, 1) := by decide +kernel
theorem dX5_isItemNext_67 : decode cX5_isItemNext 67 = .ok (.ireturn, 1) := by decide +kernel
theorem dX5_isItemNext_68 : decode cX5_isItemNext 68 = .ok (.aload_n 0, 1) := by decide +kernel
theorem dX5_isItemNext_69 : decode cX5_isItemNext 69 = .ok (.dup, 1) := by decide +kernel
theorem dX5_isItemNext_70 : decode cX5_isItemNext 70 = .ok (.getfield 39, 3) := by decide +kernel
theorem dX5_isItemNext_73 : decode cX5_isItemNext 73 = .ok (.iconst 1, 1) := by decide +kernel
theorem dX5_isItemNext_74 : decode cX5_isItemNext 74 = .ok (.isub, 1) := by decide +kernel
theorem dX5_isItemNext_75 : decode cX5_isItemNext 75 = .ok (.putfield 39, 3) := by decide +kernel
theorem dX5_isItemNext_78 : decode cX5_isItemNext 78 = .ok (.aload_n 0, 1) := by decide +kernel
theorem dX5_isItemNext_79 : decode cX5_isItemNext 79 = .ok (.getfield 12, 3) := by decide +kernel
theorem dX5_isItemNext_82 : decode cX5_isItemNext 82 = .ok (.invokevirtual 70, 3) := by decide +kernel
theorem dX5_isItemNext_85 : decode cX5_isItemNext 85 = .ok (.goto (-78), 3) := by decide +kernel
theorem dX5_isItemNext_88 : decode cX5_isItemNext 88 = .ok (.aload_n 0, 1) := by decide +kernel
theorem dX5_isItemNext_89 : decode cX5_isItemNext 89 = .ok (.getfield 39, 3) := by decide +kernel
theorem dX5_isItemNext_92 : decode cX5_isItemNext 92 = .ok (.ifCond .ne 48, 3) := by decide +kernel
theorem dX5_isItemNext_95 : decode cX5_isItemNext 95 = .ok (.aload_n 0, 1) := by decide +kernel
theorem dX5_isItemNext_96 : decode cX5_isItemNext 96 = .ok (.getfield 12, 3) := by decide +kernel
theorem dX5_isItemNext_99 : decode cX5_isItemNext 99 = .ok (.getfield 88, 3) := by decide +kernel
theorem dX5_isItemNext_102 : decode cX5_isItemNext 102 = .ok (.getstatic 100, 3) := by decide +kernel
theorem dX5_isItemNext_105 : decode cX5_isItemNext 105 = .ok (.if_acmp .ne 35, 3) := by decide +kernel
theorem dX5_isItemNext_108 : decode cX5_isItemNext 108 = .ok (.aload_n 0, 1) := by decide +kernel
theorem dX5_isItemNext_109 : decode cX5_isItemNext 109 = .ok (.aload_n 0, 1) := by decide +kernel
theorem dX5_isItemNext_110 : decode cX5_isItemNext 110 = .ok (.getfield 21, 3) := by decide +kernel
theorem dX5_isItemNext_113 : decode cX5_isItemNext 113 = .ok (.getfield 103, 3) := by decide +kernel
theorem dX5_isItemNext_116 : decode cX5_isItemNext 116 = .ok (.ifCond .le 17, 3) := by decide +kernel
theorem dX5_isItemNext_119 : decode cX5_isItemNext 119 = .ok (.aload_n 0, 1) := by decide +kernel
theorem dX5_isItemNext_120 : decode cX5_isItemNext 120 = .ok (.getfield 21, 3) := by decide +kernel
theorem dX5_isItemNext_123 : decode cX5_isItemNext 123 = .ok (.getfield 106, 3) := by decide +kernel
theorem dX5_isItemNext_126 : decode cX5_isItemNext 126 = .ok (.ifCond .le 7, 3) := by decide +kernel
theorem dX5_isItemNext_129 : decode cX5_isItemNext 129 = .ok (.iconst 1, 1) := by decide +kernel
theorem dX5_isItemNext_130 : decode cX5_isItemNext 130 = .ok (.goto 4, 3) := by decide +kernel
theorem dX5_isItemNext_133 : decode cX5_isItemNext 133 = .ok (.iconst 0, 1) := by decide +kernel
theorem dX5_isItemNext_134 : decode cX5_isItemNext 134 = .ok (.iconst 4, 1) := by decide +kernel
theorem dX5_isItemNext_135 : decode cX5_isItemNext 135 = .ok (.invokevirtual 79, 3) := by decide +kernel
theorem dX5_isItemNext_138 : decode cX5_isItemNext 138 = .ok (.iconst 0, 1) := by decide +kernel
theorem dX5_isItemNext_139 : decode cX5_isItemNext 139 = .ok (.ireturn, 1) := by decide +kernel
theorem dX5_isItemNext_140 : decode cX5_isItemNext 140 = .ok (.aload_n 0, 1) := by decide +kernel
theorem dX5_isItemNext_141 : decode cX5_isItemNext 141 = .ok (.aload_n 0, 1) := by decide +kernel
theorem dX5_isItemNext_142 : decode cX5_isItemNext 142 = .ok (.getfield 12, 3) := by decide +kernel
theorem dX5_isItemNext_145 : decode cX5_isItemNext 145 = .ok (.getfield 88, 3) := by decide +kernel
theorem dX5_isItemNext_148 : decode cX5_isItemNext 148 = .ok (.getstatic 109, 3) := by decide +kernel
theorem dX5_isItemNext_151 : decode cX5_isItemNext 151 = .ok (.if_acmp .ne 7, 3) := by decide +kernel
theorem dX5_isItemNext_154 : decode cX5_isItemNext 154 = .ok (.iconst 1, 1) := by decide +kernel
theorem dX5_isItemNext_155 : decode cX5_isItemNext 155 = .ok (.goto 4, 3) := by decide +kernel
theorem dX5_isItemNext_158 : decode cX5_isItemNext 158 = .ok (.iconst 0, 1) := by decide +kernel
theorem dX5_isItemNext_159 : decode cX5_isItemNext 159 = .ok (.iconst 1, 1) := by decide +kernel
theorem dX5_isItemNext_160 : decode cX5_isItemNext 160 = .ok (.invokevirtual 79, 3) := by decide +kernel
theorem dX5_isItemNext_163 : decode cX5_isItemNext 163 = .ok (.iconst 1, 1) := by decide +kernel
theorem dX5_isItemNext_164 : decode cX5_isItemNext 164 = .ok (.ireturn, 1) := by decide +kernel
theorem dX5_readItem_0 : decode cX5_readItem 0 = .ok (.aload_n 0, 1) := by decide +kernel
theorem dX5_readItem_1 : decode cX5_readItem 1 = .ok (.getfield 12, 3) := by decide +kernel
theorem dX5_readItem_4 : decode cX5_readItem 4 = .ok (.invokevirtual 70, 3) := by decide +kernel
theorem dX5_readItem_7 : decode cX5_readItem 7 = .ok (.aload_n 0, 1) := by decide +kernel
theorem dX5_readItem_8 : decode cX5_readItem 8 = .ok (.getfield 12, 3) := by decide +kernel
theorem dX5_readItem_11 : decode cX5_readItem 11 = .ok (.invokevirtual 112, 3) := by decide +kernel
theorem dX5_readItem_14 : decode cX5_readItem 14 = .ok (.astore_n 1, 1) := by decide +kernel
theorem dX5_readItem_15 : decode cX5_readItem 15 = .ok (.getstatic 116, 3) := by decide +kernel
theorem dX5_readItem_18 : decode cX5_readItem 18 = .ok (.aload_n 1, 1) := by decide +kernel
theorem dX5_readItem_19 : decode cX5_readItem 19 = .ok (.invokevirtual 121, 3) := by decide +kernel
theorem dX5_readItem_22 : decode cX5_readItem 22 = .ok (.iaload, 1) := by decide +kernel
theorem dX5_readItem_23 : decode cX5_readItem 23 = .ok (.tableswitch 249 1 18 #[85, 92, 103, 110, 127, 144, 151, 158, 165, 172, 179, 186, 193, 200, 207, 221, 228, 243], 85) := by decide +kernel
theorem dX5_readItem_108 : decode cX5_readItem 108 = .ok (.aload_n 0, 1) := by decide +kernel
theorem dX5_readItem_109 : decode cX5_readItem 109 = .ok (.invokevirtual 127, 3) := by decide +kernel
theorem dX5_readItem_112 : decode cX5_readItem 112 = .ok (.goto 166, 3) := by decide +kernel
theorem dX5_readItem_115 : decode cX5_readItem 115 = .ok (.aload_n 0, 1) := by decide +kernel
theorem dX5_readItem_116 : decode cX5_readItem 116 = .ok (.aload_n 0, 1) := by decide +kernel
theorem dX5_readItem_117 : decode cX5_readItem 117 = .ok (.invokevirtual 130, 3) := by decide +kernel
theorem dX5_readItem_120 : decode cX5_readItem 120 = .ok (.invokevirtual 134, 3) := by decide +kernel
theorem dX5_readItem_123 : decode cX5_readItem 123 = .ok (.goto 155, 3) := by decide +kernel
theorem dX5_readItem_126 : decode cX5_readItem 126 = .ok (.aload_n 0, 1) := by decide +kernel
theorem dX5_readItem_127 : decode cX5_readItem 127 = .ok (.invokevirtual 138, 3) := by decide +kernel
theorem dX5_readItem_130 : decode cX5_readItem 130 = .ok (.goto 148, 3) := by decide +kernel
theorem dX5_readItem_133 : decode cX5_readItem 133 = .ok (.aload_n 0, 1) := by decide +kernel
theorem dX5_readItem_134 : decode cX5_readItem 134 = .ok (.getfield 21, 3) := by decide +kernel
theorem dX5_readItem_137 : decode cX5_readItem 137 = .ok (.aload_n 0, 1) := by decide +kernel
theorem dX5_readItem_138 : decode cX5_readItem 138 = .ok (.iconst 0, 1) := by decide +kernel
theorem dX5_readItem_139 : decode cX5_readItem 139 = .ok (.bipush 30, 2) := by decide +kernel
theorem dX5_readItem_141 : decode cX5_readItem 141 = .ok (.invokevirtual 83, 3) := by decide +kernel
theorem dX5_readItem_144 : decode cX5_readItem 144 = .ok (.putfield 141, 3) := by decide +kernel
theorem dX5_readItem_147 : decode cX5_readItem 147 = .ok (.goto 131, 3) := by decide +kernel
theorem dX5_readItem_150 : decode cX5_readItem 150 = .ok (.aload_n 0, 1) := by decide +kernel
theorem dX5_readItem_151 : decode cX5_readItem 151 = .ok (.getfield 21, 3) := by decide +kernel
theorem dX5_readItem_154 : decode cX5_readItem 154 = .ok (.aload_n 0, 1) := by decide +kernel
theorem dX5_readItem_155 : decode cX5_readItem 155 = .ok (.iconst 0, 1) := by decide +kernel
theorem dX5_readItem_156 : decode cX5_readItem 156 = .ok (.bipush 50, 2) := by decide +kernel
theorem dX5_readItem_158 : decode cX5_readItem 158 = .ok (.invokevirtual 83, 3) := by decide +kernel
theorem dX5_readItem_161 : decode cX5_readItem 161 = .ok (.putfield 144, 3) := by decide +kernel
theorem dX5_readItem_164 : decode cX5_readItem 164 = .ok (.goto 114, 3) := by decide +kernel
theorem dX5_readItem_167 : decode cX5_readItem 167 = .ok (.aload_n 0, 1) := by decide +kernel
theorem dX5_readItem_168 : decode cX5_readItem 168 = .ok (.invokevirtual 147, 3) := by decide +kernel
theorem dX5_readItem_171 : decode cX5_readItem 171 = .ok (.goto 107, 3) := by decide +kernel
theorem dX5_readItem_174 : decode cX5_readItem 174 = .ok (.aload_n 0, 1) := by decide +kernel
theorem dX5_readItem_175 : decode cX5_readItem 175 = .ok (.invokevirtual 150, 3) := by decide +kernel
theorem dX5_readItem_178 : decode cX5_readItem 178 = .ok (.goto 100, 3) := by decide +kernel
theorem dX5_readItem_181 : decode cX5_readItem 181 = .ok (.aload_n 0, 1) := by decide +kernel
theorem dX5_readItem_182 : decode cX5_readItem 182 = .ok (.invokevirtual 153, 3) := by decide +kernel
theorem dX5_readItem_185 : decode cX5_readItem 185 = .ok (.goto 93, 3) := by decide +kernel
theorem dX5_readItem_188 : decode cX5_readItem 188 = .ok (.aload_n 0, 1) := by decide +kernel
theorem dX5_readItem_189 : decode cX5_readItem 189 = .ok (.invokevirtual 156, 3) := by decide +kernel
theorem dX5_readItem_192 : decode cX5_readItem 192 = .ok (.goto 86, 3) := by decide +kernel
theorem dX5_readItem_195 : decode cX5_readItem 195 = .ok (.aload_n 0, 1) := by decide +kernel
theorem dX5_readItem_196 : decode cX5_readItem 196 = .ok (.invokevirtual 159, 3) := by decide +kernel
theorem dX5_readItem_199 : decode cX5_readItem 199 = .ok (.goto 79, 3) := by decide +kernel
theorem dX5_readItem_202 : decode cX5_readItem 202 = .ok (.aload_n 0, 1) := by decide +kernel
theorem dX5_readItem_203 : decode cX5_readItem 203 = .ok (.invokevirtual 162, 3) := by decide +kernel
theorem dX5_readItem_206 : decode cX5_readItem 206 = .ok (.goto 72, 3) := by decide +kernel
theorem dX5_readItem_209 : decode cX5_readItem 209 = .ok (.aload_n 0, 1) := by decide +kernel
theorem dX5_readItem_210 : decode cX5_readItem 210 = .ok (.invokevirtual 165, 3) := by decide +kernel
theorem dX5_readItem_213 : decode cX5_readItem 213 = .ok (.goto 65, 3) := by decide +kernel
theorem dX5_readItem_216 : decode cX5_readItem 216 = .ok (.aload_n 0, 1) := by decide +kernel
theorem dX5_readItem_217 : decode cX5_readItem 217 = .ok (.invokevirtual 168, 3) := by decide +kernel
theorem dX5_readItem_220 : decode cX5_readItem 220 = .ok (.goto 58, 3) := by decide +kernel
theorem dX5_readItem_223 : decode cX5_readItem 223 = .ok (.aload_n 0, 1) := by decide +kernel
theorem dX5_readItem_224 : decode cX5_readItem 224 = .ok (.invokevirtual 171, 3) := by decide +kernel
theorem dX5_readItem_227 : decode cX5_readItem 227 = .ok (.goto 51, 3) := by decide +kernel
theorem dX5_readItem_230 : decode cX5_readItem 230 = .ok (.aload_n 0, 1) := by decide +kernel
theorem dX5_readItem_231 : decode cX5_readItem 231 = .ok (.getfield 21, 3) := by decide +kernel
theorem dX5_readItem_234 : decode cX5_readItem 234 = .ok (.aload_n 0, 1) := by decide +kernel
theorem dX5_readItem_235 : decode cX5_readItem 235 = .ok (.invokevirtual 174, 3) := by decide +kernel
theorem dX5_readItem_238 : decode cX5_readItem 238 = .ok (.putfield 177, 3) := by decide +kernel
theorem dX5_readItem_241 : decode cX5_readItem 241 = .ok (.goto 37, 3) := by decide +kernel
theorem dX5_readItem_244 : decode cX5_readItem 244 = .ok (.aload_n 0, 1) := by decide +kernel
theorem dX5_readItem_245 : decode cX5_readItem 245 = .ok (.invokevirtual 180, 3) := by decide +kernel
theorem dX5_readItem_248 : decode cX5_readItem 248 = .ok (.goto 30, 3) := by decide +kernel
theorem dX5_readItem_251 : decode cX5_readItem 251 = .ok (.aload_n 0, 1) := by decide +kernel
theorem dX5_readItem_252 : decode cX5_readItem 252 = .ok (.getfield 21, 3) := by decide +kernel
theorem dX5_readItem_255 : decode cX5_readItem 255 = .ok (.aload_n 0, 1) := by decide +kernel
theorem dX5_readItem_256 : decode cX5_readItem 256 = .ok (.invokevirtual 183, 3) := by decide +kernel
theorem dX5_readItem_259 : decode cX5_readItem 259 = .ok (.invokevirtual 186, 3) := by decide +kernel
theorem dX5_readItem_262 : decode cX5_readItem 262 = .ok (.pop, 1) := by decide +kernel
theorem dX5_readItem_263 : decode cX5_readItem 263 = .ok (.goto 15, 3) := by decide +kernel
theorem dX5_readItem_266 : decode cX5_readItem 266 = .ok (.aload_n 0, 1) := by decide +kernel
theorem dX5_readItem_267 : decode cX5_readItem 267 = .ok (.invokevirtual 190, 3) := by decide +kernel
theorem dX5_readItem_270 : decode cX5_readItem 270 = .ok (.iconst 1, 1) := by decide +kernel
theorem dX5_readItem_271 : decode cX5_readItem 271 = .ok (.ireturn, 1) := by decide +kernel
theorem dX5_readItem_272 : decode cX5_readItem 272 = .ok (.aload_n 0, 1) := by decide +kernel
theorem dX5_readItem_273 : decode cX5_readItem 273 = .ok (.iconst 0, 1) := by decide +kernel
theorem dX5_readItem_274 : decode cX5_readItem 274 = .ok (.iconst 1, 1) := by decide +kernel
theorem dX5_readItem_275 : decode cX5_readItem 275 = .ok (.invokevirtual 79, 3) := by decide +kernel
theorem dX5_readItem_278 : decode cX5_readItem 278 = .ok (.iconst 0, 1) := by decide +kernel
theorem dX5_readItem_279 : decode cX5_readItem 279 = .ok (.ireturn, 1) := by decide +kernel
theorem dX5_readNumber_0 : decode cX5_readNumber 0 = .ok (.aload_n 0, 1) := by decide +kernel
theorem dX5_readNumber_1 : decode cX5_readNumber 1 = .ok (.getfield 12, 3) := by decide +kernel
theorem dX5_readNumber_4 : decode cX5_readNumber 4 = .ok (.invokevirtual 70, 3) := by decide +kernel
theorem dX5_readNumber_7 : decode cX5_readNumber 7 = .ok (.aload_n 0, 1) := by decide +kernel
theorem dX5_readNumber_8 : decode cX5_readNumber 8 = .ok (.aload_n 0, 1) := by decide +kernel
theorem dX5_readNumber_9 : decode cX5_readNumber 9 = .ok (.getfield 12, 3) := by decide +kernel
theorem dX5_readNumber_12 : decode cX5_readNumber 12 = .ok (.getfield 88, 3) := by decide +kernel
theorem dX5_readNumber_15 : decode cX5_readNumber 15 = .ok (.getstatic 193, 3) := by decide +kernel
theorem dX5_readNumber_18 : decode cX5_readNumber 18 = .ok (.if_acmp .ne 7, 3) := by decide +kernel
theorem dX5_readNumber_21 : decode cX5_readNumber 21 = .ok (.iconst 1, 1) := by decide +kernel
theorem dX5_readNumber_22 : decode cX5_readNumber 22 = .ok (.goto 4, 3) := by decide +kernel
theorem dX5_readNumber_25 : decode cX5_readNumber 25 = .ok (.iconst 0, 1) := by decide +kernel
theorem dX5_readNumber_26 : decode cX5_readNumber 26 = .ok (.iconst 1, 1) := by decide +kernel
theorem dX5_readNumber_27 : decode cX5_readNumber 27 = .ok (.invokevirtual 79, 3) := by decide +kernel
theorem dX5_readNumber_30 : decode cX5_readNumber 30 = .ok (.aload_n 0, 1) := by decide +kernel
theorem dX5_readNumber_31 : decode cX5_readNumber 31 = .ok (.getfield 12, 3) := by decide +kernel
theorem dX5_readNumber_34 : decode cX5_readNumber 34 = .ok (.invokevirtual 196, 3) := by decide +kernel
theorem dX5_readNumber_37 : decode cX5_readNumber 37 = .ok (.istore_n 3, 1) := by decide +kernel
theorem dX5_readNumber_38 : decode cX5_readNumber 38 = .ok (.aload_n 0, 1) := by decide +kernel
theorem dX5_readNumber_39 : decode cX5_readNumber 39 = .ok (.iload_n 3, 1) := by decide +kernel
theorem dX5_readNumber_40 : decode cX5_readNumber 40 = .ok (.iload_n 1, 1) := by decide +kernel
theorem dX5_readNumber_41 : decode cX5_readNumber 41 = .ok (.if_icmp .lt 12, 3) := by decide +kernel
theorem dX5_readNumber_44 : decode cX5_readNumber 44 = .ok (.iload_n 3, 1) := by decide +kernel
theorem dX5_readNumber_45 : decode cX5_readNumber 45 = .ok (.iload_n 2, 1) := by decide +kernel
theorem dX5_readNumber_46 : decode cX5_readNumber 46 = .ok (.if_icmp .gt 7, 3) := by decide +kernel
theorem dX5_readNumber_49 : decode cX5_readNumber 49 = .ok (.iconst 1, 1) := by decide +kernel
theorem dX5_readNumber_50 : decode cX5_readNumber 50 = .ok (.goto 4, 3) := by decide +kernel
theorem dX5_readNumber_53 : decode cX5_readNumber 53 = .ok (.iconst 0, 1) := by decide +kernel
theorem dX5_readNumber_54 : decode cX5_readNumber 54 = .ok (.iconst 2, 1) := by decide +kernel
theorem dX5_readNumber_55 : decode cX5_readNumber 55 = .ok (.invokevirtual 79, 3) := by decide +kernel
theorem dX5_readNumber_58 : decode cX5_readNumber 58 = .ok (.iload_n 3, 1) := by decide +kernel
theorem dX5_readNumber_59 : decode cX5_readNumber 59 = .ok (.ireturn, 1) := by decide +kernel
theorem dX5_readPersonIndex_0 : decode cX5_readPersonIndex 0 = .ok (.aload_n 0, 1) := by decide +kernel
theorem dX5_readPersonIndex_1 : decode cX5_readPersonIndex 1 = .ok (.iconst 0, 1) := by decide +kernel
theorem dX5_readPersonIndex_2 : decode cX5_readPersonIndex 2 = .ok (.aload_n 0, 1) := by decide +kernel
theorem dX5_readPersonIndex_3 : decode cX5_readPersonIndex 3 = .ok (.getfield 21, 3) := by decide +kernel
theorem dX5_readPersonIndex_6 : decode cX5_readPersonIndex 6 = .ok (.getfield 106, 3) := by decide +kernel
theorem dX5_readPersonIndex_9 : decode cX5_readPersonIndex 9 = .ok (.iconst 1, 1) := by decide +kernel
theorem dX5_readPersonIndex_10 : decode cX5_readPersonIndex 10 = .ok (.isub, 1) := by decide +kernel
theorem dX5_readPersonIndex_11 : decode cX5_readPersonIndex 11 = .ok (.invokevirtual 83, 3) := by decide +kernel
theorem dX5_readPersonIndex_14 : decode cX5_readPersonIndex 14 = .ok (.ireturn, 1) := by decide +kernel
theorem dX5_readStallIndex_0 : decode cX5_readStallIndex 0 = .ok (.aload_n 0, 1) := by decide +kernel
theorem dX5_readStallIndex_1 : decode cX5_readStallIndex 1 = .ok (.iconst 0, 1) := by decide +kernel
theorem dX5_readStallIndex_2 : decode cX5_readStallIndex 2 = .ok (.aload_n 0, 1) := by decide +kernel
theorem dX5_readStallIndex_3 : decode cX5_readStallIndex 3 = .ok (.getfield 21, 3) := by decide +kernel
theorem dX5_readStallIndex_6 : decode cX5_readStallIndex 6 = .ok (.getfield 103, 3) := by decide +kernel
theorem dX5_readStallIndex_9 : decode cX5_readStallIndex 9 = .ok (.iconst 1, 1) := by decide +kernel
theorem dX5_readStallIndex_10 : decode cX5_readStallIndex 10 = .ok (.isub, 1) := by decide +kernel
theorem dX5_readStallIndex_11 : decode cX5_readStallIndex 11 = .ok (.invokevirtual 83, 3) := by decide +kernel
theorem dX5_readStallIndex_14 : decode cX5_readStallIndex 14 = .ok (.ireturn, 1) := by decide +kernel
theorem dX5_readWishIndex_0 : decode cX5_readWishIndex 0 = .ok (.aload_n 0, 1) := by decide +kernel
theorem dX5_readWishIndex_1 : decode cX5_readWishIndex 1 = .ok (.iconst 0, 1) := by decide +kernel
theorem dX5_readWishIndex_2 : decode cX5_readWishIndex 2 = .ok (.aload_n 0, 1) := by decide +kernel
theorem dX5_readWishIndex_3 : decode cX5_readWishIndex 3 = .ok (.getfield 21, 3) := by decide +kernel
theorem dX5_readWishIndex_6 : decode cX5_readWishIndex 6 = .ok (.getfield 199, 3) := by decide +kernel
theorem dX5_readWishIndex_9 : decode cX5_readWishIndex 9 = .ok (.iconst 1, 1) := by decide +kernel
theorem dX5_readWishIndex_10 : decode cX5_readWishIndex 10 = .ok (.isub, 1) := by decide +kernel
theorem dX5_readWishIndex_11 : decode cX5_readWishIndex 11 = .ok (.invokevirtual 83, 3) := by decide +kernel
theorem dX5_readWishIndex_14 : decode cX5_readWishIndex 14 = .ok (.ireturn, 1) := by decide +kernel
theorem dX5_readDayOfYear_0 : decode cX5_readDayOfYear 0 = .ok (.aload_n 0, 1) := by decide +kernel
theorem dX5_readDayOfYear_1 : decode cX5_readDayOfYear 1 = .ok (.iconst 0, 1) := by decide +kernel
theorem dX5_readDayOfYear_2 : decode cX5_readDayOfYear 2 = .ok (.aload_n 0, 1) := by decide +kernel
theorem dX5_readDayOfYear_3 : decode cX5_readDayOfYear 3 = .ok (.getfield 21, 3) := by decide +kernel
theorem dX5_readDayOfYear_6 : decode cX5_readDayOfYear 6 = .ok (.getfield 202, 3) := by decide +kernel
theorem dX5_readDayOfYear_9 : decode cX5_readDayOfYear 9 = .ok (.iconst 1, 1) := by decide +kernel
theorem dX5_readDayOfYear_10 : decode cX5_readDayOfYear 10 = .ok (.isub, 1) := by decide +kernel
theorem dX5_readDayOfYear_11 : decode cX5_readDayOfYear 11 = .ok (.invokevirtual 83, 3) := by decide +kernel
theorem dX5_readDayOfYear_14 : decode cX5_readDayOfYear 14 = .ok (.ireturn, 1) := by decide +kernel
theorem dX5_readName_0 : decode cX5_readName 0 = .ok (.aload_n 0, 1) := by decide +kernel
theorem dX5_readName_1 : decode cX5_readName 1 = .ok (.getfield 12, 3) := by decide +kernel
theorem dX5_readName_4 : decode cX5_readName 4 = .ok (.invokevirtual 70, 3) := by decide +kernel
theorem dX5_readName_7 : decode cX5_readName 7 = .ok (.aload_n 0, 1) := by decide +kernel
theorem dX5_readName_8 : decode cX5_readName 8 = .ok (.aload_n 0, 1) := by decide +kernel
theorem dX5_readName_9 : decode cX5_readName 9 = .ok (.getfield 12, 3) := by decide +kernel
theorem dX5_readName_12 : decode cX5_readName 12 = .ok (.getfield 88, 3) := by decide +kernel
theorem dX5_readName_15 : decode cX5_readName 15 = .ok (.getstatic 205, 3) := by decide +kernel
theorem dX5_readName_18 : decode cX5_readName 18 = .ok (.if_acmp .ne 7, 3) := by decide +kernel
theorem dX5_readName_21 : decode cX5_readName 21 = .ok (.iconst 1, 1) := by decide +kernel
theorem dX5_readName_22 : decode cX5_readName 22 = .ok (.goto 4, 3) := by decide +kernel
theorem dX5_readName_25 : decode cX5_readName 25 = .ok (.iconst 0, 1) := by decide +kernel
theorem dX5_readName_26 : decode cX5_readName 26 = .ok (.iconst 1, 1) := by decide +kernel
theorem dX5_readName_27 : decode cX5_readName 27 = .ok (.invokevirtual 79, 3) := by decide +kernel
theorem dX5_readName_30 : decode cX5_readName 30 = .ok (.aload_n 0, 1) := by decide +kernel
theorem dX5_readName_31 : decode cX5_readName 31 = .ok (.aload_n 0, 1) := by decide +kernel
theorem dX5_readName_32 : decode cX5_readName 32 = .ok (.getfield 12, 3) := by decide +kernel
theorem dX5_readName_35 : decode cX5_readName 35 = .ok (.invokevirtual 208, 3) := by decide +kernel
theorem dX5_readName_38 : decode cX5_readName 38 = .ok (.bipush 6, 2) := by decide +kernel
theorem dX5_readName_40 : decode cX5_readName 40 = .ok (.if_icmp .gt 7, 3) := by decide +kernel
theorem dX5_readName_43 : decode cX5_readName 43 = .ok (.iconst 1, 1) := by decide +kernel
theorem dX5_readName_44 : decode cX5_readName 44 = .ok (.goto 4, 3) := by decide +kernel
theorem dX5_readName_47 : decode cX5_readName 47 = .ok (.iconst 0, 1) := by decide +kernel
theorem dX5_readName_48 : decode cX5_readName 48 = .ok (.iconst 2, 1) := by decide +kernel
theorem dX5_readName_49 : decode cX5_readName 49 = .ok (.invokevirtual 79, 3) := by decide +kernel
theorem dX5_readName_52 : decode cX5_readName 52 = .ok (.aload_n 0, 1) := by decide +kernel
theorem dX5_readName_53 : decode cX5_readName 53 = .ok (.getfield 12, 3) := by decide +kernel
theorem dX5_readName_56 : decode cX5_readName 56 = .ok (.invokevirtual 211, 3) := by decide +kernel
theorem dX5_readName_59 : decode cX5_readName 59 = .ok (.ireturn, 1) := by decide +kernel
theorem dX5_readStall_0 : decode cX5_readStall 0 = .ok (.aload_n 0, 1) := by decide +kernel
theorem dX5_readStall_1 : decode cX5_readStall 1 = .ok (.aload_n 0, 1) := by decide +kernel
theorem dX5_readStall_2 : decode cX5_readStall 2 = .ok (.getfield 21, 3) := by decide +kernel
theorem dX5_readStall_5 : decode cX5_readStall 5 = .ok (.getfield 103, 3) := by decide +kernel
theorem dX5_readStall_8 : decode cX5_readStall 8 = .ok (.iconst 5, 1) := by decide +kernel
theorem dX5_readStall_9 : decode cX5_readStall 9 = .ok (.if_icmp .ge 7, 3) := by decide +kernel
theorem dX5_readStall_12 : decode cX5_readStall 12 = .ok (.iconst 1, 1) := by decide +kernel
theorem dX5_readStall_13 : decode cX5_readStall 13 = .ok (.goto 4, 3) := by decide +kernel
theorem dX5_readStall_16 : decode cX5_readStall 16 = .ok (.iconst 0, 1) := by decide +kernel
theorem dX5_readStall_17 : decode cX5_readStall 17 = .ok (.iconst 4, 1) := by decide +kernel
theorem dX5_readStall_18 : decode cX5_readStall 18 = .ok (.invokevirtual 79, 3) := by decide +kernel
theorem dX5_readStall_21 : decode cX5_readStall 21 = .ok (.aload_n 0, 1) := by decide +kernel
theorem dX5_readStall_22 : decode cX5_readStall 22 = .ok (.getfield 21, 3) := by decide +kernel
theorem dX5_readStall_25 : decode cX5_readStall 25 = .ok (.getfield 214, 3) := by decide +kernel
theorem dX5_readStall_28 : decode cX5_readStall 28 = .ok (.aload_n 0, 1) := by decide +kernel
theorem dX5_readStall_29 : decode cX5_readStall 29 = .ok (.getfield 21, 3) := by decide +kernel
theorem dX5_readStall_32 : decode cX5_readStall 32 = .ok (.getfield 103, 3) := by decide +kernel
theorem dX5_readStall_35 : decode cX5_readStall 35 = .ok (.aaload, 1) := by decide +kernel
theorem dX5_readStall_36 : decode cX5_readStall 36 = .ok (.astore_n 1, 1) := by decide +kernel
theorem dX5_readStall_37 : decode cX5_readStall 37 = .ok (.aload_n 1, 1) := by decide +kernel
theorem dX5_readStall_38 : decode cX5_readStall 38 = .ok (.aload_n 0, 1) := by decide +kernel
theorem dX5_readStall_39 : decode cX5_readStall 39 = .ok (.iconst 1, 1) := by decide +kernel
theorem dX5_readStall_40 : decode cX5_readStall 40 = .ok (.bipush 8, 2) := by decide +kernel
theorem dX5_readStall_42 : decode cX5_readStall 42 = .ok (.invokevirtual 83, 3) := by decide +kernel
theorem dX5_readStall_45 : decode cX5_readStall 45 = .ok (.putfield 218, 3) := by decide +kernel
theorem dX5_readStall_48 : decode cX5_readStall 48 = .ok (.aload_n 1, 1) := by decide +kernel
theorem dX5_readStall_49 : decode cX5_readStall 49 = .ok (.aload_n 0, 1) := by decide +kernel
theorem dX5_readStall_50 : decode cX5_readStall 50 = .ok (.iconst 0, 1) := by decide +kernel
theorem dX5_readStall_51 : decode cX5_readStall 51 = .ok (.sipush 999, 3) := by decide +kernel
theorem dX5_readStall_54 : decode cX5_readStall 54 = .ok (.invokevirtual 83, 3) := by decide +kernel
theorem dX5_readStall_57 : decode cX5_readStall 57 = .ok (.putfield 223, 3) := by decide +kernel
theorem dX5_readStall_60 : decode cX5_readStall 60 = .ok (.aload_n 1, 1) := by decide +kernel
theorem dX5_readStall_61 : decode cX5_readStall 61 = .ok (.aload_n 0, 1) := by decide +kernel
theorem dX5_readStall_62 : decode cX5_readStall 62 = .ok (.iconst 0, 1) := by decide +kernel
theorem dX5_readStall_63 : decode cX5_readStall 63 = .ok (.bipush 50, 2) := by decide +kernel
theorem dX5_readStall_65 : decode cX5_readStall 65 = .ok (.invokevirtual 83, 3) := by decide +kernel
theorem dX5_readStall_68 : decode cX5_readStall 68 = .ok (.putfield 226, 3) := by decide +kernel
theorem dX5_readStall_71 : decode cX5_readStall 71 = .ok (.aload_n 1, 1) := by decide +kernel
theorem dX5_readStall_72 : decode cX5_readStall 72 = .ok (.aload_n 0, 1) := by decide +kernel
theorem dX5_readStall_73 : decode cX5_readStall 73 = .ok (.iconst 0, 1) := by decide +kernel
theorem dX5_readStall_74 : decode cX5_readStall 74 = .ok (.bipush 100, 2) := by decide +kernel
theorem dX5_readStall_76 : decode cX5_readStall 76 = .ok (.invokevirtual 83, 3) := by decide +kernel
theorem dX5_readStall_79 : decode cX5_readStall 79 = .ok (.putfield 229, 3) := by decide +kernel
theorem dX5_readStall_82 : decode cX5_readStall 82 = .ok (.aload_n 0, 1) := by decide +kernel
theorem dX5_readStall_83 : decode cX5_readStall 83 = .ok (.getfield 21, 3) := by decide +kernel
theorem dX5_readStall_86 : decode cX5_readStall 86 = .ok (.dup, 1) := by decide +kernel
theorem dX5_readStall_87 : decode cX5_readStall 87 = .ok (.getfield 103, 3) := by decide +kernel
theorem dX5_readStall_90 : decode cX5_readStall 90 = .ok (.iconst 1, 1) := by decide +kernel
theorem dX5_readStall_91 : decode cX5_readStall 91 = .ok (.iadd, 1) := by decide +kernel
theorem dX5_readStall_92 : decode cX5_readStall 92 = .ok (.putfield 103, 3) := by decide +kernel
theorem dX5_readStall_95 : decode cX5_readStall 95 = .ok (.aload_n 0, 1) := by decide +kernel
theorem dX5_readStall_96 : decode cX5_readStall 96 = .ok (.getfield 21, 3) := by decide +kernel
theorem dX5_readStall_99 : decode cX5_readStall 99 = .ok (.dup, 1) := by decide +kernel
theorem dX5_readStall_100 : decode cX5_readStall 100 = .ok (.getfield 232, 3) := by decide +kernel
theorem dX5_readStall_103 : decode cX5_readStall 103 = .ok (.aload_n 1, 1) := by decide +kernel
theorem dX5_readStall_104 : decode cX5_readStall 104 = .ok (.getfield 223, 3) := by decide +kernel
theorem dX5_readStall_107 : decode cX5_readStall 107 = .ok (.iadd, 1) := by decide +kernel
theorem dX5_readStall_108 : decode cX5_readStall 108 = .ok (.putfield 232, 3) := by decide +kernel
theorem dX5_readStall_111 : decode cX5_readStall 111 = .ok (.return_, 1) := by decide +kernel
theorem dX5_readPerson_0 : decode cX5_readPerson 0 = .ok (.aload_n 0, 1) := by decide +kernel
theorem dX5_readPerson_1 : decode cX5_readPerson 1 = .ok (.aload_n 0, 1) := by decide +kernel
theorem dX5_readPerson_2 : decode cX5_readPerson 2 = .ok (.getfield 21, 3) := by decide +kernel
theorem dX5_readPerson_5 : decode cX5_readPerson 5 = .ok (.getfield 106, 3) := by decide +kernel
theorem dX5_readPerson_8 : decode cX5_readPerson 8 = .ok (.bipush 6, 2) := by decide +kernel
theorem dX5_readPerson_10 : decode cX5_readPerson 10 = .ok (.if_icmp .ge 7, 3) := by decide +kernel
theorem dX5_readPerson_13 : decode cX5_readPerson 13 = .ok (.iconst 1, 1) := by decide +kernel
theorem dX5_readPerson_14 : decode cX5_readPerson 14 = .ok (.goto 4, 3) := by decide +kernel
theorem dX5_readPerson_17 : decode cX5_readPerson 17 = .ok (.iconst 0, 1) := by decide +kernel
theorem dX5_readPerson_18 : decode cX5_readPerson 18 = .ok (.iconst 4, 1) := by decide +kernel
theorem dX5_readPerson_19 : decode cX5_readPerson 19 = .ok (.invokevirtual 79, 3) := by decide +kernel
theorem dX5_readPerson_22 : decode cX5_readPerson 22 = .ok (.aload_n 0, 1) := by decide +kernel
theorem dX5_readPerson_23 : decode cX5_readPerson 23 = .ok (.getfield 21, 3) := by decide +kernel
theorem dX5_readPerson_26 : decode cX5_readPerson 26 = .ok (.getfield 235, 3) := by decide +kernel
theorem dX5_readPerson_29 : decode cX5_readPerson 29 = .ok (.aload_n 0, 1) := by decide +kernel
theorem dX5_readPerson_30 : decode cX5_readPerson 30 = .ok (.getfield 21, 3) := by decide +kernel
theorem dX5_readPerson_33 : decode cX5_readPerson 33 = .ok (.getfield 106, 3) := by decide +kernel
theorem dX5_readPerson_36 : decode cX5_readPerson 36 = .ok (.aaload, 1) := by decide +kernel
theorem dX5_readPerson_37 : decode cX5_readPerson 37 = .ok (.astore_n 1, 1) := by decide +kernel
theorem dX5_readPerson_38 : decode cX5_readPerson 38 = .ok (.aload_n 1, 1) := by decide +kernel
theorem dX5_readPerson_39 : decode cX5_readPerson 39 = .ok (.aload_n 0, 1) := by decide +kernel
theorem dX5_readPerson_40 : decode cX5_readPerson 40 = .ok (.invokevirtual 239, 3) := by decide +kernel
theorem dX5_readPerson_43 : decode cX5_readPerson 43 = .ok (.putfield 242, 3) := by decide +kernel
theorem dX5_readPerson_46 : decode cX5_readPerson 46 = .ok (.aload_n 0, 1) := by decide +kernel
theorem dX5_readPerson_47 : decode cX5_readPerson 47 = .ok (.aload_n 0, 1) := by decide +kernel
theorem dX5_readPerson_48 : decode cX5_readPerson 48 = .ok (.getfield 21, 3) := by decide +kernel
theorem dX5_readPerson_51 : decode cX5_readPerson 51 = .ok (.aload_n 1, 1) := by decide +kernel
theorem dX5_readPerson_52 : decode cX5_readPerson 52 = .ok (.getfield 242, 3) := by decide +kernel
theorem dX5_readPerson_55 : decode cX5_readPerson 55 = .ok (.invokevirtual 247, 3) := by decide +kernel
theorem dX5_readPerson_58 : decode cX5_readPerson 58 = .ok (.ifCond .ne 7, 3) := by decide +kernel
theorem dX5_readPerson_61 : decode cX5_readPerson 61 = .ok (.iconst 1, 1) := by decide +kernel
theorem dX5_readPerson_62 : decode cX5_readPerson 62 = .ok (.goto 4, 3) := by decide +kernel
theorem dX5_readPerson_65 : decode cX5_readPerson 65 = .ok (.iconst 0, 1) := by decide +kernel
theorem dX5_readPerson_66 : decode cX5_readPerson 66 = .ok (.iconst 3, 1) := by decide +kernel
theorem dX5_readPerson_67 : decode cX5_readPerson 67 = .ok (.invokevirtual 79, 3) := by decide +kernel
theorem dX5_readPerson_70 : decode cX5_readPerson 70 = .ok (.aload_n 1, 1) := by decide +kernel
theorem dX5_readPerson_71 : decode cX5_readPerson 71 = .ok (.aload_n 0, 1) := by decide +kernel
theorem dX5_readPerson_72 : decode cX5_readPerson 72 = .ok (.iconst 0, 1) := by decide +kernel
theorem dX5_readPerson_73 : decode cX5_readPerson 73 = .ok (.sipush 999, 3) := by decide +kernel
theorem dX5_readPerson_76 : decode cX5_readPerson 76 = .ok (.invokevirtual 83, 3) := by decide +kernel
theorem dX5_readPerson_79 : decode cX5_readPerson 79 = .ok (.putfield 251, 3) := by decide +kernel
theorem dX5_readPerson_82 : decode cX5_readPerson 82 = .ok (.aload_n 1, 1) := by decide +kernel
theorem dX5_readPerson_83 : decode cX5_readPerson 83 = .ok (.aload_n 0, 1) := by decide +kernel
theorem dX5_readPerson_84 : decode cX5_readPerson 84 = .ok (.invokevirtual 174, 3) := by decide +kernel
theorem dX5_readPerson_87 : decode cX5_readPerson 87 = .ok (.putfield 254, 3) := by decide +kernel
theorem dX5_readPerson_90 : decode cX5_readPerson 90 = .ok (.aload_n 1, 1) := by decide +kernel
theorem dX5_readPerson_91 : decode cX5_readPerson 91 = .ok (.aload_n 0, 1) := by decide +kernel
theorem dX5_readPerson_92 : decode cX5_readPerson 92 = .ok (.iconst 0, 1) := by decide +kernel
theorem dX5_readPerson_93 : decode cX5_readPerson 93 = .ok (.bipush 99, 2) := by decide +kernel
theorem dX5_readPerson_95 : decode cX5_readPerson 95 = .ok (.invokevirtual 83, 3) := by decide +kernel
theorem dX5_readPerson_98 : decode cX5_readPerson 98 = .ok (.putfield 257, 3) := by decide +kernel
theorem dX5_readPerson_101 : decode cX5_readPerson 101 = .ok (.aload_n 1, 1) := by decide +kernel
theorem dX5_readPerson_102 : decode cX5_readPerson 102 = .ok (.iconst 0, 1) := by decide +kernel
theorem dX5_readPerson_103 : decode cX5_readPerson 103 = .ok (.putfield 260, 3) := by decide +kernel
theorem dX5_readPerson_106 : decode cX5_readPerson 106 = .ok (.aload_n 1, 1) := by decide +kernel
theorem dX5_readPerson_107 : decode cX5_readPerson 107 = .ok (.iconst 0, 1) := by decide +kernel
theorem dX5_readPerson_108 : decode cX5_readPerson 108 = .ok (.putfield 263, 3) := by decide +kernel
theorem dX5_readPerson_111 : decode cX5_readPerson 111 = .ok (.aload_n 1, 1) := by decide +kernel
theorem dX5_readPerson_112 : decode cX5_readPerson 112 = .ok (.iconst 0, 1) := by decide +kernel
theorem dX5_readPerson_113 : decode cX5_readPerson 113 = .ok (.putfield 266, 3) := by decide +kernel
theorem dX5_readPerson_116 : decode cX5_readPerson 116 = .ok (.aload_n 1, 1) := by decide +kernel
theorem dX5_readPerson_117 : decode cX5_readPerson 117 = .ok (.iconst 0, 1) := by decide +kernel
theorem dX5_readPerson_118 : decode cX5_readPerson 118 = .ok (.putfield 270, 3) := by decide +kernel
theorem dX5_readPerson_121 : decode cX5_readPerson 121 = .ok (.aload_n 0, 1) := by decide +kernel
theorem dX5_readPerson_122 : decode cX5_readPerson 122 = .ok (.getfield 21, 3) := by decide +kernel
theorem dX5_readPerson_125 : decode cX5_readPerson 125 = .ok (.dup, 1) := by decide +kernel
theorem dX5_readPerson_126 : decode cX5_readPerson 126 = .ok (.getfield 106, 3) := by decide +kernel
theorem dX5_readPerson_129 : decode cX5_readPerson 129 = .ok (.iconst 1, 1) := by decide +kernel
theorem dX5_readPerson_130 : decode cX5_readPerson 130 = .ok (.iadd, 1) := by decide +kernel
theorem dX5_readPerson_131 : decode cX5_readPerson 131 = .ok (.putfield 106, 3) := by decide +kernel
theorem dX5_readPerson_134 : decode cX5_readPerson 134 = .ok (.aload_n 0, 1) := by decide +kernel
theorem dX5_readPerson_135 : decode cX5_readPerson 135 = .ok (.getfield 21, 3) := by decide +kernel
theorem dX5_readPerson_138 : decode cX5_readPerson 138 = .ok (.dup, 1) := by decide +kernel
theorem dX5_readPerson_139 : decode cX5_readPerson 139 = .ok (.getfield 232, 3) := by decide +kernel
theorem dX5_readPerson_142 : decode cX5_readPerson 142 = .ok (.aload_n 1, 1) := by decide +kernel
theorem dX5_readPerson_143 : decode cX5_readPerson 143 = .ok (.getfield 251, 3) := by decide +kernel
theorem dX5_readPerson_146 : decode cX5_readPerson 146 = .ok (.iadd, 1) := by decide +kernel
theorem dX5_readPerson_147 : decode cX5_readPerson 147 = .ok (.putfield 232, 3) := by decide +kernel
theorem dX5_readPerson_150 : decode cX5_readPerson 150 = .ok (.aload_n 1, 1) := by decide +kernel
theorem dX5_readPerson_151 : decode cX5_readPerson 151 = .ok (.areturn, 1) := by decide +kernel
theorem dX5_readHabits_0 : decode cX5_readHabits 0 = .ok (.iconst 1, 1) := by decide +kernel
theorem dX5_readHabits_1 : decode cX5_readHabits 1 = .ok (.istore_n 2, 1) := by decide +kernel
theorem dX5_readHabits_2 : decode cX5_readHabits 2 = .ok (.iconst 0, 1) := by decide +kernel
theorem dX5_readHabits_3 : decode cX5_readHabits 3 = .ok (.istore_n 3, 1) := by decide +kernel
theorem dX5_readHabits_4 : decode cX5_readHabits 4 = .ok (.iload_n 2, 1) := by decide +kernel
theorem dX5_readHabits_5 : decode cX5_readHabits 5 = .ok (.ifCond .eq 92, 3) := by decide +kernel
theorem dX5_readHabits_8 : decode cX5_readHabits 8 = .ok (.iload_n 3, 1) := by decide +kernel
theorem dX5_readHabits_9 : decode cX5_readHabits 9 = .ok (.iconst 2, 1) := by decide +kernel
theorem dX5_readHabits_10 : decode cX5_readHabits 10 = .ok (.if_icmp .gt 87, 3) := by decide +kernel
theorem dX5_readHabits_13 : decode cX5_readHabits 13 = .ok (.aload_n 0, 1) := by decide +kernel
theorem dX5_readHabits_14 : decode cX5_readHabits 14 = .ok (.getfield 12, 3) := by decide +kernel
theorem dX5_readHabits_17 : decode cX5_readHabits 17 = .ok (.ldc_w 273, 3) := by decide +kernel
theorem dX5_readHabits_20 : decode cX5_readHabits 20 = .ok (.invokevirtual 275, 3) := by decide +kernel
theorem dX5_readHabits_23 : decode cX5_readHabits 23 = .ok (.ifCond .eq 28, 3) := by decide +kernel
theorem dX5_readHabits_26 : decode cX5_readHabits 26 = .ok (.aload_n 0, 1) := by decide +kernel
theorem dX5_readHabits_27 : decode cX5_readHabits 27 = .ok (.aload_n 1, 1) := by decide +kernel
theorem dX5_readHabits_28 : decode cX5_readHabits 28 = .ok (.getfield 266, 3) := by decide +kernel
theorem dX5_readHabits_31 : decode cX5_readHabits 31 = .ok (.ifCond .ne 7, 3) := by decide +kernel
theorem dX5_readHabits_34 : decode cX5_readHabits 34 = .ok (.iconst 1, 1) := by decide +kernel
theorem dX5_readHabits_35 : decode cX5_readHabits 35 = .ok (.goto 4, 3) := by decide +kernel
theorem dX5_readHabits_38 : decode cX5_readHabits 38 = .ok (.iconst 0, 1) := by decide +kernel
theorem dX5_readHabits_39 : decode cX5_readHabits 39 = .ok (.iconst 3, 1) := by decide +kernel
theorem dX5_readHabits_40 : decode cX5_readHabits 40 = .ok (.invokevirtual 79, 3) := by decide +kernel
theorem dX5_readHabits_43 : decode cX5_readHabits 43 = .ok (.aload_n 1, 1) := by decide +kernel
theorem dX5_readHabits_44 : decode cX5_readHabits 44 = .ok (.iconst 1, 1) := by decide +kernel
theorem dX5_readHabits_45 : decode cX5_readHabits 45 = .ok (.putfield 266, 3) := by decide +kernel
theorem dX5_readHabits_48 : decode cX5_readHabits 48 = .ok (.goto 43, 3) := by decide +kernel
theorem dX5_readHabits_51 : decode cX5_readHabits 51 = .ok (.aload_n 0, 1) := by decide +kernel
theorem dX5_readHabits_52 : decode cX5_readHabits 52 = .ok (.getfield 12, 3) := by decide +kernel
theorem dX5_readHabits_55 : decode cX5_readHabits 55 = .ok (.ldc_w 278, 3) := by decide +kernel
theorem dX5_readHabits_58 : decode cX5_readHabits 58 = .ok (.invokevirtual 275, 3) := by decide +kernel
theorem dX5_readHabits_61 : decode cX5_readHabits 61 = .ok (.ifCond .eq 28, 3) := by decide +kernel
theorem dX5_readHabits_64 : decode cX5_readHabits 64 = .ok (.aload_n 0, 1) := by decide +kernel
theorem dX5_readHabits_65 : decode cX5_readHabits 65 = .ok (.aload_n 1, 1) := by decide +kernel
theorem dX5_readHabits_66 : decode cX5_readHabits 66 = .ok (.getfield 270, 3) := by decide +kernel
theorem dX5_readHabits_69 : decode cX5_readHabits 69 = .ok (.ifCond .ne 7, 3) := by decide +kernel
theorem dX5_readHabits_72 : decode cX5_readHabits 72 = .ok (.iconst 1, 1) := by decide +kernel
theorem dX5_readHabits_73 : decode cX5_readHabits 73 = .ok (.goto 4, 3) := by decide +kernel
theorem dX5_readHabits_76 : decode cX5_readHabits 76 = .ok (.iconst 0, 1) := by decide +kernel
theorem dX5_readHabits_77 : decode cX5_readHabits 77 = .ok (.iconst 3, 1) := by decide +kernel
theorem dX5_readHabits_78 : decode cX5_readHabits 78 = .ok (.invokevirtual 79, 3) := by decide +kernel
theorem dX5_readHabits_81 : decode cX5_readHabits 81 = .ok (.aload_n 1, 1) := by decide +kernel
theorem dX5_readHabits_82 : decode cX5_readHabits 82 = .ok (.iconst 1, 1) := by decide +kernel
theorem dX5_readHabits_83 : decode cX5_readHabits 83 = .ok (.putfield 270, 3) := by decide +kernel
theorem dX5_readHabits_86 : decode cX5_readHabits 86 = .ok (.goto 5, 3) := by decide +kernel
theorem dX5_readHabits_89 : decode cX5_readHabits 89 = .ok (.iconst 0, 1) := by decide +kernel
theorem dX5_readHabits_90 : decode cX5_readHabits 90 = .ok (.istore_n 2, 1) := by decide +kernel
theorem dX5_readHabits_91 : decode cX5_readHabits 91 = .ok (.iinc 3 1, 3) := by decide +kernel
theorem dX5_readHabits_94 : decode cX5_readHabits 94 = .ok (.goto (-90), 3) := by decide +kernel
theorem dX5_readHabits_97 : decode cX5_readHabits 97 = .ok (.return_, 1) := by decide +kernel
theorem dX5_readWish_0 : decode cX5_readWish 0 = .ok (.aload_n 0, 1) := by decide +kernel
theorem dX5_readWish_1 : decode cX5_readWish 1 = .ok (.aload_n 0, 1) := by decide +kernel
theorem dX5_readWish_2 : decode cX5_readWish 2 = .ok (.getfield 21, 3) := by decide +kernel
theorem dX5_readWish_5 : decode cX5_readWish 5 = .ok (.getfield 199, 3) := by decide +kernel
theorem dX5_readWish_8 : decode cX5_readWish 8 = .ok (.bipush 16, 2) := by decide +kernel
theorem dX5_readWish_10 : decode cX5_readWish 10 = .ok (.if_icmp .ge 7, 3) := by decide +kernel
theorem dX5_readWish_13 : decode cX5_readWish 13 = .ok (.iconst 1, 1) := by decide +kernel
theorem dX5_readWish_14 : decode cX5_readWish 14 = .ok (.goto 4, 3) := by decide +kernel
theorem dX5_readWish_17 : decode cX5_readWish 17 = .ok (.iconst 0, 1) := by decide +kernel
theorem dX5_readWish_18 : decode cX5_readWish 18 = .ok (.iconst 4, 1) := by decide +kernel
theorem dX5_readWish_19 : decode cX5_readWish 19 = .ok (.invokevirtual 79, 3) := by decide +kernel
theorem dX5_readWish_22 : decode cX5_readWish 22 = .ok (.aload_n 0, 1) := by decide +kernel
theorem dX5_readWish_23 : decode cX5_readWish 23 = .ok (.getfield 21, 3) := by decide +kernel
theorem dX5_readWish_26 : decode cX5_readWish 26 = .ok (.getfield 280, 3) := by decide +kernel
theorem dX5_readWish_29 : decode cX5_readWish 29 = .ok (.aload_n 0, 1) := by decide +kernel
theorem dX5_readWish_30 : decode cX5_readWish 30 = .ok (.getfield 21, 3) := by decide +kernel
theorem dX5_readWish_33 : decode cX5_readWish 33 = .ok (.getfield 199, 3) := by decide +kernel
theorem dX5_readWish_36 : decode cX5_readWish 36 = .ok (.aaload, 1) := by decide +kernel
theorem dX5_readWish_37 : decode cX5_readWish 37 = .ok (.astore_n 1, 1) := by decide +kernel
theorem dX5_readWish_38 : decode cX5_readWish 38 = .ok (.aload_n 1, 1) := by decide +kernel
theorem dX5_readWish_39 : decode cX5_readWish 39 = .ok (.aload_n 0, 1) := by decide +kernel
theorem dX5_readWish_40 : decode cX5_readWish 40 = .ok (.invokevirtual 239, 3) := by decide +kernel
theorem dX5_readWish_43 : decode cX5_readWish 43 = .ok (.putfield 284, 3) := by decide +kernel
theorem dX5_readWish_46 : decode cX5_readWish 46 = .ok (.aload_n 0, 1) := by decide +kernel
theorem dX5_readWish_47 : decode cX5_readWish 47 = .ok (.aload_n 0, 1) := by decide +kernel
theorem dX5_readWish_48 : decode cX5_readWish 48 = .ok (.getfield 21, 3) := by decide +kernel
theorem dX5_readWish_51 : decode cX5_readWish 51 = .ok (.aload_n 1, 1) := by decide +kernel
theorem dX5_readWish_52 : decode cX5_readWish 52 = .ok (.getfield 284, 3) := by decide +kernel
theorem dX5_readWish_55 : decode cX5_readWish 55 = .ok (.iconst (-1), 1) := by decide +kernel
theorem dX5_readWish_56 : decode cX5_readWish 56 = .ok (.invokevirtual 287, 3) := by decide +kernel
theorem dX5_readWish_59 : decode cX5_readWish 59 = .ok (.ifCond .ne 7, 3) := by decide +kernel
theorem dX5_readWish_62 : decode cX5_readWish 62 = .ok (.iconst 1, 1) := by decide +kernel
theorem dX5_readWish_63 : decode cX5_readWish 63 = .ok (.goto 4, 3) := by decide +kernel
theorem dX5_readWish_66 : decode cX5_readWish 66 = .ok (.iconst 0, 1) := by decide +kernel
theorem dX5_readWish_67 : decode cX5_readWish 67 = .ok (.iconst 3, 1) := by decide +kernel
theorem dX5_readWish_68 : decode cX5_readWish 68 = .ok (.invokevirtual 79, 3) := by decide +kernel
theorem dX5_readWish_71 : decode cX5_readWish 71 = .ok (.aload_n 1, 1) := by decide +kernel
theorem dX5_readWish_72 : decode cX5_readWish 72 = .ok (.aload_n 0, 1) := by decide +kernel
theorem dX5_readWish_73 : decode cX5_readWish 73 = .ok (.iconst 1, 1) := by decide +kernel
theorem dX5_readWish_74 : decode cX5_readWish 74 = .ok (.bipush 99, 2) := by decide +kernel
theorem dX5_readWish_76 : decode cX5_readWish 76 = .ok (.invokevirtual 83, 3) := by decide +kernel
theorem dX5_readWish_79 : decode cX5_readWish 79 = .ok (.putfield 291, 3) := by decide +kernel
theorem dX5_readWish_82 : decode cX5_readWish 82 = .ok (.aload_n 1, 1) := by decide +kernel
theorem dX5_readWish_83 : decode cX5_readWish 83 = .ok (.aload_n 0, 1) := by decide +kernel
theorem dX5_readWish_84 : decode cX5_readWish 84 = .ok (.iconst 0, 1) := by decide +kernel
theorem dX5_readWish_85 : decode cX5_readWish 85 = .ok (.bipush 99, 2) := by decide +kernel
theorem dX5_readWish_87 : decode cX5_readWish 87 = .ok (.invokevirtual 83, 3) := by decide +kernel
theorem dX5_readWish_90 : decode cX5_readWish 90 = .ok (.putfield 294, 3) := by decide +kernel
theorem dX5_readWish_93 : decode cX5_readWish 93 = .ok (.aload_n 1, 1) := by decide +kernel
theorem dX5_readWish_94 : decode cX5_readWish 94 = .ok (.iconst 0, 1) := by decide +kernel
theorem dX5_readWish_95 : decode cX5_readWish 95 = .ok (.putfield 297, 3) := by decide +kernel
theorem dX5_readWish_98 : decode cX5_readWish 98 = .ok (.aload_n 1, 1) := by decide +kernel
theorem dX5_readWish_99 : decode cX5_readWish 99 = .ok (.iconst 0, 1) := by decide +kernel
theorem dX5_readWish_100 : decode cX5_readWish 100 = .ok (.putfield 300, 3) := by decide +kernel
theorem dX5_readWish_103 : decode cX5_readWish 103 = .ok (.aload_n 0, 1) := by decide +kernel
theorem dX5_readWish_104 : decode cX5_readWish 104 = .ok (.aload_n 1, 1) := by decide +kernel
theorem dX5_readWish_105 : decode cX5_readWish 105 = .ok (.invokevirtual 303, 3) := by decide +kernel
theorem dX5_readWish_108 : decode cX5_readWish 108 = .ok (.aload_n 1, 1) := by decide +kernel
theorem dX5_readWish_109 : decode cX5_readWish 109 = .ok (.aload_n 0, 1) := by decide +kernel
theorem dX5_readWish_110 : decode cX5_readWish 110 = .ok (.getfield 12, 3) := by decide +kernel
theorem dX5_readWish_113 : decode cX5_readWish 113 = .ok (.ldc_w 307, 3) := by decide +kernel
theorem dX5_readWish_116 : decode cX5_readWish 116 = .ok (.invokevirtual 275, 3) := by decide +kernel
theorem dX5_readWish_119 : decode cX5_readWish 119 = .ok (.ifCond .eq 13, 3) := by decide +kernel
theorem dX5_readWish_122 : decode cX5_readWish 122 = .ok (.aload_n 0, 1) := by decide +kernel
theorem dX5_readWish_123 : decode cX5_readWish 123 = .ok (.iconst 0, 1) := by decide +kernel
theorem dX5_readWish_124 : decode cX5_readWish 124 = .ok (.bipush 9, 2) := by decide +kernel
theorem dX5_readWish_126 : decode cX5_readWish 126 = .ok (.invokevirtual 83, 3) := by decide +kernel
theorem dX5_readWish_129 : decode cX5_readWish 129 = .ok (.goto 4, 3) := by decide +kernel
theorem dX5_readWish_132 : decode cX5_readWish 132 = .ok (.iconst 0, 1) := by decide +kernel
theorem dX5_readWish_133 : decode cX5_readWish 133 = .ok (.putfield 309, 3) := by decide +kernel
theorem dX5_readWish_136 : decode cX5_readWish 136 = .ok (.aload_n 0, 1) := by decide +kernel
theorem dX5_readWish_137 : decode cX5_readWish 137 = .ok (.getfield 21, 3) := by decide +kernel
theorem dX5_readWish_140 : decode cX5_readWish 140 = .ok (.dup, 1) := by decide +kernel
theorem dX5_readWish_141 : decode cX5_readWish 141 = .ok (.getfield 199, 3) := by decide +kernel
theorem dX5_readWish_144 : decode cX5_readWish 144 = .ok (.iconst 1, 1) := by decide +kernel
theorem dX5_readWish_145 : decode cX5_readWish 145 = .ok (.iadd, 1) := by decide +kernel
theorem dX5_readWish_146 : decode cX5_readWish 146 = .ok (.putfield 199, 3) := by decide +kernel
theorem dX5_readWish_149 : decode cX5_readWish 149 = .ok (.return_, 1) := by decide +kernel
theorem dX5_readPlace_0 : decode cX5_readPlace 0 = .ok (.aload_n 0, 1) := by decide +kernel
theorem dX5_readPlace_1 : decode cX5_readPlace 1 = .ok (.getfield 12, 3) := by decide +kernel
theorem dX5_readPlace_4 : decode cX5_readPlace 4 = .ok (.invokevirtual 70, 3) := by decide +kernel
theorem dX5_readPlace_7 : decode cX5_readPlace 7 = .ok (.aload_n 0, 1) := by decide +kernel
theorem dX5_readPlace_8 : decode cX5_readPlace 8 = .ok (.getfield 12, 3) := by decide +kernel
theorem dX5_readPlace_11 : decode cX5_readPlace 11 = .ok (.ldc_w 312, 3) := by decide +kernel
theorem dX5_readPlace_14 : decode cX5_readPlace 14 = .ok (.invokevirtual 75, 3) := by decide +kernel
theorem dX5_readPlace_17 : decode cX5_readPlace 17 = .ok (.istore_n 2, 1) := by decide +kernel
theorem dX5_readPlace_18 : decode cX5_readPlace 18 = .ok (.aload_n 0, 1) := by decide +kernel
theorem dX5_readPlace_19 : decode cX5_readPlace 19 = .ok (.iload_n 2, 1) := by decide +kernel
theorem dX5_readPlace_20 : decode cX5_readPlace 20 = .ok (.ifCond .ne 16, 3) := by decide +kernel
theorem dX5_readPlace_23 : decode cX5_readPlace 23 = .ok (.aload_n 0, 1) := by decide +kernel
theorem dX5_readPlace_24 : decode cX5_readPlace 24 = .ok (.getfield 12, 3) := by decide +kernel
theorem dX5_readPlace_27 : decode cX5_readPlace 27 = .ok (.ldc_w 314, 3) := by decide +kernel
theorem dX5_readPlace_30 : decode cX5_readPlace 30 = .ok (.invokevirtual 75, 3) := by decide +kernel
theorem dX5_readPlace_33 : decode cX5_readPlace 33 = .ok (.ifCond .eq 7, 3) := by decide +kernel
theorem dX5_readPlace_36 : decode cX5_readPlace 36 = .ok (.iconst 1, 1) := by decide +kernel
theorem dX5_readPlace_37 : decode cX5_readPlace 37 = .ok (.goto 4, 3) := by decide +kernel
theorem dX5_readPlace_40 : decode cX5_readPlace 40 = .ok (.iconst 0, 1) := by decide +kernel
theorem dX5_readPlace_41 : decode cX5_readPlace 41 = .ok (.iconst 1, 1) := by decide +kernel
theorem dX5_readPlace_42 : decode cX5_readPlace 42 = .ok (.invokevirtual 79, 3) := by decide +kernel
theorem dX5_readPlace_45 : decode cX5_readPlace 45 = .ok (.iload_n 2, 1) := by decide +kernel
theorem dX5_readPlace_46 : decode cX5_readPlace 46 = .ok (.ifCond .eq 60, 3) := by decide +kernel
theorem dX5_readPlace_49 : decode cX5_readPlace 49 = .ok (.aload_n 0, 1) := by decide +kernel
theorem dX5_readPlace_50 : decode cX5_readPlace 50 = .ok (.iconst 0, 1) := by decide +kernel
theorem dX5_readPlace_51 : decode cX5_readPlace 51 = .ok (.aload_n 0, 1) := by decide +kernel
theorem dX5_readPlace_52 : decode cX5_readPlace 52 = .ok (.getfield 21, 3) := by decide +kernel
theorem dX5_readPlace_55 : decode cX5_readPlace 55 = .ok (.getfield 103, 3) := by decide +kernel
theorem dX5_readPlace_58 : decode cX5_readPlace 58 = .ok (.iconst 1, 1) := by decide +kernel
theorem dX5_readPlace_59 : decode cX5_readPlace 59 = .ok (.isub, 1) := by decide +kernel
theorem dX5_readPlace_60 : decode cX5_readPlace 60 = .ok (.invokevirtual 83, 3) := by decide +kernel
theorem dX5_readPlace_63 : decode cX5_readPlace 63 = .ok (.istore_n 3, 1) := by decide +kernel
theorem dX5_readPlace_64 : decode cX5_readPlace 64 = .ok (.aload_n 0, 1) := by decide +kernel
theorem dX5_readPlace_65 : decode cX5_readPlace 65 = .ok (.aload_n 0, 1) := by decide +kernel
theorem dX5_readPlace_66 : decode cX5_readPlace 66 = .ok (.getfield 21, 3) := by decide +kernel
theorem dX5_readPlace_69 : decode cX5_readPlace 69 = .ok (.iload_n 3, 1) := by decide +kernel
theorem dX5_readPlace_70 : decode cX5_readPlace 70 = .ok (.invokevirtual 316, 3) := by decide +kernel
theorem dX5_readPlace_73 : decode cX5_readPlace 73 = .ok (.aload_n 0, 1) := by decide +kernel
theorem dX5_readPlace_74 : decode cX5_readPlace 74 = .ok (.getfield 21, 3) := by decide +kernel
theorem dX5_readPlace_77 : decode cX5_readPlace 77 = .ok (.getfield 214, 3) := by decide +kernel
theorem dX5_readPlace_80 : decode cX5_readPlace 80 = .ok (.iload_n 3, 1) := by decide +kernel
theorem dX5_readPlace_81 : decode cX5_readPlace 81 = .ok (.aaload, 1) := by decide +kernel
theorem dX5_readPlace_82 : decode cX5_readPlace 82 = .ok (.getfield 218, 3) := by decide +kernel
theorem dX5_readPlace_85 : decode cX5_readPlace 85 = .ok (.if_icmp .ge 7, 3) := by decide +kernel
theorem dX5_readPlace_88 : decode cX5_readPlace 88 = .ok (.iconst 1, 1) := by decide +kernel
theorem dX5_readPlace_89 : decode cX5_readPlace 89 = .ok (.goto 4, 3) := by decide +kernel
theorem dX5_readPlace_92 : decode cX5_readPlace 92 = .ok (.iconst 0, 1) := by decide +kernel
theorem dX5_readPlace_93 : decode cX5_readPlace 93 = .ok (.iconst 3, 1) := by decide +kernel
theorem dX5_readPlace_94 : decode cX5_readPlace 94 = .ok (.invokevirtual 79, 3) := by decide +kernel
theorem dX5_readPlace_97 : decode cX5_readPlace 97 = .ok (.aload_n 1, 1) := by decide +kernel
theorem dX5_readPlace_98 : decode cX5_readPlace 98 = .ok (.iload_n 3, 1) := by decide +kernel
theorem dX5_readPlace_99 : decode cX5_readPlace 99 = .ok (.iconst (-1), 1) := by decide +kernel
theorem dX5_readPlace_100 : decode cX5_readPlace 100 = .ok (.invokevirtual 319, 3) := by decide +kernel
theorem dX5_readPlace_103 : decode cX5_readPlace 103 = .ok (.goto 46, 3) := by decide +kernel
theorem dX5_readPlace_106 : decode cX5_readPlace 106 = .ok (.aload_n 0, 1) := by decide +kernel
theorem dX5_readPlace_107 : decode cX5_readPlace 107 = .ok (.iconst 0, 1) := by decide +kernel
theorem dX5_readPlace_108 : decode cX5_readPlace 108 = .ok (.aload_n 0, 1) := by decide +kernel
theorem dX5_readPlace_109 : decode cX5_readPlace 109 = .ok (.getfield 21, 3) := by decide +kernel
theorem dX5_readPlace_112 : decode cX5_readPlace 112 = .ok (.getfield 106, 3) := by decide +kernel
theorem dX5_readPlace_115 : decode cX5_readPlace 115 = .ok (.iconst 1, 1) := by decide +kernel
theorem dX5_readPlace_116 : decode cX5_readPlace 116 = .ok (.isub, 1) := by decide +kernel
theorem dX5_readPlace_117 : decode cX5_readPlace 117 = .ok (.invokevirtual 83, 3) := by decide +kernel
theorem dX5_readPlace_120 : decode cX5_readPlace 120 = .ok (.istore_n 3, 1) := by decide +kernel
theorem dX5_readPlace_121 : decode cX5_readPlace 121 = .ok (.aload_n 0, 1) := by decide +kernel
theorem dX5_readPlace_122 : decode cX5_readPlace 122 = .ok (.aload_n 0, 1) := by decide +kernel
theorem dX5_readPlace_123 : decode cX5_readPlace 123 = .ok (.getfield 21, 3) := by decide +kernel
theorem dX5_readPlace_126 : decode cX5_readPlace 126 = .ok (.iload_n 3, 1) := by decide +kernel
theorem dX5_readPlace_127 : decode cX5_readPlace 127 = .ok (.invokevirtual 323, 3) := by decide +kernel
theorem dX5_readPlace_130 : decode cX5_readPlace 130 = .ok (.iconst 4, 1) := by decide +kernel
theorem dX5_readPlace_131 : decode cX5_readPlace 131 = .ok (.if_icmp .ge 7, 3) := by decide +kernel
theorem dX5_readPlace_134 : decode cX5_readPlace 134 = .ok (.iconst 1, 1) := by decide +kernel
theorem dX5_readPlace_135 : decode cX5_readPlace 135 = .ok (.goto 4, 3) := by decide +kernel
theorem dX5_readPlace_138 : decode cX5_readPlace 138 = .ok (.iconst 0, 1) := by decide +kernel
theorem dX5_readPlace_139 : decode cX5_readPlace 139 = .ok (.iconst 3, 1) := by decide +kernel
theorem dX5_readPlace_140 : decode cX5_readPlace 140 = .ok (.invokevirtual 79, 3) := by decide +kernel
theorem dX5_readPlace_143 : decode cX5_readPlace 143 = .ok (.aload_n 1, 1) := by decide +kernel
theorem dX5_readPlace_144 : decode cX5_readPlace 144 = .ok (.iconst (-1), 1) := by decide +kernel
theorem dX5_readPlace_145 : decode cX5_readPlace 145 = .ok (.iload_n 3, 1) := by decide +kernel
theorem dX5_readPlace_146 : decode cX5_readPlace 146 = .ok (.invokevirtual 319, 3) := by decide +kernel
theorem dX5_readPlace_149 : decode cX5_readPlace 149 = .ok (.return_, 1) := by decide +kernel
theorem dX5_readLimit_0 : decode cX5_readLimit 0 = .ok (.aload_n 0, 1) := by decide +kernel
theorem dX5_readLimit_1 : decode cX5_readLimit 1 = .ok (.invokevirtual 326, 3) := by decide +kernel
theorem dX5_readLimit_4 : decode cX5_readLimit 4 = .ok (.istore_n 1, 1) := by decide +kernel
theorem dX5_readLimit_5 : decode cX5_readLimit 5 = .ok (.aload_n 0, 1) := by decide +kernel
theorem dX5_readLimit_6 : decode cX5_readLimit 6 = .ok (.getfield 21, 3) := by decide +kernel
theorem dX5_readLimit_9 : decode cX5_readLimit 9 = .ok (.getfield 235, 3) := by decide +kernel
theorem dX5_readLimit_12 : decode cX5_readLimit 12 = .ok (.iload_n 1, 1) := by decide +kernel
theorem dX5_readLimit_13 : decode cX5_readLimit 13 = .ok (.aaload, 1) := by decide +kernel
theorem dX5_readLimit_14 : decode cX5_readLimit 14 = .ok (.aload_n 0, 1) := by decide +kernel
theorem dX5_readLimit_15 : decode cX5_readLimit 15 = .ok (.iconst 0, 1) := by decide +kernel
theorem dX5_readLimit_16 : decode cX5_readLimit 16 = .ok (.sipush 200, 3) := by decide +kernel
theorem dX5_readLimit_19 : decode cX5_readLimit 19 = .ok (.invokevirtual 83, 3) := by decide +kernel
theorem dX5_readLimit_22 : decode cX5_readLimit 22 = .ok (.putfield 263, 3) := by decide +kernel
theorem dX5_readLimit_25 : decode cX5_readLimit 25 = .ok (.return_, 1) := by decide +kernel
theorem dX5_readBuy_0 : decode cX5_readBuy 0 = .ok (.aload_n 0, 1) := by decide +kernel
theorem dX5_readBuy_1 : decode cX5_readBuy 1 = .ok (.invokevirtual 326, 3) := by decide +kernel
theorem dX5_readBuy_4 : decode cX5_readBuy 4 = .ok (.istore_n 1, 1) := by decide +kernel
theorem dX5_readBuy_5 : decode cX5_readBuy 5 = .ok (.aload_n 0, 1) := by decide +kernel
theorem dX5_readBuy_6 : decode cX5_readBuy 6 = .ok (.invokevirtual 329, 3) := by decide +kernel
theorem dX5_readBuy_9 : decode cX5_readBuy 9 = .ok (.istore_n 2, 1) := by decide +kernel
theorem dX5_readBuy_10 : decode cX5_readBuy 10 = .ok (.aload_n 0, 1) := by decide +kernel
theorem dX5_readBuy_11 : decode cX5_readBuy 11 = .ok (.aload_n 0, 1) := by decide +kernel
theorem dX5_readBuy_12 : decode cX5_readBuy 12 = .ok (.getfield 21, 3) := by decide +kernel
theorem dX5_readBuy_15 : decode cX5_readBuy 15 = .ok (.iload_n 1, 1) := by decide +kernel
theorem dX5_readBuy_16 : decode cX5_readBuy 16 = .ok (.iload_n 2, 1) := by decide +kernel
theorem dX5_readBuy_17 : decode cX5_readBuy 17 = .ok (.invokevirtual 332, 3) := by decide +kernel
theorem dX5_readBuy_20 : decode cX5_readBuy 20 = .ok (.ifCond .ne 7, 3) := by decide +kernel
theorem dX5_readBuy_23 : decode cX5_readBuy 23 = .ok (.iconst 1, 1) := by decide +kernel
theorem dX5_readBuy_24 : decode cX5_readBuy 24 = .ok (.goto 4, 3) := by decide +kernel
theorem dX5_readBuy_27 : decode cX5_readBuy 27 = .ok (.iconst 0, 1) := by decide +kernel
theorem dX5_readBuy_28 : decode cX5_readBuy 28 = .ok (.iconst 3, 1) := by decide +kernel
theorem dX5_readBuy_29 : decode cX5_readBuy 29 = .ok (.invokevirtual 79, 3) := by decide +kernel
theorem dX5_readBuy_32 : decode cX5_readBuy 32 = .ok (.aload_n 0, 1) := by decide +kernel
theorem dX5_readBuy_33 : decode cX5_readBuy 33 = .ok (.getfield 21, 3) := by decide +kernel
theorem dX5_readBuy_36 : decode cX5_readBuy 36 = .ok (.iload_n 1, 1) := by decide +kernel
theorem dX5_readBuy_37 : decode cX5_readBuy 37 = .ok (.iload_n 2, 1) := by decide +kernel
theorem dX5_readBuy_38 : decode cX5_readBuy 38 = .ok (.invokevirtual 335, 3) := by decide +kernel
theorem dX5_readBuy_41 : decode cX5_readBuy 41 = .ok (.pop, 1) := by decide +kernel
theorem dX5_readBuy_42 : decode cX5_readBuy 42 = .ok (.return_, 1) := by decide +kernel
theorem dX5_readSell_0 : decode cX5_readSell 0 = .ok (.aload_n 0, 1) := by decide +kernel
theorem dX5_readSell_1 : decode cX5_readSell 1 = .ok (.invokevirtual 329, 3) := by decide +kernel
theorem dX5_readSell_4 : decode cX5_readSell 4 = .ok (.istore_n 1, 1) := by decide +kernel
theorem dX5_readSell_5 : decode cX5_readSell 5 = .ok (.aload_n 0, 1) := by decide +kernel
theorem dX5_readSell_6 : decode cX5_readSell 6 = .ok (.invokevirtual 338, 3) := by decide +kernel
theorem dX5_readSell_9 : decode cX5_readSell 9 = .ok (.istore_n 2, 1) := by decide +kernel
theorem dX5_readSell_10 : decode cX5_readSell 10 = .ok (.aload_n 0, 1) := by decide +kernel
theorem dX5_readSell_11 : decode cX5_readSell 11 = .ok (.aload_n 0, 1) := by decide +kernel
theorem dX5_readSell_12 : decode cX5_readSell 12 = .ok (.getfield 21, 3) := by decide +kernel
theorem dX5_readSell_15 : decode cX5_readSell 15 = .ok (.iload_n 1, 1) := by decide +kernel
theorem dX5_readSell_16 : decode cX5_readSell 16 = .ok (.iload_n 2, 1) := by decide +kernel
theorem dX5_readSell_17 : decode cX5_readSell 17 = .ok (.invokevirtual 341, 3) := by decide +kernel
theorem dX5_readSell_20 : decode cX5_readSell 20 = .ok (.ifCond .ne 7, 3) := by decide +kernel
theorem dX5_readSell_23 : decode cX5_readSell 23 = .ok (.iconst 1, 1) := by decide +kernel
theorem dX5_readSell_24 : decode cX5_readSell 24 = .ok (.goto 4, 3) := by decide +kernel
theorem dX5_readSell_27 : decode cX5_readSell 27 = .ok (.iconst 0, 1) := by decide +kernel
theorem dX5_readSell_28 : decode cX5_readSell 28 = .ok (.iconst 3, 1) := by decide +kernel
theorem dX5_readSell_29 : decode cX5_readSell 29 = .ok (.invokevirtual 79, 3) := by decide +kernel
theorem dX5_readSell_32 : decode cX5_readSell 32 = .ok (.aload_n 0, 1) := by decide +kernel
theorem dX5_readSell_33 : decode cX5_readSell 33 = .ok (.getfield 21, 3) := by decide +kernel
theorem dX5_readSell_36 : decode cX5_readSell 36 = .ok (.iload_n 1, 1) := by decide +kernel
theorem dX5_readSell_37 : decode cX5_readSell 37 = .ok (.iload_n 2, 1) := by decide +kernel
theorem dX5_readSell_38 : decode cX5_readSell 38 = .ok (.invokevirtual 344, 3) := by decide +kernel
theorem dX5_readSell_41 : decode cX5_readSell 41 = .ok (.pop, 1) := by decide +kernel
theorem dX5_readSell_42 : decode cX5_readSell 42 = .ok (.return_, 1) := by decide +kernel
theorem dX5_readReturn_0 : decode cX5_readReturn 0 = .ok (.aload_n 0, 1) := by decide +kernel
theorem dX5_readReturn_1 : decode cX5_readReturn 1 = .ok (.invokevirtual 329, 3) := by decide +kernel
theorem dX5_readReturn_4 : decode cX5_readReturn 4 = .ok (.istore_n 1, 1) := by decide +kernel
theorem dX5_readReturn_5 : decode cX5_readReturn 5 = .ok (.aload_n 0, 1) := by decide +kernel
theorem dX5_readReturn_6 : decode cX5_readReturn 6 = .ok (.aload_n 0, 1) := by decide +kernel
theorem dX5_readReturn_7 : decode cX5_readReturn 7 = .ok (.getfield 21, 3) := by decide +kernel
theorem dX5_readReturn_10 : decode cX5_readReturn 10 = .ok (.iload_n 1, 1) := by decide +kernel
theorem dX5_readReturn_11 : decode cX5_readReturn 11 = .ok (.invokevirtual 347, 3) := by decide +kernel
theorem dX5_readReturn_14 : decode cX5_readReturn 14 = .ok (.ifCond .ne 7, 3) := by decide +kernel
theorem dX5_readReturn_17 : decode cX5_readReturn 17 = .ok (.iconst 1, 1) := by decide +kernel
theorem dX5_readReturn_18 : decode cX5_readReturn 18 = .ok (.goto 4, 3) := by decide +kernel
theorem dX5_readReturn_21 : decode cX5_readReturn 21 = .ok (.iconst 0, 1) := by decide +kernel
theorem dX5_readReturn_22 : decode cX5_readReturn 22 = .ok (.iconst 3, 1) := by decide +kernel
theorem dX5_readReturn_23 : decode cX5_readReturn 23 = .ok (.invokevirtual 79, 3) := by decide +kernel
theorem dX5_readReturn_26 : decode cX5_readReturn 26 = .ok (.aload_n 0, 1) := by decide +kernel
theorem dX5_readReturn_27 : decode cX5_readReturn 27 = .ok (.getfield 21, 3) := by decide +kernel
theorem dX5_readReturn_30 : decode cX5_readReturn 30 = .ok (.iload_n 1, 1) := by decide +kernel
theorem dX5_readReturn_31 : decode cX5_readReturn 31 = .ok (.invokevirtual 350, 3) := by decide +kernel
theorem dX5_readReturn_34 : decode cX5_readReturn 34 = .ok (.pop, 1) := by decide +kernel
theorem dX5_readReturn_35 : decode cX5_readReturn 35 = .ok (.return_, 1) := by decide +kernel
theorem dX5_readGrant_0 : decode cX5_readGrant 0 = .ok (.aload_n 0, 1) := by decide +kernel
theorem dX5_readGrant_1 : decode cX5_readGrant 1 = .ok (.invokevirtual 329, 3) := by decide +kernel
theorem dX5_readGrant_4 : decode cX5_readGrant 4 = .ok (.istore_n 1, 1) := by decide +kernel
theorem dX5_readGrant_5 : decode cX5_readGrant 5 = .ok (.aload_n 0, 1) := by decide +kernel
theorem dX5_readGrant_6 : decode cX5_readGrant 6 = .ok (.aload_n 0, 1) := by decide +kernel
theorem dX5_readGrant_7 : decode cX5_readGrant 7 = .ok (.getfield 21, 3) := by decide +kernel
theorem dX5_readGrant_10 : decode cX5_readGrant 10 = .ok (.iload_n 1, 1) := by decide +kernel
theorem dX5_readGrant_11 : decode cX5_readGrant 11 = .ok (.invokevirtual 353, 3) := by decide +kernel
theorem dX5_readGrant_14 : decode cX5_readGrant 14 = .ok (.ifCond .ne 7, 3) := by decide +kernel
theorem dX5_readGrant_17 : decode cX5_readGrant 17 = .ok (.iconst 1, 1) := by decide +kernel
theorem dX5_readGrant_18 : decode cX5_readGrant 18 = .ok (.goto 4, 3) := by decide +kernel
theorem dX5_readGrant_21 : decode cX5_readGrant 21 = .ok (.iconst 0, 1) := by decide +kernel
theorem dX5_readGrant_22 : decode cX5_readGrant 22 = .ok (.iconst 3, 1) := by decide +kernel
theorem dX5_readGrant_23 : decode cX5_readGrant 23 = .ok (.invokevirtual 79, 3) := by decide +kernel
theorem dX5_readGrant_26 : decode cX5_readGrant 26 = .ok (.aload_n 0, 1) := by decide +kernel
theorem dX5_readGrant_27 : decode cX5_readGrant 27 = .ok (.getfield 21, 3) := by decide +kernel
theorem dX5_readGrant_30 : decode cX5_readGrant 30 = .ok (.iload_n 1, 1) := by decide +kernel
theorem dX5_readGrant_31 : decode cX5_readGrant 31 = .ok (.invokevirtual 356, 3) := by decide +kernel
theorem dX5_readGrant_34 : decode cX5_readGrant 34 = .ok (.pop, 1) := by decide +kernel
theorem dX5_readGrant_35 : decode cX5_readGrant 35 = .ok (.return_, 1) := by decide +kernel
theorem dX5_readRename_0 : decode cX5_readRename 0 = .ok (.aload_n 0, 1) := by decide +kernel
theorem dX5_readRename_1 : decode cX5_readRename 1 = .ok (.invokevirtual 329, 3) := by decide +kernel
theorem dX5_readRename_4 : decode cX5_readRename 4 = .ok (.istore_n 1, 1) := by decide +kernel
theorem dX5_readRename_5 : decode cX5_readRename 5 = .ok (.aload_n 0, 1) := by decide +kernel
theorem dX5_readRename_6 : decode cX5_readRename 6 = .ok (.invokevirtual 239, 3) := by decide +kernel
theorem dX5_readRename_9 : decode cX5_readRename 9 = .ok (.istore_n 2, 1) := by decide +kernel
theorem dX5_readRename_10 : decode cX5_readRename 10 = .ok (.aload_n 0, 1) := by decide +kernel
theorem dX5_readRename_11 : decode cX5_readRename 11 = .ok (.aload_n 0, 1) := by decide +kernel
theorem dX5_readRename_12 : decode cX5_readRename 12 = .ok (.getfield 21, 3) := by decide +kernel
theorem dX5_readRename_15 : decode cX5_readRename 15 = .ok (.iload_n 2, 1) := by decide +kernel
theorem dX5_readRename_16 : decode cX5_readRename 16 = .ok (.iload_n 1, 1) := by decide +kernel
theorem dX5_readRename_17 : decode cX5_readRename 17 = .ok (.invokevirtual 287, 3) := by decide +kernel
theorem dX5_readRename_20 : decode cX5_readRename 20 = .ok (.ifCond .ne 7, 3) := by decide +kernel
theorem dX5_readRename_23 : decode cX5_readRename 23 = .ok (.iconst 1, 1) := by decide +kernel
theorem dX5_readRename_24 : decode cX5_readRename 24 = .ok (.goto 4, 3) := by decide +kernel
theorem dX5_readRename_27 : decode cX5_readRename 27 = .ok (.iconst 0, 1) := by decide +kernel
theorem dX5_readRename_28 : decode cX5_readRename 28 = .ok (.iconst 3, 1) := by decide +kernel
theorem dX5_readRename_29 : decode cX5_readRename 29 = .ok (.invokevirtual 79, 3) := by decide +kernel
theorem dX5_readRename_32 : decode cX5_readRename 32 = .ok (.aload_n 0, 1) := by decide +kernel
theorem dX5_readRename_33 : decode cX5_readRename 33 = .ok (.getfield 21, 3) := by decide +kernel
theorem dX5_readRename_36 : decode cX5_readRename 36 = .ok (.getfield 280, 3) := by decide +kernel
theorem dX5_readRename_39 : decode cX5_readRename 39 = .ok (.iload_n 1, 1) := by decide +kernel
theorem dX5_readRename_40 : decode cX5_readRename 40 = .ok (.aaload, 1) := by decide +kernel
theorem dX5_readRename_41 : decode cX5_readRename 41 = .ok (.iload_n 2, 1) := by decide +kernel
theorem dX5_readRename_42 : decode cX5_readRename 42 = .ok (.putfield 284, 3) := by decide +kernel
theorem dX5_readRename_45 : decode cX5_readRename 45 = .ok (.return_, 1) := by decide +kernel
theorem dX5_readSwap_0 : decode cX5_readSwap 0 = .ok (.aload_n 0, 1) := by decide +kernel
theorem dX5_readSwap_1 : decode cX5_readSwap 1 = .ok (.invokevirtual 329, 3) := by decide +kernel
theorem dX5_readSwap_4 : decode cX5_readSwap 4 = .ok (.istore_n 1, 1) := by decide +kernel
theorem dX5_readSwap_5 : decode cX5_readSwap 5 = .ok (.aload_n 0, 1) := by decide +kernel
theorem dX5_readSwap_6 : decode cX5_readSwap 6 = .ok (.getfield 21, 3) := by decide +kernel
theorem dX5_readSwap_9 : decode cX5_readSwap 9 = .ok (.getfield 280, 3) := by decide +kernel
theorem dX5_readSwap_12 : decode cX5_readSwap 12 = .ok (.iload_n 1, 1) := by decide +kernel
theorem dX5_readSwap_13 : decode cX5_readSwap 13 = .ok (.aaload, 1) := by decide +kernel
theorem dX5_readSwap_14 : decode cX5_readSwap 14 = .ok (.getfield 359, 3) := by decide +kernel
theorem dX5_readSwap_17 : decode cX5_readSwap 17 = .ok (.istore_n 2, 1) := by decide +kernel
theorem dX5_readSwap_18 : decode cX5_readSwap 18 = .ok (.aload_n 0, 1) := by decide +kernel
theorem dX5_readSwap_19 : decode cX5_readSwap 19 = .ok (.iload_n 2, 1) := by decide +kernel
theorem dX5_readSwap_20 : decode cX5_readSwap 20 = .ok (.iconst (-1), 1) := by decide +kernel
theorem dX5_readSwap_21 : decode cX5_readSwap 21 = .ok (.if_icmp .eq 7, 3) := by decide +kernel
theorem dX5_readSwap_24 : decode cX5_readSwap 24 = .ok (.iconst 1, 1) := by decide +kernel
theorem dX5_readSwap_25 : decode cX5_readSwap 25 = .ok (.goto 4, 3) := by decide +kernel
theorem dX5_readSwap_28 : decode cX5_readSwap 28 = .ok (.iconst 0, 1) := by decide +kernel
theorem dX5_readSwap_29 : decode cX5_readSwap 29 = .ok (.iconst 3, 1) := by decide +kernel
theorem dX5_readSwap_30 : decode cX5_readSwap 30 = .ok (.invokevirtual 79, 3) := by decide +kernel
theorem dX5_readSwap_33 : decode cX5_readSwap 33 = .ok (.aload_n 0, 1) := by decide +kernel
theorem dX5_readSwap_34 : decode cX5_readSwap 34 = .ok (.invokevirtual 329, 3) := by decide +kernel
theorem dX5_readSwap_37 : decode cX5_readSwap 37 = .ok (.istore_n 3, 1) := by decide +kernel
theorem dX5_readSwap_38 : decode cX5_readSwap 38 = .ok (.aload_n 0, 1) := by decide +kernel
theorem dX5_readSwap_39 : decode cX5_readSwap 39 = .ok (.getfield 21, 3) := by decide +kernel
theorem dX5_readSwap_42 : decode cX5_readSwap 42 = .ok (.getfield 280, 3) := by decide +kernel
theorem dX5_readSwap_45 : decode cX5_readSwap 45 = .ok (.iload_n 3, 1) := by decide +kernel
theorem dX5_readSwap_46 : decode cX5_readSwap 46 = .ok (.aaload, 1) := by decide +kernel
theorem dX5_readSwap_47 : decode cX5_readSwap 47 = .ok (.getfield 359, 3) := by decide +kernel
theorem dX5_readSwap_50 : decode cX5_readSwap 50 = .ok (.istore 4, 2) := by decide +kernel
theorem dX5_readSwap_52 : decode cX5_readSwap 52 = .ok (.aload_n 0, 1) := by decide +kernel
theorem dX5_readSwap_53 : decode cX5_readSwap 53 = .ok (.iload 4, 2) := by decide +kernel
theorem dX5_readSwap_55 : decode cX5_readSwap 55 = .ok (.iconst (-1), 1) := by decide +kernel
theorem dX5_readSwap_56 : decode cX5_readSwap 56 = .ok (.if_icmp .eq 12, 3) := by decide +kernel
theorem dX5_readSwap_59 : decode cX5_readSwap 59 = .ok (.iload_n 3, 1) := by decide +kernel
theorem dX5_readSwap_60 : decode cX5_readSwap 60 = .ok (.iload_n 1, 1) := by decide +kernel
theorem dX5_readSwap_61 : decode cX5_readSwap 61 = .ok (.if_icmp .eq 7, 3) := by decide +kernel
theorem dX5_readSwap_64 : decode cX5_readSwap 64 = .ok (.iconst 1, 1) := by decide +kernel
theorem dX5_readSwap_65 : decode cX5_readSwap 65 = .ok (.goto 4, 3) := by decide +kernel
theorem dX5_readSwap_68 : decode cX5_readSwap 68 = .ok (.iconst 0, 1) := by decide +kernel
theorem dX5_readSwap_69 : decode cX5_readSwap 69 = .ok (.iconst 3, 1) := by decide +kernel
theorem dX5_readSwap_70 : decode cX5_readSwap 70 = .ok (.invokevirtual 79, 3) := by decide +kernel
theorem dX5_readSwap_73 : decode cX5_readSwap 73 = .ok (.aload_n 0, 1) := by decide +kernel
theorem dX5_readSwap_74 : decode cX5_readSwap 74 = .ok (.getfield 21, 3) := by decide +kernel
theorem dX5_readSwap_77 : decode cX5_readSwap 77 = .ok (.getfield 280, 3) := by decide +kernel
theorem dX5_readSwap_80 : decode cX5_readSwap 80 = .ok (.iload_n 1, 1) := by decide +kernel
theorem dX5_readSwap_81 : decode cX5_readSwap 81 = .ok (.aaload, 1) := by decide +kernel
theorem dX5_readSwap_82 : decode cX5_readSwap 82 = .ok (.iconst (-1), 1) := by decide +kernel
theorem dX5_readSwap_83 : decode cX5_readSwap 83 = .ok (.iload 4, 2) := by decide +kernel
theorem dX5_readSwap_85 : decode cX5_readSwap 85 = .ok (.invokevirtual 319, 3) := by decide +kernel
theorem dX5_readSwap_88 : decode cX5_readSwap 88 = .ok (.aload_n 0, 1) := by decide +kernel
theorem dX5_readSwap_89 : decode cX5_readSwap 89 = .ok (.getfield 21, 3) := by decide +kernel
theorem dX5_readSwap_92 : decode cX5_readSwap 92 = .ok (.getfield 280, 3) := by decide +kernel
theorem dX5_readSwap_95 : decode cX5_readSwap 95 = .ok (.iload_n 3, 1) := by decide +kernel
theorem dX5_readSwap_96 : decode cX5_readSwap 96 = .ok (.aaload, 1) := by decide +kernel
theorem dX5_readSwap_97 : decode cX5_readSwap 97 = .ok (.iconst (-1), 1) := by decide +kernel
theorem dX5_readSwap_98 : decode cX5_readSwap 98 = .ok (.iload_n 2, 1) := by decide +kernel
theorem dX5_readSwap_99 : decode cX5_readSwap 99 = .ok (.invokevirtual 319, 3) := by decide +kernel
theorem dX5_readSwap_102 : decode cX5_readSwap 102 = .ok (.return_, 1) := by decide +kernel
theorem dX5_readGift_0 : decode cX5_readGift 0 = .ok (.aload_n 0, 1) := by decide +kernel
theorem dX5_readGift_1 : decode cX5_readGift 1 = .ok (.invokevirtual 329, 3) := by decide +kernel
theorem dX5_readGift_4 : decode cX5_readGift 4 = .ok (.istore_n 1, 1) := by decide +kernel
theorem dX5_readGift_5 : decode cX5_readGift 5 = .ok (.aload_n 0, 1) := by decide +kernel
theorem dX5_readGift_6 : decode cX5_readGift 6 = .ok (.getfield 21, 3) := by decide +kernel
theorem dX5_readGift_9 : decode cX5_readGift 9 = .ok (.getfield 280, 3) := by decide +kernel
theorem dX5_readGift_12 : decode cX5_readGift 12 = .ok (.iload_n 1, 1) := by decide +kernel
theorem dX5_readGift_13 : decode cX5_readGift 13 = .ok (.aaload, 1) := by decide +kernel
theorem dX5_readGift_14 : decode cX5_readGift 14 = .ok (.getfield 359, 3) := by decide +kernel
theorem dX5_readGift_17 : decode cX5_readGift 17 = .ok (.istore_n 2, 1) := by decide +kernel
theorem dX5_readGift_18 : decode cX5_readGift 18 = .ok (.aload_n 0, 1) := by decide +kernel
theorem dX5_readGift_19 : decode cX5_readGift 19 = .ok (.iload_n 2, 1) := by decide +kernel
theorem dX5_readGift_20 : decode cX5_readGift 20 = .ok (.iconst (-1), 1) := by decide +kernel
theorem dX5_readGift_21 : decode cX5_readGift 21 = .ok (.if_icmp .eq 7, 3) := by decide +kernel
theorem dX5_readGift_24 : decode cX5_readGift 24 = .ok (.iconst 1, 1) := by decide +kernel
theorem dX5_readGift_25 : decode cX5_readGift 25 = .ok (.goto 4, 3) := by decide +kernel
theorem dX5_readGift_28 : decode cX5_readGift 28 = .ok (.iconst 0, 1) := by decide +kernel
theorem dX5_readGift_29 : decode cX5_readGift 29 = .ok (.iconst 3, 1) := by decide +kernel
theorem dX5_readGift_30 : decode cX5_readGift 30 = .ok (.invokevirtual 79, 3) := by decide +kernel
theorem dX5_readGift_33 : decode cX5_readGift 33 = .ok (.aload_n 0, 1) := by decide +kernel
theorem dX5_readGift_34 : decode cX5_readGift 34 = .ok (.invokevirtual 326, 3) := by decide +kernel
theorem dX5_readGift_37 : decode cX5_readGift 37 = .ok (.istore_n 3, 1) := by decide +kernel
theorem dX5_readGift_38 : decode cX5_readGift 38 = .ok (.aload_n 0, 1) := by decide +kernel
theorem dX5_readGift_39 : decode cX5_readGift 39 = .ok (.iload_n 3, 1) := by decide +kernel
theorem dX5_readGift_40 : decode cX5_readGift 40 = .ok (.iload_n 2, 1) := by decide +kernel
theorem dX5_readGift_41 : decode cX5_readGift 41 = .ok (.if_icmp .eq 19, 3) := by decide +kernel
theorem dX5_readGift_44 : decode cX5_readGift 44 = .ok (.aload_n 0, 1) := by decide +kernel
theorem dX5_readGift_45 : decode cX5_readGift 45 = .ok (.getfield 21, 3) := by decide +kernel
theorem dX5_readGift_48 : decode cX5_readGift 48 = .ok (.iload_n 3, 1) := by decide +kernel
theorem dX5_readGift_49 : decode cX5_readGift 49 = .ok (.invokevirtual 323, 3) := by decide +kernel
theorem dX5_readGift_52 : decode cX5_readGift 52 = .ok (.iconst 4, 1) := by decide +kernel
theorem dX5_readGift_53 : decode cX5_readGift 53 = .ok (.if_icmp .ge 7, 3) := by decide +kernel
theorem dX5_readGift_56 : decode cX5_readGift 56 = .ok (.iconst 1, 1) := by decide +kernel
theorem dX5_readGift_57 : decode cX5_readGift 57 = .ok (.goto 4, 3) := by decide +kernel
theorem dX5_readGift_60 : decode cX5_readGift 60 = .ok (.iconst 0, 1) := by decide +kernel
theorem dX5_readGift_61 : decode cX5_readGift 61 = .ok (.iconst 3, 1) := by decide +kernel
theorem dX5_readGift_62 : decode cX5_readGift 62 = .ok (.invokevirtual 79, 3) := by decide +kernel
theorem dX5_readGift_65 : decode cX5_readGift 65 = .ok (.aload_n 0, 1) := by decide +kernel
theorem dX5_readGift_66 : decode cX5_readGift 66 = .ok (.getfield 21, 3) := by decide +kernel
theorem dX5_readGift_69 : decode cX5_readGift 69 = .ok (.getfield 280, 3) := by decide +kernel
theorem dX5_readGift_72 : decode cX5_readGift 72 = .ok (.iload_n 1, 1) := by decide +kernel
theorem dX5_readGift_73 : decode cX5_readGift 73 = .ok (.aaload, 1) := by decide +kernel
theorem dX5_readGift_74 : decode cX5_readGift 74 = .ok (.iconst (-1), 1) := by decide +kernel
theorem dX5_readGift_75 : decode cX5_readGift 75 = .ok (.iload_n 3, 1) := by decide +kernel
theorem dX5_readGift_76 : decode cX5_readGift 76 = .ok (.invokevirtual 319, 3) := by decide +kernel
theorem dX5_readGift_79 : decode cX5_readGift 79 = .ok (.return_, 1) := by decide +kernel
theorem dX5_readSale_0 : decode cX5_readSale 0 = .ok (.aload_n 0, 1) := by decide +kernel
theorem dX5_readSale_1 : decode cX5_readSale 1 = .ok (.invokevirtual 338, 3) := by decide +kernel
theorem dX5_readSale_4 : decode cX5_readSale 4 = .ok (.istore_n 1, 1) := by decide +kernel
theorem dX5_readSale_5 : decode cX5_readSale 5 = .ok (.aload_n 0, 1) := by decide +kernel
theorem dX5_readSale_6 : decode cX5_readSale 6 = .ok (.getfield 21, 3) := by decide +kernel
theorem dX5_readSale_9 : decode cX5_readSale 9 = .ok (.getfield 214, 3) := by decide +kernel
theorem dX5_readSale_12 : decode cX5_readSale 12 = .ok (.iload_n 1, 1) := by decide +kernel
theorem dX5_readSale_13 : decode cX5_readSale 13 = .ok (.aaload, 1) := by decide +kernel
theorem dX5_readSale_14 : decode cX5_readSale 14 = .ok (.aload_n 0, 1) := by decide +kernel
theorem dX5_readSale_15 : decode cX5_readSale 15 = .ok (.iconst 0, 1) := by decide +kernel
theorem dX5_readSale_16 : decode cX5_readSale 16 = .ok (.bipush 100, 2) := by decide +kernel
theorem dX5_readSale_18 : decode cX5_readSale 18 = .ok (.invokevirtual 83, 3) := by decide +kernel
theorem dX5_readSale_21 : decode cX5_readSale 21 = .ok (.putfield 229, 3) := by decide +kernel
theorem dX5_readSale_24 : decode cX5_readSale 24 = .ok (.return_, 1) := by decide +kernel
theorem dX5_readTax_0 : decode cX5_readTax 0 = .ok (.aload_n 0, 1) := by decide +kernel
theorem dX5_readTax_1 : decode cX5_readTax 1 = .ok (.invokevirtual 174, 3) := by decide +kernel
theorem dX5_readTax_4 : decode cX5_readTax 4 = .ok (.istore_n 1, 1) := by decide +kernel
theorem dX5_readTax_5 : decode cX5_readTax 5 = .ok (.aload_n 0, 1) := by decide +kernel
theorem dX5_readTax_6 : decode cX5_readTax 6 = .ok (.getfield 21, 3) := by decide +kernel
theorem dX5_readTax_9 : decode cX5_readTax 9 = .ok (.aload_n 0, 1) := by decide +kernel
theorem dX5_readTax_10 : decode cX5_readTax 10 = .ok (.iconst 0, 1) := by decide +kernel
theorem dX5_readTax_11 : decode cX5_readTax 11 = .ok (.bipush 50, 2) := by decide +kernel
theorem dX5_readTax_13 : decode cX5_readTax 13 = .ok (.invokevirtual 83, 3) := by decide +kernel
theorem dX5_readTax_16 : decode cX5_readTax 16 = .ok (.putfield 362, 3) := by decide +kernel
theorem dX5_readTax_19 : decode cX5_readTax 19 = .ok (.aload_n 0, 1) := by decide +kernel
theorem dX5_readTax_20 : decode cX5_readTax 20 = .ok (.getfield 21, 3) := by decide +kernel
theorem dX5_readTax_23 : decode cX5_readTax 23 = .ok (.iload_n 1, 1) := by decide +kernel
theorem dX5_readTax_24 : decode cX5_readTax 24 = .ok (.putfield 365, 3) := by decide +kernel
theorem dX5_readTax_27 : decode cX5_readTax 27 = .ok (.return_, 1) := by decide +kernel
theorem dX5_readDaysToSimulate_0 : decode cX5_readDaysToSimulate 0 = .ok (.aload_n 0, 1) := by decide +kernel
theorem dX5_readDaysToSimulate_1 : decode cX5_readDaysToSimulate 1 = .ok (.iconst 1, 1) := by decide +kernel
theorem dX5_readDaysToSimulate_2 : decode cX5_readDaysToSimulate 2 = .ok (.sipush 300, 3) := by decide +kernel
theorem dX5_readDaysToSimulate_5 : decode cX5_readDaysToSimulate 5 = .ok (.invokevirtual 83, 3) := by decide +kernel
theorem dX5_readDaysToSimulate_8 : decode cX5_readDaysToSimulate 8 = .ok (.istore_n 1, 1) := by decide +kernel
theorem dX5_readDaysToSimulate_9 : decode cX5_readDaysToSimulate 9 = .ok (.aload_n 0, 1) := by decide +kernel
theorem dX5_readDaysToSimulate_10 : decode cX5_readDaysToSimulate 10 = .ok (.aload_n 0, 1) := by decide +kernel
theorem dX5_readDaysToSimulate_11 : decode cX5_readDaysToSimulate 11 = .ok (.getfield 42, 3) := by decide +kernel
theorem dX5_readDaysToSimulate_14 : decode cX5_readDaysToSimulate 14 = .ok (.iload_n 1, 1) := by decide +kernel
theorem dX5_readDaysToSimulate_15 : decode cX5_readDaysToSimulate 15 = .ok (.iadd, 1) := by decide +kernel
theorem dX5_readDaysToSimulate_16 : decode cX5_readDaysToSimulate 16 = .ok (.sipush 2000, 3) := by decide +kernel
theorem dX5_readDaysToSimulate_19 : decode cX5_readDaysToSimulate 19 = .ok (.if_icmp .gt 7, 3) := by decide +kernel
theorem dX5_readDaysToSimulate_22 : decode cX5_readDaysToSimulate 22 = .ok (.iconst 1, 1) := by decide +kernel
theorem dX5_readDaysToSimulate_23 : decode cX5_readDaysToSimulate 23 = .ok (.goto 4, 3) := by decide +kernel
theorem dX5_readDaysToSimulate_26 : decode cX5_readDaysToSimulate 26 = .ok (.iconst 0, 1) := by decide +kernel
theorem dX5_readDaysToSimulate_27 : decode cX5_readDaysToSimulate 27 = .ok (.iconst 4, 1) := by decide +kernel
theorem dX5_readDaysToSimulate_28 : decode cX5_readDaysToSimulate 28 = .ok (.invokevirtual 79, 3) := by decide +kernel
theorem dX5_readDaysToSimulate_31 : decode cX5_readDaysToSimulate 31 = .ok (.aload_n 0, 1) := by decide +kernel
theorem dX5_readDaysToSimulate_32 : decode cX5_readDaysToSimulate 32 = .ok (.dup, 1) := by decide +kernel
theorem dX5_readDaysToSimulate_33 : decode cX5_readDaysToSimulate 33 = .ok (.getfield 42, 3) := by decide +kernel
theorem dX5_readDaysToSimulate_36 : decode cX5_readDaysToSimulate 36 = .ok (.iload_n 1, 1) := by decide +kernel
theorem dX5_readDaysToSimulate_37 : decode cX5_readDaysToSimulate 37 = .ok (.iadd, 1) := by decide +kernel
theorem dX5_readDaysToSimulate_38 : decode cX5_readDaysToSimulate 38 = .ok (.putfield 42, 3) := by decide +kernel
theorem dX5_readDaysToSimulate_41 : decode cX5_readDaysToSimulate 41 = .ok (.iload_n 1, 1) := by decide +kernel
theorem dX5_readDaysToSimulate_42 : decode cX5_readDaysToSimulate 42 = .ok (.ireturn, 1) := by decide +kernel
theorem dX5_openRepeat_0 : decode cX5_openRepeat 0 = .ok (.aload_n 0, 1) := by decide +kernel
theorem dX5_openRepeat_1 : decode cX5_openRepeat 1 = .ok (.aload_n 0, 1) := by decide +kernel
theorem dX5_openRepeat_2 : decode cX5_openRepeat 2 = .ok (.getfield 39, 3) := by decide +kernel
theorem dX5_openRepeat_5 : decode cX5_openRepeat 5 = .ok (.iconst 3, 1) := by decide +kernel
theorem dX5_openRepeat_6 : decode cX5_openRepeat 6 = .ok (.if_icmp .ge 7, 3) := by decide +kernel
theorem dX5_openRepeat_9 : decode cX5_openRepeat 9 = .ok (.iconst 1, 1) := by decide +kernel
theorem dX5_openRepeat_10 : decode cX5_openRepeat 10 = .ok (.goto 4, 3) := by decide +kernel
theorem dX5_openRepeat_13 : decode cX5_openRepeat 13 = .ok (.iconst 0, 1) := by decide +kernel
theorem dX5_openRepeat_14 : decode cX5_openRepeat 14 = .ok (.iconst 4, 1) := by decide +kernel
theorem dX5_openRepeat_15 : decode cX5_openRepeat 15 = .ok (.invokevirtual 79, 3) := by decide +kernel
theorem dX5_openRepeat_18 : decode cX5_openRepeat 18 = .ok (.aload_n 0, 1) := by decide +kernel
theorem dX5_openRepeat_19 : decode cX5_openRepeat 19 = .ok (.iconst 1, 1) := by decide +kernel
theorem dX5_openRepeat_20 : decode cX5_openRepeat 20 = .ok (.iconst 5, 1) := by decide +kernel
theorem dX5_openRepeat_21 : decode cX5_openRepeat 21 = .ok (.invokevirtual 83, 3) := by decide +kernel
theorem dX5_openRepeat_24 : decode cX5_openRepeat 24 = .ok (.istore_n 1, 1) := by decide +kernel
theorem dX5_openRepeat_25 : decode cX5_openRepeat 25 = .ok (.aload_n 0, 1) := by decide +kernel
theorem dX5_openRepeat_26 : decode cX5_openRepeat 26 = .ok (.getfield 12, 3) := by decide +kernel
theorem dX5_openRepeat_29 : decode cX5_openRepeat 29 = .ok (.invokevirtual 70, 3) := by decide +kernel
theorem dX5_openRepeat_32 : decode cX5_openRepeat 32 = .ok (.aload_n 0, 1) := by decide +kernel
theorem dX5_openRepeat_33 : decode cX5_openRepeat 33 = .ok (.aload_n 0, 1) := by decide +kernel
theorem dX5_openRepeat_34 : decode cX5_openRepeat 34 = .ok (.getfield 12, 3) := by decide +kernel
theorem dX5_openRepeat_37 : decode cX5_openRepeat 37 = .ok (.getfield 88, 3) := by decide +kernel
theorem dX5_openRepeat_40 : decode cX5_openRepeat 40 = .ok (.getstatic 368, 3) := by decide +kernel
theorem dX5_openRepeat_43 : decode cX5_openRepeat 43 = .ok (.if_acmp .ne 7, 3) := by decide +kernel
theorem dX5_openRepeat_46 : decode cX5_openRepeat 46 = .ok (.iconst 1, 1) := by decide +kernel
theorem dX5_openRepeat_47 : decode cX5_openRepeat 47 = .ok (.goto 4, 3) := by decide +kernel
theorem dX5_openRepeat_50 : decode cX5_openRepeat 50 = .ok (.iconst 0, 1) := by decide +kernel
theorem dX5_openRepeat_51 : decode cX5_openRepeat 51 = .ok (.iconst 1, 1) := by decide +kernel
theorem dX5_openRepeat_52 : decode cX5_openRepeat 52 = .ok (.invokevirtual 79, 3) := by decide +kernel
theorem dX5_openRepeat_55 : decode cX5_openRepeat 55 = .ok (.aload_n 0, 1) := by decide +kernel
theorem dX5_openRepeat_56 : decode cX5_openRepeat 56 = .ok (.getfield 33, 3) := by decide +kernel
theorem dX5_openRepeat_59 : decode cX5_openRepeat 59 = .ok (.aload_n 0, 1) := by decide +kernel
theorem dX5_openRepeat_60 : decode cX5_openRepeat 60 = .ok (.getfield 39, 3) := by decide +kernel
theorem dX5_openRepeat_63 : decode cX5_openRepeat 63 = .ok (.iload_n 1, 1) := by decide +kernel
theorem dX5_openRepeat_64 : decode cX5_openRepeat 64 = .ok (.iconst 1, 1) := by decide +kernel
theorem dX5_openRepeat_65 : decode cX5_openRepeat 65 = .ok (.isub, 1) := by decide +kernel
theorem dX5_openRepeat_66 : decode cX5_openRepeat 66 = .ok (.iastore, 1) := by decide +kernel
theorem dX5_openRepeat_67 : decode cX5_openRepeat 67 = .ok (.aload_n 0, 1) := by decide +kernel
theorem dX5_openRepeat_68 : decode cX5_openRepeat 68 = .ok (.getfield 29, 3) := by decide +kernel
theorem dX5_openRepeat_71 : decode cX5_openRepeat 71 = .ok (.aload_n 0, 1) := by decide +kernel
theorem dX5_openRepeat_72 : decode cX5_openRepeat 72 = .ok (.getfield 39, 3) := by decide +kernel
theorem dX5_openRepeat_75 : decode cX5_openRepeat 75 = .ok (.aload_n 0, 1) := by decide +kernel
theorem dX5_openRepeat_76 : decode cX5_openRepeat 76 = .ok (.getfield 12, 3) := by decide +kernel
theorem dX5_openRepeat_79 : decode cX5_openRepeat 79 = .ok (.getfield 97, 3) := by decide +kernel
theorem dX5_openRepeat_82 : decode cX5_openRepeat 82 = .ok (.iastore, 1) := by decide +kernel
theorem dX5_openRepeat_83 : decode cX5_openRepeat 83 = .ok (.aload_n 0, 1) := by decide +kernel
theorem dX5_openRepeat_84 : decode cX5_openRepeat 84 = .ok (.dup, 1) := by decide +kernel
theorem dX5_openRepeat_85 : decode cX5_openRepeat 85 = .ok (.getfield 39, 3) := by decide +kernel
theorem dX5_openRepeat_88 : decode cX5_openRepeat 88 = .ok (.iconst 1, 1) := by decide +kernel
theorem dX5_openRepeat_89 : decode cX5_openRepeat 89 = .ok (.iadd, 1) := by decide +kernel
theorem dX5_openRepeat_90 : decode cX5_openRepeat 90 = .ok (.putfield 39, 3) := by decide +kernel
theorem dX5_openRepeat_93 : decode cX5_openRepeat 93 = .ok (.return_, 1) := by decide +kernel
theorem dX6_init_0 : decode cX6_init 0 = .ok (.aload_n 0, 1) := by decide +kernel
theorem dX6_init_1 : decode cX6_init 1 = .ok (.invokespecial 1, 3) := by decide +kernel
theorem dX6_init_4 : decode cX6_init 4 = .ok (.return_, 1) := by decide +kernel
theorem dX6_copyFrom_0 : decode cX6_copyFrom 0 = .ok (.aload_n 0, 1) := by decide +kernel
theorem dX6_copyFrom_1 : decode cX6_copyFrom 1 = .ok (.aload_n 1, 1) := by decide +kernel
theorem dX6_copyFrom_2 : decode cX6_copyFrom 2 = .ok (.getfield 7, 3) := by decide +kernel
theorem dX6_copyFrom_5 : decode cX6_copyFrom 5 = .ok (.putfield 7, 3) := by decide +kernel
theorem dX6_copyFrom_8 : decode cX6_copyFrom 8 = .ok (.aload_n 0, 1) := by decide +kernel
theorem dX6_copyFrom_9 : decode cX6_copyFrom 9 = .ok (.aload_n 1, 1) := by decide +kernel
theorem dX6_copyFrom_10 : decode cX6_copyFrom 10 = .ok (.getfield 13, 3) := by decide +kernel
theorem dX6_copyFrom_13 : decode cX6_copyFrom 13 = .ok (.putfield 13, 3) := by decide +kernel
theorem dX6_copyFrom_16 : decode cX6_copyFrom 16 = .ok (.aload_n 0, 1) := by decide +kernel
theorem dX6_copyFrom_17 : decode cX6_copyFrom 17 = .ok (.aload_n 1, 1) := by decide +kernel
theorem dX6_copyFrom_18 : decode cX6_copyFrom 18 = .ok (.getfield 16, 3) := by decide +kernel
theorem dX6_copyFrom_21 : decode cX6_copyFrom 21 = .ok (.putfield 16, 3) := by decide +kernel
theorem dX6_copyFrom_24 : decode cX6_copyFrom 24 = .ok (.aload_n 0, 1) := by decide +kernel
theorem dX6_copyFrom_25 : decode cX6_copyFrom 25 = .ok (.aload_n 1, 1) := by decide +kernel
theorem dX6_copyFrom_26 : decode cX6_copyFrom 26 = .ok (.getfield 19, 3) := by decide +kernel
theorem dX6_copyFrom_29 : decode cX6_copyFrom 29 = .ok (.putfield 19, 3) := by decide +kernel
theorem dX6_copyFrom_32 : decode cX6_copyFrom 32 = .ok (.return_, 1) := by decide +kernel
theorem dX7_init_0 : decode cX7_init 0 = .ok (.aload_n 0, 1) := by decide +kernel
theorem dX7_init_1 : decode cX7_init 1 = .ok (.invokespecial 3, 3) := by decide +kernel
theorem dX7_init_4 : decode cX7_init 4 = .ok (.aload_n 0, 1) := by decide +kernel
theorem dX7_init_5 : decode cX7_init 5 = .ok (.sipush 500, 3) := by decide +kernel
theorem dX7_init_8 : decode cX7_init 8 = .ok (.newarray .byte, 2) := by decide +kernel
theorem dX7_init_10 : decode cX7_init 10 = .ok (.putfield 9, 3) := by decide +kernel
theorem dX7_init_13 : decode cX7_init 13 = .ok (.aload_n 0, 1) := by decide +kernel
theorem dX7_init_14 : decode cX7_init 14 = .ok (.getstatic 15, 3) := by decide +kernel
theorem dX7_init_17 : decode cX7_init 17 = .ok (.putfield 21, 3) := by decide +kernel
theorem dX7_init_20 : decode cX7_init 20 = .ok (.return_, 1) := by decide +kernel
theorem dX7_putFourBytes_0 : decode cX7_putFourBytes 0 = .ok (.bipush 24, 2) := by decide +kernel
theorem dX7_putFourBytes_2 : decode cX7_putFourBytes 2 = .ok (.istore_n 2, 1) := by decide +kernel
theorem dX7_putFourBytes_3 : decode cX7_putFourBytes 3 = .ok (.iload_n 2, 1) := by decide +kernel
theorem dX7_putFourBytes_4 : decode cX7_putFourBytes 4 = .ok (.ifCond .lt 42, 3) := by decide +kernel
theorem dX7_putFourBytes_7 : decode cX7_putFourBytes 7 = .ok (.aload_n 0, 1) := by decide +kernel
theorem dX7_putFourBytes_8 : decode cX7_putFourBytes 8 = .ok (.getfield 24, 3) := by decide +kernel
theorem dX7_putFourBytes_11 : decode cX7_putFourBytes 11 = .ok (.sipush 500, 3) := by decide +kernel
theorem dX7_putFourBytes_14 : decode cX7_putFourBytes 14 = .ok (.if_icmp .ge 32, 3) := by decide +kernel
theorem dX7_putFourBytes_17 : decode cX7_putFourBytes 17 = .ok (.aload_n 0, 1) := by decide +kernel
theorem dX7_putFourBytes_18 : decode cX7_putFourBytes 18 = .ok (.getfield 9, 3) := by decide +kernel
theorem dX7_putFourBytes_21 : decode cX7_putFourBytes 21 = .ok (.aload_n 0, 1) := by decide +kernel
theorem dX7_putFourBytes_22 : decode cX7_putFourBytes 22 = .ok (.getfield 24, 3) := by decide +kernel
theorem dX7_putFourBytes_25 : decode cX7_putFourBytes 25 = .ok (.iload_n 1, 1) := by decide +kernel
theorem dX7_putFourBytes_26 : decode cX7_putFourBytes 26 = .ok (.iload_n 2, 1) := by decide +kernel
theorem dX7_putFourBytes_27 : decode cX7_putFourBytes 27 = .ok (.ishr, 1) := by decide +kernel
theorem dX7_putFourBytes_28 : decode cX7_putFourBytes 28 = .ok (.i2b, 1) := by decide +kernel
theorem dX7_putFourBytes_29 : decode cX7_putFourBytes 29 = .ok (.bastore, 1) := by decide +kernel
theorem dX7_putFourBytes_30 : decode cX7_putFourBytes 30 = .ok (.aload_n 0, 1) := by decide +kernel
theorem dX7_putFourBytes_31 : decode cX7_putFourBytes 31 = .ok (.dup, 1) := by decide +kernel
theorem dX7_putFourBytes_32 : decode cX7_putFourBytes 32 = .ok (.getfield 24, 3) := by decide +kernel
theorem dX7_putFourBytes_35 : decode cX7_putFourBytes 35 = .ok (.iconst 1, 1) := by decide +kernel
theorem dX7_putFourBytes_36 : decode cX7_putFourBytes 36 = .ok (.iadd, 1) := by decide +kernel
theorem dX7_putFourBytes_37 : decode cX7_putFourBytes 37 = .ok (.putfield 24, 3) := by decide +kernel
theorem dX7_putFourBytes_40 : decode cX7_putFourBytes 40 = .ok (.iinc 2 (-8), 3) := by decide +kernel
theorem dX7_putFourBytes_43 : decode cX7_putFourBytes 43 = .ok (.goto (-40), 3) := by decide +kernel
theorem dX7_putFourBytes_46 : decode cX7_putFourBytes 46 = .ok (.return_, 1) := by decide +kernel
theorem dX7_startAnew_0 : decode cX7_startAnew 0 = .ok (.aload_n 0, 1) := by decide +kernel
theorem dX7_startAnew_1 : decode cX7_startAnew 1 = .ok (.iload_n 1, 1) := by decide +kernel
theorem dX7_startAnew_2 : decode cX7_startAnew 2 = .ok (.aload_n 0, 1) := by decide +kernel
theorem dX7_startAnew_3 : decode cX7_startAnew 3 = .ok (.getfield 24, 3) := by decide +kernel
theorem dX7_startAnew_6 : decode cX7_startAnew 6 = .ok (.invokestatic 28, 3) := by decide +kernel
theorem dX7_startAnew_9 : decode cX7_startAnew 9 = .ok (.putfield 34, 3) := by decide +kernel
theorem dX7_startAnew_12 : decode cX7_startAnew 12 = .ok (.aload_n 0, 1) := by decide +kernel
theorem dX7_startAnew_13 : decode cX7_startAnew 13 = .ok (.iconst 0, 1) := by decide +kernel
theorem dX7_startAnew_14 : decode cX7_startAnew 14 = .ok (.putfield 37, 3) := by decide +kernel
theorem dX7_startAnew_17 : decode cX7_startAnew 17 = .ok (.return_, 1) := by decide +kernel
theorem dX7_scan_0 : decode cX7_scan 0 = .ok (.aload_n 0, 1) := by decide +kernel
theorem dX7_scan_1 : decode cX7_scan 1 = .ok (.bipush 32, 2) := by decide +kernel
theorem dX7_scan_3 : decode cX7_scan 3 = .ok (.bipush 32, 2) := by decide +kernel
theorem dX7_scan_5 : decode cX7_scan 5 = .ok (.invokevirtual 40, 3) := by decide +kernel
theorem dX7_scan_8 : decode cX7_scan 8 = .ok (.aload_n 0, 1) := by decide +kernel
theorem dX7_scan_9 : decode cX7_scan 9 = .ok (.aload_n 0, 1) := by decide +kernel
theorem dX7_scan_10 : decode cX7_scan 10 = .ok (.getfield 37, 3) := by decide +kernel
theorem dX7_scan_13 : decode cX7_scan 13 = .ok (.putfield 44, 3) := by decide +kernel
theorem dX7_scan_16 : decode cX7_scan 16 = .ok (.aload_n 0, 1) := by decide +kernel
theorem dX7_scan_17 : decode cX7_scan 17 = .ok (.bipush 97, 2) := by decide +kernel
theorem dX7_scan_19 : decode cX7_scan 19 = .ok (.bipush 122, 2) := by decide +kernel
theorem dX7_scan_21 : decode cX7_scan 21 = .ok (.invokevirtual 40, 3) := by decide +kernel
theorem dX7_scan_24 : decode cX7_scan 24 = .ok (.aload_n 0, 1) := by decide +kernel
theorem dX7_scan_25 : decode cX7_scan 25 = .ok (.getfield 37, 3) := by decide +kernel
theorem dX7_scan_28 : decode cX7_scan 28 = .ok (.aload_n 0, 1) := by decide +kernel
theorem dX7_scan_29 : decode cX7_scan 29 = .ok (.getfield 44, 3) := by decide +kernel
theorem dX7_scan_32 : decode cX7_scan 32 = .ok (.if_icmp .le 26, 3) := by decide +kernel
theorem dX7_scan_35 : decode cX7_scan 35 = .ok (.aload_n 0, 1) := by decide +kernel
theorem dX7_scan_36 : decode cX7_scan 36 = .ok (.aload_n 0, 1) := by decide +kernel
theorem dX7_scan_37 : decode cX7_scan 37 = .ok (.invokevirtual 47, 3) := by decide +kernel
theorem dX7_scan_40 : decode cX7_scan 40 = .ok (.bipush 7, 2) := by decide +kernel
theorem dX7_scan_42 : decode cX7_scan 42 = .ok (.if_icmp .gt 9, 3) := by decide +kernel
theorem dX7_scan_45 : decode cX7_scan 45 = .ok (.getstatic 51, 3) := by decide +kernel
theorem dX7_scan_48 : decode cX7_scan 48 = .ok (.goto 6, 3) := by decide +kernel
theorem dX7_scan_51 : decode cX7_scan 51 = .ok (.getstatic 54, 3) := by decide +kernel
theorem dX7_scan_54 : decode cX7_scan 54 = .ok (.putfield 21, 3) := by decide +kernel
theorem dX7_scan_57 : decode cX7_scan 57 = .ok (.return_, 1) := by decide +kernel
theorem dX7_scan_58 : decode cX7_scan 58 = .ok (.aload_n 0, 1) := by decide +kernel
theorem dX7_scan_59 : decode cX7_scan 59 = .ok (.bipush 48, 2) := by decide +kernel
theorem dX7_scan_61 : decode cX7_scan 61 = .ok (.bipush 57, 2) := by decide +kernel
theorem dX7_scan_63 : decode cX7_scan 63 = .ok (.invokevirtual 40, 3) := by decide +kernel
theorem dX7_scan_66 : decode cX7_scan 66 = .ok (.aload_n 0, 1) := by decide +kernel
theorem dX7_scan_67 : decode cX7_scan 67 = .ok (.getfield 37, 3) := by decide +kernel
theorem dX7_scan_70 : decode cX7_scan 70 = .ok (.aload_n 0, 1) := by decide +kernel
theorem dX7_scan_71 : decode cX7_scan 71 = .ok (.getfield 44, 3) := by decide +kernel
theorem dX7_scan_74 : decode cX7_scan 74 = .ok (.if_icmp .le 27, 3) := by decide +kernel
theorem dX7_scan_77 : decode cX7_scan 77 = .ok (.aload_n 0, 1) := by decide +kernel
theorem dX7_scan_78 : decode cX7_scan 78 = .ok (.aload_n 0, 1) := by decide +kernel
theorem dX7_scan_79 : decode cX7_scan 79 = .ok (.invokevirtual 47, 3) := by decide +kernel
theorem dX7_scan_82 : decode cX7_scan 82 = .ok (.iconst 3, 1) := by decide +kernel
theorem dX7_scan_83 : decode cX7_scan 83 = .ok (.if_icmp .gt 9, 3) := by decide +kernel
theorem dX7_scan_86 : decode cX7_scan 86 = .ok (.getstatic 57, 3) := by decide +kernel
theorem dX7_scan_89 : decode cX7_scan 89 = .ok (.goto 6, 3) := by decide +kernel
theorem dX7_scan_92 : decode cX7_scan 92 = .ok (.getstatic 54, 3) := by decide +kernel
theorem dX7_scan_95 : decode cX7_scan 95 = .ok (.putfield 21, 3) := by decide +kernel
theorem dX7_scan_98 : decode cX7_scan 98 = .ok (.goto 50, 3) := by decide +kernel
theorem dX7_scan_101 : decode cX7_scan 101 = .ok (.aload_n 0, 1) := by decide +kernel
theorem dX7_scan_102 : decode cX7_scan 102 = .ok (.getfield 37, 3) := by decide +kernel
theorem dX7_scan_105 : decode cX7_scan 105 = .ok (.aload_n 0, 1) := by decide +kernel
theorem dX7_scan_106 : decode cX7_scan 106 = .ok (.getfield 34, 3) := by decide +kernel
theorem dX7_scan_109 : decode cX7_scan 109 = .ok (.if_icmp .ge 32, 3) := by decide +kernel
theorem dX7_scan_112 : decode cX7_scan 112 = .ok (.aload_n 0, 1) := by decide +kernel
theorem dX7_scan_113 : decode cX7_scan 113 = .ok (.aload_n 0, 1) := by decide +kernel
theorem dX7_scan_114 : decode cX7_scan 114 = .ok (.getfield 9, 3) := by decide +kernel
theorem dX7_scan_117 : decode cX7_scan 117 = .ok (.aload_n 0, 1) := by decide +kernel
theorem dX7_scan_118 : decode cX7_scan 118 = .ok (.getfield 37, 3) := by decide +kernel
theorem dX7_scan_121 : decode cX7_scan 121 = .ok (.baload, 1) := by decide +kernel
theorem dX7_scan_122 : decode cX7_scan 122 = .ok (.invokestatic 60, 3) := by decide +kernel
theorem dX7_scan_125 : decode cX7_scan 125 = .ok (.putfield 21, 3) := by decide +kernel
theorem dX7_scan_128 : decode cX7_scan 128 = .ok (.aload_n 0, 1) := by decide +kernel
theorem dX7_scan_129 : decode cX7_scan 129 = .ok (.dup, 1) := by decide +kernel
theorem dX7_scan_130 : decode cX7_scan 130 = .ok (.getfield 37, 3) := by decide +kernel
theorem dX7_scan_133 : decode cX7_scan 133 = .ok (.iconst 1, 1) := by decide +kernel
theorem dX7_scan_134 : decode cX7_scan 134 = .ok (.iadd, 1) := by decide +kernel
theorem dX7_scan_135 : decode cX7_scan 135 = .ok (.putfield 37, 3) := by decide +kernel
theorem dX7_scan_138 : decode cX7_scan 138 = .ok (.goto 10, 3) := by decide +kernel
theorem dX7_scan_141 : decode cX7_scan 141 = .ok (.aload_n 0, 1) := by decide +kernel
theorem dX7_scan_142 : decode cX7_scan 142 = .ok (.getstatic 15, 3) := by decide +kernel
theorem dX7_scan_145 : decode cX7_scan 145 = .ok (.putfield 21, 3) := by decide +kernel
theorem dX7_scan_148 : decode cX7_scan 148 = .ok (.return_, 1) := by decide +kernel
theorem dX7_skip_0 : decode cX7_skip 0 = .ok (.aload_n 0, 1) := by decide +kernel
theorem dX7_skip_1 : decode cX7_skip 1 = .ok (.getfield 37, 3) := by decide +kernel
theorem dX7_skip_4 : decode cX7_skip 4 = .ok (.aload_n 0, 1) := by decide +kernel
theorem dX7_skip_5 : decode cX7_skip 5 = .ok (.getfield 34, 3) := by decide +kernel
theorem dX7_skip_8 : decode cX7_skip 8 = .ok (.if_icmp .ge 42, 3) := by decide +kernel
theorem dX7_skip_11 : decode cX7_skip 11 = .ok (.aload_n 0, 1) := by decide +kernel
theorem dX7_skip_12 : decode cX7_skip 12 = .ok (.getfield 9, 3) := by decide +kernel
theorem dX7_skip_15 : decode cX7_skip 15 = .ok (.aload_n 0, 1) := by decide +kernel
theorem dX7_skip_16 : decode cX7_skip 16 = .ok (.getfield 37, 3) := by decide +kernel
theorem dX7_skip_19 : decode cX7_skip 19 = .ok (.baload, 1) := by decide +kernel
theorem dX7_skip_20 : decode cX7_skip 20 = .ok (.iload_n 1, 1) := by decide +kernel
theorem dX7_skip_21 : decode cX7_skip 21 = .ok (.if_icmp .lt 29, 3) := by decide +kernel
theorem dX7_skip_24 : decode cX7_skip 24 = .ok (.aload_n 0, 1) := by decide +kernel
theorem dX7_skip_25 : decode cX7_skip 25 = .ok (.getfield 9, 3) := by decide +kernel
theorem dX7_skip_28 : decode cX7_skip 28 = .ok (.aload_n 0, 1) := by decide +kernel
theorem dX7_skip_29 : decode cX7_skip 29 = .ok (.getfield 37, 3) := by decide +kernel
theorem dX7_skip_32 : decode cX7_skip 32 = .ok (.baload, 1) := by decide +kernel
theorem dX7_skip_33 : decode cX7_skip 33 = .ok (.iload_n 2, 1) := by decide +kernel
theorem dX7_skip_34 : decode cX7_skip 34 = .ok (.if_icmp .gt 16, 3) := by decide +kernel
theorem dX7_skip_37 : decode cX7_skip 37 = .ok (.aload_n 0, 1) := by decide +kernel
theorem dX7_skip_38 : decode cX7_skip 38 = .ok (.dup, 1) := by decide +kernel
theorem dX7_skip_39 : decode cX7_skip 39 = .ok (.getfield 37, 3) := by decide +kernel
theorem dX7_skip_42 : decode cX7_skip 42 = .ok (.iconst 1, 1) := by decide +kernel
theorem dX7_skip_43 : decode cX7_skip 43 = .ok (.iadd, 1) := by decide +kernel
theorem dX7_skip_44 : decode cX7_skip 44 = .ok (.putfield 37, 3) := by decide +kernel
theorem dX7_skip_47 : decode cX7_skip 47 = .ok (.goto (-47), 3) := by decide +kernel
theorem dX7_skip_50 : decode cX7_skip 50 = .ok (.return_, 1) := by decide +kernel
theorem dX7_kindOfSign_0 : decode cX7_kindOfSign 0 = .ok (.iload_n 0, 1) := by decide +kernel
theorem dX7_kindOfSign_1 : decode cX7_kindOfSign 1 = .ok (.bipush 59, 2) := by decide +kernel
theorem dX7_kindOfSign_3 : decode cX7_kindOfSign 3 = .ok (.if_icmp .ne 7, 3) := by decide +kernel
theorem dX7_kindOfSign_6 : decode cX7_kindOfSign 6 = .ok (.getstatic 64, 3) := by decide +kernel
theorem dX7_kindOfSign_9 : decode cX7_kindOfSign 9 = .ok (.areturn, 1) := by decide +kernel
theorem dX7_kindOfSign_10 : decode cX7_kindOfSign 10 = .ok (.iload_n 0, 1) := by decide +kernel
theorem dX7_kindOfSign_11 : decode cX7_kindOfSign 11 = .ok (.bipush 40, 2) := by decide +kernel
theorem dX7_kindOfSign_13 : decode cX7_kindOfSign 13 = .ok (.if_icmp .ne 7, 3) := by decide +kernel
theorem dX7_kindOfSign_16 : decode cX7_kindOfSign 16 = .ok (.getstatic 67, 3) := by decide +kernel
theorem dX7_kindOfSign_19 : decode cX7_kindOfSign 19 = .ok (.areturn, 1) := by decide +kernel
theorem dX7_kindOfSign_20 : decode cX7_kindOfSign 20 = .ok (.iload_n 0, 1) := by decide +kernel
theorem dX7_kindOfSign_21 : decode cX7_kindOfSign 21 = .ok (.bipush 41, 2) := by decide +kernel
theorem dX7_kindOfSign_23 : decode cX7_kindOfSign 23 = .ok (.if_icmp .ne 9, 3) := by decide +kernel
theorem dX7_kindOfSign_26 : decode cX7_kindOfSign 26 = .ok (.getstatic 70, 3) := by decide +kernel
theorem dX7_kindOfSign_29 : decode cX7_kindOfSign 29 = .ok (.goto 6, 3) := by decide +kernel
theorem dX7_kindOfSign_32 : decode cX7_kindOfSign 32 = .ok (.getstatic 54, 3) := by decide +kernel
theorem dX7_kindOfSign_35 : decode cX7_kindOfSign 35 = .ok (.areturn, 1) := by decide +kernel
theorem dX7_tokenLength_0 : decode cX7_tokenLength 0 = .ok (.aload_n 0, 1) := by decide +kernel
theorem dX7_tokenLength_1 : decode cX7_tokenLength 1 = .ok (.getfield 37, 3) := by decide +kernel
theorem dX7_tokenLength_4 : decode cX7_tokenLength 4 = .ok (.aload_n 0, 1) := by decide +kernel
theorem dX7_tokenLength_5 : decode cX7_tokenLength 5 = .ok (.getfield 44, 3) := by decide +kernel
theorem dX7_tokenLength_8 : decode cX7_tokenLength 8 = .ok (.isub, 1) := by decide +kernel
theorem dX7_tokenLength_9 : decode cX7_tokenLength 9 = .ok (.ireturn, 1) := by decide +kernel
theorem dX7_isWord_0 : decode cX7_isWord 0 = .ok (.aload_n 0, 1) := by decide +kernel
theorem dX7_isWord_1 : decode cX7_isWord 1 = .ok (.getfield 21, 3) := by decide +kernel
theorem dX7_isWord_4 : decode cX7_isWord 4 = .ok (.getstatic 51, 3) := by decide +kernel
theorem dX7_isWord_7 : decode cX7_isWord 7 = .ok (.if_acmp .ne 14, 3) := by decide +kernel
theorem dX7_isWord_10 : decode cX7_isWord 10 = .ok (.aload_n 1, 1) := by decide +kernel
theorem dX7_isWord_11 : decode cX7_isWord 11 = .ok (.invokevirtual 73, 3) := by decide +kernel
theorem dX7_isWord_14 : decode cX7_isWord 14 = .ok (.aload_n 0, 1) := by decide +kernel
theorem dX7_isWord_15 : decode cX7_isWord 15 = .ok (.invokevirtual 47, 3) := by decide +kernel
theorem dX7_isWord_18 : decode cX7_isWord 18 = .ok (.if_icmp .eq 5, 3) := by decide +kernel
theorem dX7_isWord_21 : decode cX7_isWord 21 = .ok (.iconst 0, 1) := by decide +kernel
theorem dX7_isWord_22 : decode cX7_isWord 22 = .ok (.ireturn, 1) := by decide +kernel
theorem dX7_isWord_23 : decode cX7_isWord 23 = .ok (.iconst 0, 1) := by decide +kernel
theorem dX7_isWord_24 : decode cX7_isWord 24 = .ok (.istore_n 2, 1) := by decide +kernel
theorem dX7_isWord_25 : decode cX7_isWord 25 = .ok (.iload_n 2, 1) := by decide +kernel
theorem dX7_isWord_26 : decode cX7_isWord 26 = .ok (.aload_n 1, 1) := by decide +kernel
theorem dX7_isWord_27 : decode cX7_isWord 27 = .ok (.invokevirtual 73, 3) := by decide +kernel
theorem dX7_isWord_30 : decode cX7_isWord 30 = .ok (.if_icmp .ge 30, 3) := by decide +kernel
theorem dX7_isWord_33 : decode cX7_isWord 33 = .ok (.aload_n 0, 1) := by decide +kernel
theorem dX7_isWord_34 : decode cX7_isWord 34 = .ok (.getfield 9, 3) := by decide +kernel
theorem dX7_isWord_37 : decode cX7_isWord 37 = .ok (.aload_n 0, 1) := by decide +kernel
theorem dX7_isWord_38 : decode cX7_isWord 38 = .ok (.getfield 44, 3) := by decide +kernel
theorem dX7_isWord_41 : decode cX7_isWord 41 = .ok (.iload_n 2, 1) := by decide +kernel
theorem dX7_isWord_42 : decode cX7_isWord 42 = .ok (.iadd, 1) := by decide +kernel
theorem dX7_isWord_43 : decode cX7_isWord 43 = .ok (.baload, 1) := by decide +kernel
theorem dX7_isWord_44 : decode cX7_isWord 44 = .ok (.aload_n 1, 1) := by decide +kernel
theorem dX7_isWord_45 : decode cX7_isWord 45 = .ok (.iload_n 2, 1) := by decide +kernel
theorem dX7_isWord_46 : decode cX7_isWord 46 = .ok (.invokevirtual 77, 3) := by decide +kernel
theorem dX7_isWord_49 : decode cX7_isWord 49 = .ok (.if_icmp .eq 5, 3) := by decide +kernel
theorem dX7_isWord_52 : decode cX7_isWord 52 = .ok (.iconst 0, 1) := by decide +kernel
theorem dX7_isWord_53 : decode cX7_isWord 53 = .ok (.ireturn, 1) := by decide +kernel
theorem dX7_isWord_54 : decode cX7_isWord 54 = .ok (.iinc 2 1, 3) := by decide +kernel
theorem dX7_isWord_57 : decode cX7_isWord 57 = .ok (.goto (-32), 3) := by decide +kernel
theorem dX7_isWord_60 : decode cX7_isWord 60 = .ok (.iconst 1, 1) := by decide +kernel
theorem dX7_isWord_61 : decode cX7_isWord 61 = .ok (.ireturn, 1) := by decide +kernel
theorem dX7_scanIfWord_0 : decode cX7_scanIfWord 0 = .ok (.aload_n 0, 1) := by decide +kernel
theorem dX7_scanIfWord_1 : decode cX7_scanIfWord 1 = .ok (.getfield 37, 3) := by decide +kernel
theorem dX7_scanIfWord_4 : decode cX7_scanIfWord 4 = .ok (.istore_n 2, 1) := by decide +kernel
theorem dX7_scanIfWord_5 : decode cX7_scanIfWord 5 = .ok (.aload_n 0, 1) := by decide +kernel
theorem dX7_scanIfWord_6 : decode cX7_scanIfWord 6 = .ok (.invokevirtual 81, 3) := by decide +kernel
theorem dX7_scanIfWord_9 : decode cX7_scanIfWord 9 = .ok (.aload_n 0, 1) := by decide +kernel
theorem dX7_scanIfWord_10 : decode cX7_scanIfWord 10 = .ok (.aload_n 1, 1) := by decide +kernel
theorem dX7_scanIfWord_11 : decode cX7_scanIfWord 11 = .ok (.invokevirtual 84, 3) := by decide +kernel
theorem dX7_scanIfWord_14 : decode cX7_scanIfWord 14 = .ok (.ifCond .eq 5, 3) := by decide +kernel
theorem dX7_scanIfWord_17 : decode cX7_scanIfWord 17 = .ok (.iconst 1, 1) := by decide +kernel
theorem dX7_scanIfWord_18 : decode cX7_scanIfWord 18 = .ok (.ireturn, 1) := by decide +kernel
theorem dX7_scanIfWord_19 : decode cX7_scanIfWord 19 = .ok (.aload_n 0, 1) := by decide +kernel
theorem dX7_scanIfWord_20 : decode cX7_scanIfWord 20 = .ok (.iload_n 2, 1) := by decide +kernel
theorem dX7_scanIfWord_21 : decode cX7_scanIfWord 21 = .ok (.putfield 37, 3) := by decide +kernel
theorem dX7_scanIfWord_24 : decode cX7_scanIfWord 24 = .ok (.iconst 0, 1) := by decide +kernel
theorem dX7_scanIfWord_25 : decode cX7_scanIfWord 25 = .ok (.ireturn, 1) := by decide +kernel
theorem dX7_item_0 : decode cX7_item 0 = .ok (.iconst 0, 1) := by decide +kernel
theorem dX7_item_1 : decode cX7_item 1 = .ok (.istore_n 1, 1) := by decide +kernel
theorem dX7_item_2 : decode cX7_item 2 = .ok (.iload_n 1, 1) := by decide +kernel
theorem dX7_item_3 : decode cX7_item 3 = .ok (.getstatic 88, 3) := by decide +kernel
theorem dX7_item_6 : decode cX7_item 6 = .ok (.arraylength, 1) := by decide +kernel
theorem dX7_item_7 : decode cX7_item 7 = .ok (.if_icmp .ge 30, 3) := by decide +kernel
theorem dX7_item_10 : decode cX7_item 10 = .ok (.aload_n 0, 1) := by decide +kernel
theorem dX7_item_11 : decode cX7_item 11 = .ok (.getstatic 88, 3) := by decide +kernel
theorem dX7_item_14 : decode cX7_item 14 = .ok (.iload_n 1, 1) := by decide +kernel
theorem dX7_item_15 : decode cX7_item 15 = .ok (.aaload, 1) := by decide +kernel
theorem dX7_item_16 : decode cX7_item 16 = .ok (.getfield 92, 3) := by decide +kernel
theorem dX7_item_19 : decode cX7_item 19 = .ok (.invokevirtual 84, 3) := by decide +kernel
theorem dX7_item_22 : decode cX7_item 22 = .ok (.ifCond .eq 9, 3) := by decide +kernel
theorem dX7_item_25 : decode cX7_item 25 = .ok (.getstatic 88, 3) := by decide +kernel
theorem dX7_item_28 : decode cX7_item 28 = .ok (.iload_n 1, 1) := by decide +kernel
theorem dX7_item_29 : decode cX7_item 29 = .ok (.aaload, 1) := by decide +kernel
theorem dX7_item_30 : decode cX7_item 30 = .ok (.areturn, 1) := by decide +kernel
theorem dX7_item_31 : decode cX7_item 31 = .ok (.iinc 1 1, 3) := by decide +kernel
theorem dX7_item_34 : decode cX7_item 34 = .ok (.goto (-32), 3) := by decide +kernel
theorem dX7_item_37 : decode cX7_item 37 = .ok (.getstatic 98, 3) := by decide +kernel
theorem dX7_item_40 : decode cX7_item 40 = .ok (.areturn, 1) := by decide +kernel
theorem dX7_number_0 : decode cX7_number 0 = .ok (.iconst 0, 1) := by decide +kernel
theorem dX7_number_1 : decode cX7_number 1 = .ok (.istore_n 1, 1) := by decide +kernel
theorem dX7_number_2 : decode cX7_number 2 = .ok (.aload_n 0, 1) := by decide +kernel
theorem dX7_number_3 : decode cX7_number 3 = .ok (.getfield 44, 3) := by decide +kernel
theorem dX7_number_6 : decode cX7_number 6 = .ok (.istore_n 2, 1) := by decide +kernel
theorem dX7_number_7 : decode cX7_number 7 = .ok (.iload_n 2, 1) := by decide +kernel
theorem dX7_number_8 : decode cX7_number 8 = .ok (.aload_n 0, 1) := by decide +kernel
theorem dX7_number_9 : decode cX7_number 9 = .ok (.getfield 37, 3) := by decide +kernel
theorem dX7_number_12 : decode cX7_number 12 = .ok (.if_icmp .ge 24, 3) := by decide +kernel
theorem dX7_number_15 : decode cX7_number 15 = .ok (.iload_n 1, 1) := by decide +kernel
theorem dX7_number_16 : decode cX7_number 16 = .ok (.bipush 10, 2) := by decide +kernel
theorem dX7_number_18 : decode cX7_number 18 = .ok (.imul, 1) := by decide +kernel
theorem dX7_number_19 : decode cX7_number 19 = .ok (.aload_n 0, 1) := by decide +kernel
theorem dX7_number_20 : decode cX7_number 20 = .ok (.getfield 9, 3) := by decide +kernel
theorem dX7_number_23 : decode cX7_number 23 = .ok (.iload_n 2, 1) := by decide +kernel
theorem dX7_number_24 : decode cX7_number 24 = .ok (.baload, 1) := by decide +kernel
theorem dX7_number_25 : decode cX7_number 25 = .ok (.bipush 48, 2) := by decide +kernel
theorem dX7_number_27 : decode cX7_number 27 = .ok (.isub, 1) := by decide +kernel
theorem dX7_number_28 : decode cX7_number 28 = .ok (.iadd, 1) := by decide +kernel
theorem dX7_number_29 : decode cX7_number 29 = .ok (.istore_n 1, 1) := by decide +kernel
theorem dX7_number_30 : decode cX7_number 30 = .ok (.iinc 2 1, 3) := by decide +kernel
theorem dX7_number_33 : decode cX7_number 33 = .ok (.goto (-26), 3) := by decide +kernel
theorem dX7_number_36 : decode cX7_number 36 = .ok (.iload_n 1, 1) := by decide +kernel
theorem dX7_number_37 : decode cX7_number 37 = .ok (.ireturn, 1) := by decide +kernel
theorem dX7_packedName_0 : decode cX7_packedName 0 = .ok (.iconst 0, 1) := by decide +kernel
theorem dX7_packedName_1 : decode cX7_packedName 1 = .ok (.istore_n 1, 1) := by decide +kernel
theorem dX7_packedName_2 : decode cX7_packedName 2 = .ok (.iconst 0, 1) := by decide +kernel
theorem dX7_packedName_3 : decode cX7_packedName 3 = .ok (.istore_n 2, 1) := by decide +kernel
theorem dX7_packedName_4 : decode cX7_packedName 4 = .ok (.iload_n 2, 1) := by decide +kernel
theorem dX7_packedName_5 : decode cX7_packedName 5 = .ok (.bipush 6, 2) := by decide +kernel
theorem dX7_packedName_7 : decode cX7_packedName 7 = .ok (.if_icmp .ge 38, 3) := by decide +kernel
theorem dX7_packedName_10 : decode cX7_packedName 10 = .ok (.iload_n 2, 1) := by decide +kernel
theorem dX7_packedName_11 : decode cX7_packedName 11 = .ok (.aload_n 0, 1) := by decide +kernel
theorem dX7_packedName_12 : decode cX7_packedName 12 = .ok (.invokevirtual 47, 3) := by decide +kernel
theorem dX7_packedName_15 : decode cX7_packedName 15 = .ok (.if_icmp .ge 30, 3) := by decide +kernel
theorem dX7_packedName_18 : decode cX7_packedName 18 = .ok (.iload_n 1, 1) := by decide +kernel
theorem dX7_packedName_19 : decode cX7_packedName 19 = .ok (.aload_n 0, 1) := by decide +kernel
theorem dX7_packedName_20 : decode cX7_packedName 20 = .ok (.getfield 9, 3) := by decide +kernel
theorem dX7_packedName_23 : decode cX7_packedName 23 = .ok (.aload_n 0, 1) := by decide +kernel
theorem dX7_packedName_24 : decode cX7_packedName 24 = .ok (.getfield 44, 3) := by decide +kernel
theorem dX7_packedName_27 : decode cX7_packedName 27 = .ok (.iload_n 2, 1) := by decide +kernel
theorem dX7_packedName_28 : decode cX7_packedName 28 = .ok (.iadd, 1) := by decide +kernel
theorem dX7_packedName_29 : decode cX7_packedName 29 = .ok (.baload, 1) := by decide +kernel
theorem dX7_packedName_30 : decode cX7_packedName 30 = .ok (.bipush 96, 2) := by decide +kernel
theorem dX7_packedName_32 : decode cX7_packedName 32 = .ok (.isub, 1) := by decide +kernel
theorem dX7_packedName_33 : decode cX7_packedName 33 = .ok (.iload_n 2, 1) := by decide +kernel
theorem dX7_packedName_34 : decode cX7_packedName 34 = .ok (.iconst 5, 1) := by decide +kernel
theorem dX7_packedName_35 : decode cX7_packedName 35 = .ok (.imul, 1) := by decide +kernel
theorem dX7_packedName_36 : decode cX7_packedName 36 = .ok (.ishl, 1) := by decide +kernel
theorem dX7_packedName_37 : decode cX7_packedName 37 = .ok (.ior, 1) := by decide +kernel
theorem dX7_packedName_38 : decode cX7_packedName 38 = .ok (.istore_n 1, 1) := by decide +kernel
theorem dX7_packedName_39 : decode cX7_packedName 39 = .ok (.iinc 2 1, 3) := by decide +kernel
theorem dX7_packedName_42 : decode cX7_packedName 42 = .ok (.goto (-38), 3) := by decide +kernel
theorem dX7_packedName_45 : decode cX7_packedName 45 = .ok (.iload_n 1, 1) := by decide +kernel
theorem dX7_packedName_46 : decode cX7_packedName 46 = .ok (.ireturn, 1) := by decide +kernel
theorem dX8_init_0 : decode cX8_init 0 = .ok (.aload_n 0, 1) := by decide +kernel
theorem dX8_init_1 : decode cX8_init 1 = .ok (.invokespecial 3, 3) := by decide +kernel
theorem dX8_init_4 : decode cX8_init 4 = .ok (.return_, 1) := by decide +kernel
theorem dX8_worth_0 : decode cX8_worth 0 = .ok (.aload_n 0, 1) := by decide +kernel
theorem dX8_worth_1 : decode cX8_worth 1 = .ok (.getfield 9, 3) := by decide +kernel
theorem dX8_worth_4 : decode cX8_worth 4 = .ok (.bipush 10, 2) := by decide +kernel
theorem dX8_worth_6 : decode cX8_worth 6 = .ok (.aload_n 0, 1) := by decide +kernel
theorem dX8_worth_7 : decode cX8_worth 7 = .ok (.getfield 15, 3) := by decide +kernel
theorem dX8_worth_10 : decode cX8_worth 10 = .ok (.isub, 1) := by decide +kernel
theorem dX8_worth_11 : decode cX8_worth 11 = .ok (.imul, 1) := by decide +kernel
theorem dX8_worth_12 : decode cX8_worth 12 = .ok (.bipush 10, 2) := by decide +kernel
theorem dX8_worth_14 : decode cX8_worth 14 = .ok (.idiv, 1) := by decide +kernel
theorem dX8_worth_15 : decode cX8_worth 15 = .ok (.ireturn, 1) := by decide +kernel
theorem dX8_isInTrade_0 : decode cX8_isInTrade 0 = .ok (.aload_n 0, 1) := by decide +kernel
theorem dX8_isInTrade_1 : decode cX8_isInTrade 1 = .ok (.getfield 18, 3) := by decide +kernel
theorem dX8_isInTrade_4 : decode cX8_isInTrade 4 = .ok (.iconst (-1), 1) := by decide +kernel
theorem dX8_isInTrade_5 : decode cX8_isInTrade 5 = .ok (.if_icmp .ne 11, 3) := by decide +kernel
theorem dX8_isInTrade_8 : decode cX8_isInTrade 8 = .ok (.aload_n 0, 1) := by decide +kernel
theorem dX8_isInTrade_9 : decode cX8_isInTrade 9 = .ok (.getfield 21, 3) := by decide +kernel
theorem dX8_isInTrade_12 : decode cX8_isInTrade 12 = .ok (.iconst (-1), 1) := by decide +kernel
theorem dX8_isInTrade_13 : decode cX8_isInTrade 13 = .ok (.if_icmp .eq 7, 3) := by decide +kernel
theorem dX8_isInTrade_16 : decode cX8_isInTrade 16 = .ok (.iconst 1, 1) := by decide +kernel
theorem dX8_isInTrade_17 : decode cX8_isInTrade 17 = .ok (.goto 4, 3) := by decide +kernel
theorem dX8_isInTrade_20 : decode cX8_isInTrade 20 = .ok (.iconst 0, 1) := by decide +kernel
theorem dX8_isInTrade_21 : decode cX8_isInTrade 21 = .ok (.ireturn, 1) := by decide +kernel
theorem dX8_moveTo_0 : decode cX8_moveTo 0 = .ok (.aload_n 0, 1) := by decide +kernel
theorem dX8_moveTo_1 : decode cX8_moveTo 1 = .ok (.iload_n 1, 1) := by decide +kernel
theorem dX8_moveTo_2 : decode cX8_moveTo 2 = .ok (.putfield 18, 3) := by decide +kernel
theorem dX8_moveTo_5 : decode cX8_moveTo 5 = .ok (.aload_n 0, 1) := by decide +kernel
theorem dX8_moveTo_6 : decode cX8_moveTo 6 = .ok (.iload_n 2, 1) := by decide +kernel
theorem dX8_moveTo_7 : decode cX8_moveTo 7 = .ok (.putfield 21, 3) := by decide +kernel
theorem dX8_moveTo_10 : decode cX8_moveTo 10 = .ok (.aload_n 0, 1) := by decide +kernel
theorem dX8_moveTo_11 : decode cX8_moveTo 11 = .ok (.iconst (-1), 1) := by decide +kernel
theorem dX8_moveTo_12 : decode cX8_moveTo 12 = .ok (.putfield 24, 3) := by decide +kernel
theorem dX8_moveTo_15 : decode cX8_moveTo 15 = .ok (.aload_n 0, 1) := by decide +kernel
theorem dX8_moveTo_16 : decode cX8_moveTo 16 = .ok (.iconst (-1), 1) := by decide +kernel
theorem dX8_moveTo_17 : decode cX8_moveTo 17 = .ok (.putfield 27, 3) := by decide +kernel
theorem dX8_moveTo_20 : decode cX8_moveTo 20 = .ok (.aload_n 0, 1) := by decide +kernel
theorem dX8_moveTo_21 : decode cX8_moveTo 21 = .ok (.iconst (-1), 1) := by decide +kernel
theorem dX8_moveTo_22 : decode cX8_moveTo 22 = .ok (.putfield 30, 3) := by decide +kernel
theorem dX8_moveTo_25 : decode cX8_moveTo 25 = .ok (.return_, 1) := by decide +kernel
theorem dX8_copyFrom_0 : decode cX8_copyFrom 0 = .ok (.aload_n 0, 1) := by decide +kernel
theorem dX8_copyFrom_1 : decode cX8_copyFrom 1 = .ok (.aload_n 1, 1) := by decide +kernel
theorem dX8_copyFrom_2 : decode cX8_copyFrom 2 = .ok (.getfield 33, 3) := by decide +kernel
theorem dX8_copyFrom_5 : decode cX8_copyFrom 5 = .ok (.putfield 33, 3) := by decide +kernel
theorem dX8_copyFrom_8 : decode cX8_copyFrom 8 = .ok (.aload_n 0, 1) := by decide +kernel
theorem dX8_copyFrom_9 : decode cX8_copyFrom 9 = .ok (.aload_n 1, 1) := by decide +kernel
theorem dX8_copyFrom_10 : decode cX8_copyFrom 10 = .ok (.getfield 9, 3) := by decide +kernel
theorem dX8_copyFrom_13 : decode cX8_copyFrom 13 = .ok (.putfield 9, 3) := by decide +kernel
theorem dX8_copyFrom_16 : decode cX8_copyFrom 16 = .ok (.aload_n 0, 1) := by decide +kernel
theorem dX8_copyFrom_17 : decode cX8_copyFrom 17 = .ok (.aload_n 1, 1) := by decide +kernel
theorem dX8_copyFrom_18 : decode cX8_copyFrom 18 = .ok (.getfield 36, 3) := by decide +kernel
theorem dX8_copyFrom_21 : decode cX8_copyFrom 21 = .ok (.putfield 36, 3) := by decide +kernel
theorem dX8_copyFrom_24 : decode cX8_copyFrom 24 = .ok (.aload_n 0, 1) := by decide +kernel
theorem dX8_copyFrom_25 : decode cX8_copyFrom 25 = .ok (.aload_n 1, 1) := by decide +kernel
theorem dX8_copyFrom_26 : decode cX8_copyFrom 26 = .ok (.getfield 15, 3) := by decide +kernel
theorem dX8_copyFrom_29 : decode cX8_copyFrom 29 = .ok (.putfield 15, 3) := by decide +kernel
theorem dX8_copyFrom_32 : decode cX8_copyFrom 32 = .ok (.aload_n 0, 1) := by decide +kernel
theorem dX8_copyFrom_33 : decode cX8_copyFrom 33 = .ok (.aload_n 1, 1) := by decide +kernel
theorem dX8_copyFrom_34 : decode cX8_copyFrom 34 = .ok (.getfield 18, 3) := by decide +kernel
theorem dX8_copyFrom_37 : decode cX8_copyFrom 37 = .ok (.putfield 18, 3) := by decide +kernel
theorem dX8_copyFrom_40 : decode cX8_copyFrom 40 = .ok (.aload_n 0, 1) := by decide +kernel
theorem dX8_copyFrom_41 : decode cX8_copyFrom 41 = .ok (.aload_n 1, 1) := by decide +kernel
theorem dX8_copyFrom_42 : decode cX8_copyFrom 42 = .ok (.getfield 21, 3) := by decide +kernel
theorem dX8_copyFrom_45 : decode cX8_copyFrom 45 = .ok (.putfield 21, 3) := by decide +kernel
theorem dX8_copyFrom_48 : decode cX8_copyFrom 48 = .ok (.aload_n 0, 1) := by decide +kernel
theorem dX8_copyFrom_49 : decode cX8_copyFrom 49 = .ok (.aload_n 1, 1) := by decide +kernel
theorem dX8_copyFrom_50 : decode cX8_copyFrom 50 = .ok (.getfield 39, 3) := by decide +kernel
theorem dX8_copyFrom_53 : decode cX8_copyFrom 53 = .ok (.putfield 39, 3) := by decide +kernel
theorem dX8_copyFrom_56 : decode cX8_copyFrom 56 = .ok (.aload_n 0, 1) := by decide +kernel
theorem dX8_copyFrom_57 : decode cX8_copyFrom 57 = .ok (.aload_n 1, 1) := by decide +kernel
theorem dX8_copyFrom_58 : decode cX8_copyFrom 58 = .ok (.getfield 43, 3) := by decide +kernel
theorem dX8_copyFrom_61 : decode cX8_copyFrom 61 = .ok (.putfield 43, 3) := by decide +kernel
theorem dX8_copyFrom_64 : decode cX8_copyFrom 64 = .ok (.aload_n 0, 1) := by decide +kernel
theorem dX8_copyFrom_65 : decode cX8_copyFrom 65 = .ok (.aload_n 1, 1) := by decide +kernel
theorem dX8_copyFrom_66 : decode cX8_copyFrom 66 = .ok (.getfield 24, 3) := by decide +kernel
theorem dX8_copyFrom_69 : decode cX8_copyFrom 69 = .ok (.putfield 24, 3) := by decide +kernel
theorem dX8_copyFrom_72 : decode cX8_copyFrom 72 = .ok (.aload_n 0, 1) := by decide +kernel
theorem dX8_copyFrom_73 : decode cX8_copyFrom 73 = .ok (.aload_n 1, 1) := by decide +kernel
theorem dX8_copyFrom_74 : decode cX8_copyFrom 74 = .ok (.getfield 27, 3) := by decide +kernel
theorem dX8_copyFrom_77 : decode cX8_copyFrom 77 = .ok (.putfield 27, 3) := by decide +kernel
theorem dX8_copyFrom_80 : decode cX8_copyFrom 80 = .ok (.aload_n 0, 1) := by decide +kernel
theorem dX8_copyFrom_81 : decode cX8_copyFrom 81 = .ok (.aload_n 1, 1) := by decide +kernel
theorem dX8_copyFrom_82 : decode cX8_copyFrom 82 = .ok (.getfield 30, 3) := by decide +kernel
theorem dX8_copyFrom_85 : decode cX8_copyFrom 85 = .ok (.putfield 30, 3) := by decide +kernel
theorem dX8_copyFrom_88 : decode cX8_copyFrom 88 = .ok (.return_, 1) := by decide +kernel
theorem dX9_init_0 : decode cX9_init 0 = .ok (.aload_n 0, 1) := by decide +kernel
theorem dX9_init_1 : decode cX9_init 1 = .ok (.invokespecial 1, 3) := by decide +kernel
theorem dX9_init_4 : decode cX9_init 4 = .ok (.aload_n 0, 1) := by decide +kernel
theorem dX9_init_5 : decode cX9_init 5 = .ok (.new 7, 3) := by decide +kernel
theorem dX9_init_8 : decode cX9_init 8 = .ok (.dup, 1) := by decide +kernel
theorem dX9_init_9 : decode cX9_init 9 = .ok (.invokespecial 9, 3) := by decide +kernel
theorem dX9_init_12 : decode cX9_init 12 = .ok (.putfield 10, 3) := by decide +kernel
theorem dX9_init_15 : decode cX9_init 15 = .ok (.aload_n 0, 1) := by decide +kernel
theorem dX9_init_16 : decode cX9_init 16 = .ok (.new 16, 3) := by decide +kernel
theorem dX9_init_19 : decode cX9_init 19 = .ok (.dup, 1) := by decide +kernel
theorem dX9_init_20 : decode cX9_init 20 = .ok (.invokespecial 18, 3) := by decide +kernel
theorem dX9_init_23 : decode cX9_init 23 = .ok (.putfield 19, 3) := by decide +kernel
theorem dX9_init_26 : decode cX9_init 26 = .ok (.aload_n 0, 1) := by decide +kernel
theorem dX9_init_27 : decode cX9_init 27 = .ok (.new 16, 3) := by decide +kernel
theorem dX9_init_30 : decode cX9_init 30 = .ok (.dup, 1) := by decide +kernel
theorem dX9_init_31 : decode cX9_init 31 = .ok (.invokespecial 18, 3) := by decide +kernel
theorem dX9_init_34 : decode cX9_init 34 = .ok (.putfield 23, 3) := by decide +kernel
theorem dX9_init_37 : decode cX9_init 37 = .ok (.aload_n 0, 1) := by decide +kernel
theorem dX9_init_38 : decode cX9_init 38 = .ok (.bipush 8, 2) := by decide +kernel
theorem dX9_init_40 : decode cX9_init 40 = .ok (.anewarray 16, 3) := by decide +kernel
theorem dX9_init_43 : decode cX9_init 43 = .ok (.putfield 26, 3) := by decide +kernel
theorem dX9_init_46 : decode cX9_init 46 = .ok (.aload_n 0, 1) := by decide +kernel
theorem dX9_init_47 : decode cX9_init 47 = .ok (.iconst 2, 1) := by decide +kernel
theorem dX9_init_48 : decode cX9_init 48 = .ok (.anewarray 16, 3) := by decide +kernel
theorem dX9_init_51 : decode cX9_init 51 = .ok (.putfield 30, 3) := by decide +kernel
theorem dX9_init_54 : decode cX9_init 54 = .ok (.aload_n 0, 1) := by decide +kernel
theorem dX9_init_55 : decode cX9_init 55 = .ok (.iconst 2, 1) := by decide +kernel
theorem dX9_init_56 : decode cX9_init 56 = .ok (.newarray .boolean, 2) := by decide +kernel
theorem dX9_init_58 : decode cX9_init 58 = .ok (.putfield 33, 3) := by decide +kernel
theorem dX9_init_61 : decode cX9_init 61 = .ok (.aload_n 0, 1) := by decide +kernel
theorem dX9_init_62 : decode cX9_init 62 = .ok (.new 37, 3) := by decide +kernel
theorem dX9_init_65 : decode cX9_init 65 = .ok (.dup, 1) := by decide +kernel
theorem dX9_init_66 : decode cX9_init 66 = .ok (.invokespecial 39, 3) := by decide +kernel
theorem dX9_init_69 : decode cX9_init 69 = .ok (.putfield 40, 3) := by decide +kernel
theorem dX9_init_72 : decode cX9_init 72 = .ok (.iconst 0, 1) := by decide +kernel
theorem dX9_init_73 : decode cX9_init 73 = .ok (.istore_n 1, 1) := by decide +kernel
theorem dX9_init_74 : decode cX9_init 74 = .ok (.iload_n 1, 1) := by decide +kernel
theorem dX9_init_75 : decode cX9_init 75 = .ok (.bipush 8, 2) := by decide +kernel
theorem dX9_init_77 : decode cX9_init 77 = .ok (.if_icmp .ge 22, 3) := by decide +kernel
theorem dX9_init_80 : decode cX9_init 80 = .ok (.aload_n 0, 1) := by decide +kernel
theorem dX9_init_81 : decode cX9_init 81 = .ok (.getfield 26, 3) := by decide +kernel
theorem dX9_init_84 : decode cX9_init 84 = .ok (.iload_n 1, 1) := by decide +kernel
theorem dX9_init_85 : decode cX9_init 85 = .ok (.new 16, 3) := by decide +kernel
theorem dX9_init_88 : decode cX9_init 88 = .ok (.dup, 1) := by decide +kernel
theorem dX9_init_89 : decode cX9_init 89 = .ok (.invokespecial 18, 3) := by decide +kernel
theorem dX9_init_92 : decode cX9_init 92 = .ok (.aastore, 1) := by decide +kernel
theorem dX9_init_93 : decode cX9_init 93 = .ok (.iinc 1 1, 3) := by decide +kernel
theorem dX9_init_96 : decode cX9_init 96 = .ok (.goto (-22), 3) := by decide +kernel
theorem dX9_init_99 : decode cX9_init 99 = .ok (.iconst 0, 1) := by decide +kernel
theorem dX9_init_100 : decode cX9_init 100 = .ok (.istore_n 1, 1) := by decide +kernel
theorem dX9_init_101 : decode cX9_init 101 = .ok (.iload_n 1, 1) := by decide +kernel
theorem dX9_init_102 : decode cX9_init 102 = .ok (.iconst 2, 1) := by decide +kernel
theorem dX9_init_103 : decode cX9_init 103 = .ok (.if_icmp .ge 22, 3) := by decide +kernel
theorem dX9_init_106 : decode cX9_init 106 = .ok (.aload_n 0, 1) := by decide +kernel
theorem dX9_init_107 : decode cX9_init 107 = .ok (.getfield 30, 3) := by decide +kernel
theorem dX9_init_110 : decode cX9_init 110 = .ok (.iload_n 1, 1) := by decide +kernel
theorem dX9_init_111 : decode cX9_init 111 = .ok (.new 16, 3) := by decide +kernel
theorem dX9_init_114 : decode cX9_init 114 = .ok (.dup, 1) := by decide +kernel
theorem dX9_init_115 : decode cX9_init 115 = .ok (.invokespecial 18, 3) := by decide +kernel
theorem dX9_init_118 : decode cX9_init 118 = .ok (.aastore, 1) := by decide +kernel
theorem dX9_init_119 : decode cX9_init 119 = .ok (.iinc 1 1, 3) := by decide +kernel
theorem dX9_init_122 : decode cX9_init 122 = .ok (.goto (-21), 3) := by decide +kernel
theorem dX9_init_125 : decode cX9_init 125 = .ok (.return_, 1) := by decide +kernel
theorem dX9_append_0 : decode cX9_append 0 = .ok (.aload_n 0, 1) := by decide +kernel
theorem dX9_append_1 : decode cX9_append 1 = .ok (.getfield 10, 3) := by decide +kernel
theorem dX9_append_4 : decode cX9_append 4 = .ok (.getfield 44, 3) := by decide +kernel
theorem dX9_append_7 : decode cX9_append 7 = .ok (.astore 6, 2) := by decide +kernel
theorem dX9_append_9 : decode cX9_append 9 = .ok (.aload 6, 2) := by decide +kernel
theorem dX9_append_11 : decode cX9_append 11 = .ok (.getfield 48, 3) := by decide +kernel
theorem dX9_append_14 : decode cX9_append 14 = .ok (.bipush 20, 2) := by decide +kernel
theorem dX9_append_16 : decode cX9_append 16 = .ok (.iadd, 1) := by decide +kernel
theorem dX9_append_17 : decode cX9_append 17 = .ok (.sipush 500, 3) := by decide +kernel
theorem dX9_append_20 : decode cX9_append 20 = .ok (.if_icmp .le 5, 3) := by decide +kernel
theorem dX9_append_23 : decode cX9_append 23 = .ok (.iconst (-1), 1) := by decide +kernel
theorem dX9_append_24 : decode cX9_append 24 = .ok (.ireturn, 1) := by decide +kernel
theorem dX9_append_25 : decode cX9_append 25 = .ok (.aload 6, 2) := by decide +kernel
theorem dX9_append_27 : decode cX9_append 27 = .ok (.iload_n 1, 1) := by decide +kernel
theorem dX9_append_28 : decode cX9_append 28 = .ok (.invokevirtual 54, 3) := by decide +kernel
theorem dX9_append_31 : decode cX9_append 31 = .ok (.aload 6, 2) := by decide +kernel
theorem dX9_append_33 : decode cX9_append 33 = .ok (.iload_n 2, 1) := by decide +kernel
theorem dX9_append_34 : decode cX9_append 34 = .ok (.invokevirtual 54, 3) := by decide +kernel
theorem dX9_append_37 : decode cX9_append 37 = .ok (.aload 6, 2) := by decide +kernel
theorem dX9_append_39 : decode cX9_append 39 = .ok (.iload_n 3, 1) := by decide +kernel
theorem dX9_append_40 : decode cX9_append 40 = .ok (.invokevirtual 54, 3) := by decide +kernel
theorem dX9_append_43 : decode cX9_append 43 = .ok (.aload 6, 2) := by decide +kernel
theorem dX9_append_45 : decode cX9_append 45 = .ok (.iload 4, 2) := by decide +kernel
theorem dX9_append_47 : decode cX9_append 47 = .ok (.invokevirtual 54, 3) := by decide +kernel
theorem dX9_append_50 : decode cX9_append 50 = .ok (.aload 6, 2) := by decide +kernel
theorem dX9_append_52 : decode cX9_append 52 = .ok (.iload 5, 2) := by decide +kernel
theorem dX9_append_54 : decode cX9_append 54 = .ok (.invokevirtual 54, 3) := by decide +kernel
theorem dX9_append_57 : decode cX9_append 57 = .ok (.aload 6, 2) := by decide +kernel
theorem dX9_append_59 : decode cX9_append 59 = .ok (.getfield 48, 3) := by decide +kernel
theorem dX9_append_62 : decode cX9_append 62 = .ok (.ireturn, 1) := by decide +kernel
theorem dX9_parseSetup_0 : decode cX9_parseSetup 0 = .ok (.iload_n 1, 1) := by decide +kernel
theorem dX9_parseSetup_1 : decode cX9_parseSetup 1 = .ok (.ifCond .lt 17, 3) := by decide +kernel
theorem dX9_parseSetup_4 : decode cX9_parseSetup 4 = .ok (.iload_n 1, 1) := by decide +kernel
theorem dX9_parseSetup_5 : decode cX9_parseSetup 5 = .ok (.aload_n 0, 1) := by decide +kernel
theorem dX9_parseSetup_6 : decode cX9_parseSetup 6 = .ok (.getfield 10, 3) := by decide +kernel
theorem dX9_parseSetup_9 : decode cX9_parseSetup 9 = .ok (.getfield 44, 3) := by decide +kernel
theorem dX9_parseSetup_12 : decode cX9_parseSetup 12 = .ok (.getfield 48, 3) := by decide +kernel
theorem dX9_parseSetup_15 : decode cX9_parseSetup 15 = .ok (.if_icmp .le 13, 3) := by decide +kernel
theorem dX9_parseSetup_18 : decode cX9_parseSetup 18 = .ok (.new 58, 3) := by decide +kernel
theorem dX9_parseSetup_21 : decode cX9_parseSetup 21 = .ok (.dup, 1) := by decide +kernel
theorem dX9_parseSetup_22 : decode cX9_parseSetup 22 = .ok (.ldc 60, 2) := by decide +kernel
theorem dX9_parseSetup_24 : decode cX9_parseSetup 24 = .ok (.invokespecial 62, 3) := by decide +kernel
theorem dX9_parseSetup_27 : decode cX9_parseSetup 27 = .ok (.athrow, 1) := by decide +kernel
theorem dX9_parseSetup_28 : decode cX9_parseSetup 28 = .ok (.aload_n 0, 1) := by decide +kernel
theorem dX9_parseSetup_29 : decode cX9_parseSetup 29 = .ok (.getfield 10, 3) := by decide +kernel
theorem dX9_parseSetup_32 : decode cX9_parseSetup 32 = .ok (.iload_n 1, 1) := by decide +kernel
theorem dX9_parseSetup_33 : decode cX9_parseSetup 33 = .ok (.invokevirtual 65, 3) := by decide +kernel
theorem dX9_parseSetup_36 : decode cX9_parseSetup 36 = .ok (.istore_n 2, 1) := by decide +kernel
theorem dX9_parseSetup_37 : decode cX9_parseSetup 37 = .ok (.aload_n 0, 1) := by decide +kernel
theorem dX9_parseSetup_38 : decode cX9_parseSetup 38 = .ok (.getfield 10, 3) := by decide +kernel
theorem dX9_parseSetup_41 : decode cX9_parseSetup 41 = .ok (.getfield 44, 3) := by decide +kernel
theorem dX9_parseSetup_44 : decode cX9_parseSetup 44 = .ok (.iconst 0, 1) := by decide +kernel
theorem dX9_parseSetup_45 : decode cX9_parseSetup 45 = .ok (.putfield 48, 3) := by decide +kernel
theorem dX9_parseSetup_48 : decode cX9_parseSetup 48 = .ok (.iload_n 2, 1) := by decide +kernel
theorem dX9_parseSetup_49 : decode cX9_parseSetup 49 = .ok (.ifCond .ne 13, 3) := by decide +kernel
theorem dX9_parseSetup_52 : decode cX9_parseSetup 52 = .ok (.new 69, 3) := by decide +kernel
theorem dX9_parseSetup_55 : decode cX9_parseSetup 55 = .ok (.dup, 1) := by decide +kernel
theorem dX9_parseSetup_56 : decode cX9_parseSetup 56 = .ok (.ldc 71, 2) := by decide +kernel
theorem dX9_parseSetup_58 : decode cX9_parseSetup 58 = .ok (.invokespecial 73, 3) := by decide +kernel
theorem dX9_parseSetup_61 : decode cX9_parseSetup 61 = .ok (.athrow, 1) := by decide +kernel
theorem dX9_parseSetup_62 : decode cX9_parseSetup 62 = .ok (.aload_n 0, 1) := by decide +kernel
theorem dX9_parseSetup_63 : decode cX9_parseSetup 63 = .ok (.getfield 19, 3) := by decide +kernel
theorem dX9_parseSetup_66 : decode cX9_parseSetup 66 = .ok (.aload_n 0, 1) := by decide +kernel
theorem dX9_parseSetup_67 : decode cX9_parseSetup 67 = .ok (.getfield 10, 3) := by decide +kernel
theorem dX9_parseSetup_70 : decode cX9_parseSetup 70 = .ok (.getfield 74, 3) := by decide +kernel
theorem dX9_parseSetup_73 : decode cX9_parseSetup 73 = .ok (.invokevirtual 77, 3) := by decide +kernel
theorem dX9_parseSetup_76 : decode cX9_parseSetup 76 = .ok (.aload_n 0, 1) := by decide +kernel
theorem dX9_parseSetup_77 : decode cX9_parseSetup 77 = .ok (.iconst 1, 1) := by decide +kernel
theorem dX9_parseSetup_78 : decode cX9_parseSetup 78 = .ok (.putfield 81, 3) := by decide +kernel
theorem dX9_parseSetup_81 : decode cX9_parseSetup 81 = .ok (.aload_n 0, 1) := by decide +kernel
theorem dX9_parseSetup_82 : decode cX9_parseSetup 82 = .ok (.iconst 0, 1) := by decide +kernel
theorem dX9_parseSetup_83 : decode cX9_parseSetup 83 = .ok (.putfield 85, 3) := by decide +kernel
theorem dX9_parseSetup_86 : decode cX9_parseSetup 86 = .ok (.iconst 0, 1) := by decide +kernel
theorem dX9_parseSetup_87 : decode cX9_parseSetup 87 = .ok (.istore_n 3, 1) := by decide +kernel
theorem dX9_parseSetup_88 : decode cX9_parseSetup 88 = .ok (.iload_n 3, 1) := by decide +kernel
theorem dX9_parseSetup_89 : decode cX9_parseSetup 89 = .ok (.iconst 2, 1) := by decide +kernel
theorem dX9_parseSetup_90 : decode cX9_parseSetup 90 = .ok (.if_icmp .ge 16, 3) := by decide +kernel
theorem dX9_parseSetup_93 : decode cX9_parseSetup 93 = .ok (.aload_n 0, 1) := by decide +kernel
theorem dX9_parseSetup_94 : decode cX9_parseSetup 94 = .ok (.getfield 33, 3) := by decide +kernel
theorem dX9_parseSetup_97 : decode cX9_parseSetup 97 = .ok (.iload_n 3, 1) := by decide +kernel
theorem dX9_parseSetup_98 : decode cX9_parseSetup 98 = .ok (.iconst 0, 1) := by decide +kernel
theorem dX9_parseSetup_99 : decode cX9_parseSetup 99 = .ok (.bastore, 1) := by decide +kernel
theorem dX9_parseSetup_100 : decode cX9_parseSetup 100 = .ok (.iinc 3 1, 3) := by decide +kernel
theorem dX9_parseSetup_103 : decode cX9_parseSetup 103 = .ok (.goto (-15), 3) := by decide +kernel
theorem dX9_parseSetup_106 : decode cX9_parseSetup 106 = .ok (.aload_n 0, 1) := by decide +kernel
theorem dX9_parseSetup_107 : decode cX9_parseSetup 107 = .ok (.getfield 19, 3) := by decide +kernel
theorem dX9_parseSetup_110 : decode cX9_parseSetup 110 = .ok (.getfield 88, 3) := by decide +kernel
theorem dX9_parseSetup_113 : decode cX9_parseSetup 113 = .ok (.ireturn, 1) := by decide +kernel
theorem dX9_day_0 : decode cX9_day 0 = .ok (.aload_n 0, 1) := by decide +kernel
theorem dX9_day_1 : decode cX9_day 1 = .ok (.invokevirtual 97, 3) := by decide +kernel
theorem dX9_day_4 : decode cX9_day 4 = .ok (.getfield 101, 3) := by decide +kernel
theorem dX9_day_7 : decode cX9_day 7 = .ok (.ireturn, 1) := by decide +kernel
theorem dX9_dayOfYear_0 : decode cX9_dayOfYear 0 = .ok (.aload_n 0, 1) := by decide +kernel
theorem dX9_dayOfYear_1 : decode cX9_dayOfYear 1 = .ok (.invokevirtual 97, 3) := by decide +kernel
theorem dX9_dayOfYear_4 : decode cX9_dayOfYear 4 = .ok (.invokevirtual 107, 3) := by decide +kernel
theorem dX9_dayOfYear_7 : decode cX9_dayOfYear 7 = .ok (.ireturn, 1) := by decide +kernel
theorem dX9_grantedCount_0 : decode cX9_grantedCount 0 = .ok (.aload_n 0, 1) := by decide +kernel
theorem dX9_grantedCount_1 : decode cX9_grantedCount 1 = .ok (.invokevirtual 97, 3) := by decide +kernel
theorem dX9_grantedCount_4 : decode cX9_grantedCount 4 = .ok (.invokevirtual 111, 3) := by decide +kernel
theorem dX9_grantedCount_7 : decode cX9_grantedCount 7 = .ok (.ireturn, 1) := by decide +kernel
theorem dX9_fadedCount_0 : decode cX9_fadedCount 0 = .ok (.aload_n 0, 1) := by decide +kernel
theorem dX9_fadedCount_1 : decode cX9_fadedCount 1 = .ok (.invokevirtual 97, 3) := by decide +kernel
theorem dX9_fadedCount_4 : decode cX9_fadedCount 4 = .ok (.invokevirtual 114, 3) := by decide +kernel
theorem dX9_fadedCount_7 : decode cX9_fadedCount 7 = .ok (.ireturn, 1) := by decide +kernel
theorem dX9_imbalance_0 : decode cX9_imbalance 0 = .ok (.aload_n 0, 1) := by decide +kernel
theorem dX9_imbalance_1 : decode cX9_imbalance 1 = .ok (.invokevirtual 97, 3) := by decide +kernel
theorem dX9_imbalance_4 : decode cX9_imbalance 4 = .ok (.astore_n 1, 1) := by decide +kernel
theorem dX9_imbalance_5 : decode cX9_imbalance 5 = .ok (.aload_n 1, 1) := by decide +kernel
theorem dX9_imbalance_6 : decode cX9_imbalance 6 = .ok (.invokevirtual 117, 3) := by decide +kernel
theorem dX9_imbalance_9 : decode cX9_imbalance 9 = .ok (.aload_n 1, 1) := by decide +kernel
theorem dX9_imbalance_10 : decode cX9_imbalance 10 = .ok (.getfield 120, 3) := by decide +kernel
theorem dX9_imbalance_13 : decode cX9_imbalance 13 = .ok (.isub, 1) := by decide +kernel
theorem dX9_imbalance_14 : decode cX9_imbalance 14 = .ok (.invokestatic 123, 3) := by decide +kernel
theorem dX9_imbalance_17 : decode cX9_imbalance 17 = .ok (.aload_n 1, 1) := by decide +kernel
theorem dX9_imbalance_18 : decode cX9_imbalance 18 = .ok (.invokevirtual 129, 3) := by decide +kernel
theorem dX9_imbalance_21 : decode cX9_imbalance 21 = .ok (.iadd, 1) := by decide +kernel
theorem dX9_imbalance_22 : decode cX9_imbalance 22 = .ok (.ireturn, 1) := by decide +kernel
theorem dX9_personCount_0 : decode cX9_personCount 0 = .ok (.aload_n 0, 1) := by decide +kernel
theorem dX9_personCount_1 : decode cX9_personCount 1 = .ok (.invokevirtual 97, 3) := by decide +kernel
theorem dX9_personCount_4 : decode cX9_personCount 4 = .ok (.getfield 140, 3) := by decide +kernel
theorem dX9_personCount_7 : decode cX9_personCount 7 = .ok (.ireturn, 1) := by decide +kernel
theorem dX9_coins_0 : decode cX9_coins 0 = .ok (.aload_n 0, 1) := by decide +kernel
theorem dX9_coins_1 : decode cX9_coins 1 = .ok (.iload_n 1, 1) := by decide +kernel
theorem dX9_coins_2 : decode cX9_coins 2 = .ok (.invokevirtual 143, 3) := by decide +kernel
theorem dX9_coins_5 : decode cX9_coins 5 = .ok (.getfield 156, 3) := by decide +kernel
theorem dX9_coins_8 : decode cX9_coins 8 = .ok (.ireturn, 1) := by decide +kernel
theorem dX9_birthday_0 : decode cX9_birthday 0 = .ok (.aload_n 0, 1) := by decide +kernel
theorem dX9_birthday_1 : decode cX9_birthday 1 = .ok (.iload_n 1, 1) := by decide +kernel
theorem dX9_birthday_2 : decode cX9_birthday 2 = .ok (.invokevirtual 143, 3) := by decide +kernel
theorem dX9_birthday_5 : decode cX9_birthday 5 = .ok (.getfield 159, 3) := by decide +kernel
theorem dX9_birthday_8 : decode cX9_birthday 8 = .ok (.ireturn, 1) := by decide +kernel
theorem dX9_candles_0 : decode cX9_candles 0 = .ok (.aload_n 0, 1) := by decide +kernel
theorem dX9_candles_1 : decode cX9_candles 1 = .ok (.iload_n 1, 1) := by decide +kernel
theorem dX9_candles_2 : decode cX9_candles 2 = .ok (.invokevirtual 143, 3) := by decide +kernel
theorem dX9_candles_5 : decode cX9_candles 5 = .ok (.getfield 162, 3) := by decide +kernel
theorem dX9_candles_8 : decode cX9_candles 8 = .ok (.ireturn, 1) := by decide +kernel
theorem dX9_happiness_0 : decode cX9_happiness 0 = .ok (.aload_n 0, 1) := by decide +kernel
theorem dX9_happiness_1 : decode cX9_happiness 1 = .ok (.iload_n 1, 1) := by decide +kernel
theorem dX9_happiness_2 : decode cX9_happiness 2 = .ok (.invokevirtual 143, 3) := by decide +kernel
theorem dX9_happiness_5 : decode cX9_happiness 5 = .ok (.getfield 165, 3) := by decide +kernel
theorem dX9_happiness_8 : decode cX9_happiness 8 = .ok (.ireturn, 1) := by decide +kernel
theorem dX9_shoppingLimit_0 : decode cX9_shoppingLimit 0 = .ok (.aload_n 0, 1) := by decide +kernel
theorem dX9_shoppingLimit_1 : decode cX9_shoppingLimit 1 = .ok (.iload_n 1, 1) := by decide +kernel
theorem dX9_shoppingLimit_2 : decode cX9_shoppingLimit 2 = .ok (.invokevirtual 143, 3) := by decide +kernel
theorem dX9_shoppingLimit_5 : decode cX9_shoppingLimit 5 = .ok (.getfield 174, 3) := by decide +kernel
theorem dX9_shoppingLimit_8 : decode cX9_shoppingLimit 8 = .ok (.ireturn, 1) := by decide +kernel
theorem dX9_daysUntilBirthday_0 : decode cX9_daysUntilBirthday 0 = .ok (.aload_n 0, 1) := by decide +kernel
theorem dX9_daysUntilBirthday_1 : decode cX9_daysUntilBirthday 1 = .ok (.iload_n 1, 1) := by decide +kernel
theorem dX9_daysUntilBirthday_2 : decode cX9_daysUntilBirthday 2 = .ok (.invokevirtual 143, 3) := by decide +kernel
theorem dX9_daysUntilBirthday_5 : decode cX9_daysUntilBirthday 5 = .ok (.getfield 159, 3) := by decide +kernel
theorem dX9_daysUntilBirthday_8 : decode cX9_daysUntilBirthday 8 = .ok (.aload_n 0, 1) := by decide +kernel
theorem dX9_daysUntilBirthday_9 : decode cX9_daysUntilBirthday 9 = .ok (.getfield 19, 3) := by decide +kernel
theorem dX9_daysUntilBirthday_12 : decode cX9_daysUntilBirthday 12 = .ok (.invokevirtual 107, 3) := by decide +kernel
theorem dX9_daysUntilBirthday_15 : decode cX9_daysUntilBirthday 15 = .ok (.isub, 1) := by decide +kernel
theorem dX9_daysUntilBirthday_16 : decode cX9_daysUntilBirthday 16 = .ok (.istore_n 2, 1) := by decide +kernel
theorem dX9_daysUntilBirthday_17 : decode cX9_daysUntilBirthday 17 = .ok (.iload_n 2, 1) := by decide +kernel
theorem dX9_daysUntilBirthday_18 : decode cX9_daysUntilBirthday 18 = .ok (.ifCond .ge 15, 3) := by decide +kernel
theorem dX9_daysUntilBirthday_21 : decode cX9_daysUntilBirthday 21 = .ok (.iload_n 2, 1) := by decide +kernel
theorem dX9_daysUntilBirthday_22 : decode cX9_daysUntilBirthday 22 = .ok (.aload_n 0, 1) := by decide +kernel
theorem dX9_daysUntilBirthday_23 : decode cX9_daysUntilBirthday 23 = .ok (.getfield 19, 3) := by decide +kernel
theorem dX9_daysUntilBirthday_26 : decode cX9_daysUntilBirthday 26 = .ok (.getfield 104, 3) := by decide +kernel
theorem dX9_daysUntilBirthday_29 : decode cX9_daysUntilBirthday 29 = .ok (.iadd, 1) := by decide +kernel
theorem dX9_daysUntilBirthday_30 : decode cX9_daysUntilBirthday 30 = .ok (.goto 4, 3) := by decide +kernel
theorem dX9_daysUntilBirthday_33 : decode cX9_daysUntilBirthday 33 = .ok (.iload_n 2, 1) := by decide +kernel
theorem dX9_daysUntilBirthday_34 : decode cX9_daysUntilBirthday 34 = .ok (.ireturn, 1) := by decide +kernel
theorem dX9_stallCount_0 : decode cX9_stallCount 0 = .ok (.aload_n 0, 1) := by decide +kernel
theorem dX9_stallCount_1 : decode cX9_stallCount 1 = .ok (.invokevirtual 97, 3) := by decide +kernel
theorem dX9_stallCount_4 : decode cX9_stallCount 4 = .ok (.getfield 177, 3) := by decide +kernel
theorem dX9_stallCount_7 : decode cX9_stallCount 7 = .ok (.ireturn, 1) := by decide +kernel
theorem dX9_cash_0 : decode cX9_cash 0 = .ok (.aload_n 0, 1) := by decide +kernel
theorem dX9_cash_1 : decode cX9_cash 1 = .ok (.iload_n 1, 1) := by decide +kernel
theorem dX9_cash_2 : decode cX9_cash 2 = .ok (.invokevirtual 180, 3) := by decide +kernel
theorem dX9_cash_5 : decode cX9_cash 5 = .ok (.getfield 184, 3) := by decide +kernel
theorem dX9_cash_8 : decode cX9_cash 8 = .ok (.ireturn, 1) := by decide +kernel
theorem dX9_stars_0 : decode cX9_stars 0 = .ok (.aload_n 0, 1) := by decide +kernel
theorem dX9_stars_1 : decode cX9_stars 1 = .ok (.iload_n 1, 1) := by decide +kernel
theorem dX9_stars_2 : decode cX9_stars 2 = .ok (.invokevirtual 180, 3) := by decide +kernel
theorem dX9_stars_5 : decode cX9_stars 5 = .ok (.getfield 189, 3) := by decide +kernel
theorem dX9_stars_8 : decode cX9_stars 8 = .ok (.ireturn, 1) := by decide +kernel
theorem dX9_margin_0 : decode cX9_margin 0 = .ok (.aload_n 0, 1) := by decide +kernel
theorem dX9_margin_1 : decode cX9_margin 1 = .ok (.iload_n 1, 1) := by decide +kernel
theorem dX9_margin_2 : decode cX9_margin 2 = .ok (.invokevirtual 180, 3) := by decide +kernel
theorem dX9_margin_5 : decode cX9_margin 5 = .ok (.getfield 192, 3) := by decide +kernel
theorem dX9_margin_8 : decode cX9_margin 8 = .ok (.ireturn, 1) := by decide +kernel
theorem dX9_wear_0 : decode cX9_wear 0 = .ok (.aload_n 0, 1) := by decide +kernel
theorem dX9_wear_1 : decode cX9_wear 1 = .ok (.iload_n 1, 1) := by decide +kernel
theorem dX9_wear_2 : decode cX9_wear 2 = .ok (.invokevirtual 201, 3) := by decide +kernel
theorem dX9_wear_5 : decode cX9_wear 5 = .ok (.getfield 214, 3) := by decide +kernel
theorem dX9_wear_8 : decode cX9_wear 8 = .ok (.ireturn, 1) := by decide +kernel
theorem dX9_value_0 : decode cX9_value 0 = .ok (.aload_n 0, 1) := by decide +kernel
theorem dX9_value_1 : decode cX9_value 1 = .ok (.iload_n 1, 1) := by decide +kernel
theorem dX9_value_2 : decode cX9_value 2 = .ok (.invokevirtual 201, 3) := by decide +kernel
theorem dX9_value_5 : decode cX9_value 5 = .ok (.invokevirtual 217, 3) := by decide +kernel
theorem dX9_value_8 : decode cX9_value 8 = .ok (.ireturn, 1) := by decide +kernel
theorem dX9_owner_0 : decode cX9_owner 0 = .ok (.aload_n 0, 1) := by decide +kernel
theorem dX9_owner_1 : decode cX9_owner 1 = .ok (.iload_n 1, 1) := by decide +kernel
theorem dX9_owner_2 : decode cX9_owner 2 = .ok (.invokevirtual 201, 3) := by decide +kernel
theorem dX9_owner_5 : decode cX9_owner 5 = .ok (.getfield 220, 3) := by decide +kernel
theorem dX9_owner_8 : decode cX9_owner 8 = .ok (.ireturn, 1) := by decide +kernel
theorem dX9_stallOf_0 : decode cX9_stallOf 0 = .ok (.aload_n 0, 1) := by decide +kernel
theorem dX9_stallOf_1 : decode cX9_stallOf 1 = .ok (.iload_n 1, 1) := by decide +kernel
theorem dX9_stallOf_2 : decode cX9_stallOf 2 = .ok (.invokevirtual 201, 3) := by decide +kernel
theorem dX9_stallOf_5 : decode cX9_stallOf 5 = .ok (.getfield 223, 3) := by decide +kernel
theorem dX9_stallOf_8 : decode cX9_stallOf 8 = .ok (.ireturn, 1) := by decide +kernel
theorem dX9_isGranted_0 : decode cX9_isGranted 0 = .ok (.aload_n 0, 1) := by decide +kernel
theorem dX9_isGranted_1 : decode cX9_isGranted 1 = .ok (.iload_n 1, 1) := by decide +kernel
theorem dX9_isGranted_2 : decode cX9_isGranted 2 = .ok (.invokevirtual 201, 3) := by decide +kernel
theorem dX9_isGranted_5 : decode cX9_isGranted 5 = .ok (.getfield 226, 3) := by decide +kernel
theorem dX9_isGranted_8 : decode cX9_isGranted 8 = .ok (.ireturn, 1) := by decide +kernel
theorem dX9_purchaseDay_0 : decode cX9_purchaseDay 0 = .ok (.aload_n 0, 1) := by decide +kernel
theorem dX9_purchaseDay_1 : decode cX9_purchaseDay 1 = .ok (.iload_n 1, 1) := by decide +kernel
theorem dX9_purchaseDay_2 : decode cX9_purchaseDay 2 = .ok (.invokevirtual 201, 3) := by decide +kernel
theorem dX9_purchaseDay_5 : decode cX9_purchaseDay 5 = .ok (.getfield 229, 3) := by decide +kernel
theorem dX9_purchaseDay_8 : decode cX9_purchaseDay 8 = .ok (.ireturn, 1) := by decide +kernel
theorem dX9_purchasePrice_0 : decode cX9_purchasePrice 0 = .ok (.aload_n 0, 1) := by decide +kernel
theorem dX9_purchasePrice_1 : decode cX9_purchasePrice 1 = .ok (.iload_n 1, 1) := by decide +kernel
theorem dX9_purchasePrice_2 : decode cX9_purchasePrice 2 = .ok (.invokevirtual 201, 3) := by decide +kernel
theorem dX9_purchasePrice_5 : decode cX9_purchasePrice 5 = .ok (.getfield 232, 3) := by decide +kernel
theorem dX9_purchasePrice_8 : decode cX9_purchasePrice 8 = .ok (.ireturn, 1) := by decide +kernel
theorem dX9_price_0 : decode cX9_price 0 = .ok (.aload_n 0, 1) := by decide +kernel
theorem dX9_price_1 : decode cX9_price 1 = .ok (.iload_n 1, 1) := by decide +kernel
theorem dX9_price_2 : decode cX9_price 2 = .ok (.invokevirtual 235, 3) := by decide +kernel
theorem dX9_price_5 : decode cX9_price 5 = .ok (.aload_n 0, 1) := by decide +kernel
theorem dX9_price_6 : decode cX9_price 6 = .ok (.getfield 19, 3) := by decide +kernel
theorem dX9_price_9 : decode cX9_price 9 = .ok (.iload_n 1, 1) := by decide +kernel
theorem dX9_price_10 : decode cX9_price 10 = .ok (.invokevirtual 238, 3) := by decide +kernel
theorem dX9_price_13 : decode cX9_price 13 = .ok (.ireturn, 1) := by decide +kernel
theorem dX9_offer_0 : decode cX9_offer 0 = .ok (.aload_n 0, 1) := by decide +kernel
theorem dX9_offer_1 : decode cX9_offer 1 = .ok (.iload_n 1, 1) := by decide +kernel
theorem dX9_offer_2 : decode cX9_offer 2 = .ok (.invokevirtual 235, 3) := by decide +kernel
theorem dX9_offer_5 : decode cX9_offer 5 = .ok (.aload_n 0, 1) := by decide +kernel
theorem dX9_offer_6 : decode cX9_offer 6 = .ok (.iload_n 2, 1) := by decide +kernel
theorem dX9_offer_7 : decode cX9_offer 7 = .ok (.invokevirtual 195, 3) := by decide +kernel
theorem dX9_offer_10 : decode cX9_offer 10 = .ok (.aload_n 0, 1) := by decide +kernel
theorem dX9_offer_11 : decode cX9_offer 11 = .ok (.getfield 19, 3) := by decide +kernel
theorem dX9_offer_14 : decode cX9_offer 14 = .ok (.getfield 241, 3) := by decide +kernel
theorem dX9_offer_17 : decode cX9_offer 17 = .ok (.iload_n 1, 1) := by decide +kernel
theorem dX9_offer_18 : decode cX9_offer 18 = .ok (.aaload, 1) := by decide +kernel
theorem dX9_offer_19 : decode cX9_offer 19 = .ok (.getfield 220, 3) := by decide +kernel
theorem dX9_offer_22 : decode cX9_offer 22 = .ok (.iconst (-1), 1) := by decide +kernel
theorem dX9_offer_23 : decode cX9_offer 23 = .ok (.if_icmp .ne 7, 3) := by decide +kernel
theorem dX9_offer_26 : decode cX9_offer 26 = .ok (.iconst (-1), 1) := by decide +kernel
theorem dX9_offer_27 : decode cX9_offer 27 = .ok (.goto 12, 3) := by decide +kernel
theorem dX9_offer_30 : decode cX9_offer 30 = .ok (.aload_n 0, 1) := by decide +kernel
theorem dX9_offer_31 : decode cX9_offer 31 = .ok (.getfield 19, 3) := by decide +kernel
theorem dX9_offer_34 : decode cX9_offer 34 = .ok (.iload_n 1, 1) := by decide +kernel
theorem dX9_offer_35 : decode cX9_offer 35 = .ok (.iload_n 2, 1) := by decide +kernel
theorem dX9_offer_36 : decode cX9_offer 36 = .ok (.invokevirtual 245, 3) := by decide +kernel
theorem dX9_offer_39 : decode cX9_offer 39 = .ok (.ireturn, 1) := by decide +kernel
theorem dX9_refund_0 : decode cX9_refund 0 = .ok (.aload_n 0, 1) := by decide +kernel
theorem dX9_refund_1 : decode cX9_refund 1 = .ok (.iload_n 1, 1) := by decide +kernel
theorem dX9_refund_2 : decode cX9_refund 2 = .ok (.invokevirtual 235, 3) := by decide +kernel
theorem dX9_refund_5 : decode cX9_refund 5 = .ok (.aload_n 0, 1) := by decide +kernel
theorem dX9_refund_6 : decode cX9_refund 6 = .ok (.getfield 19, 3) := by decide +kernel
theorem dX9_refund_9 : decode cX9_refund 9 = .ok (.iload_n 1, 1) := by decide +kernel
theorem dX9_refund_10 : decode cX9_refund 10 = .ok (.invokevirtual 248, 3) := by decide +kernel
theorem dX9_refund_13 : decode cX9_refund 13 = .ok (.ireturn, 1) := by decide +kernel
theorem dX9_buyObstacle_0 : decode cX9_buyObstacle 0 = .ok (.aload_n 0, 1) := by decide +kernel
theorem dX9_buyObstacle_1 : decode cX9_buyObstacle 1 = .ok (.iload_n 1, 1) := by decide +kernel
theorem dX9_buyObstacle_2 : decode cX9_buyObstacle 2 = .ok (.invokevirtual 168, 3) := by decide +kernel
theorem dX9_buyObstacle_5 : decode cX9_buyObstacle 5 = .ok (.aload_n 0, 1) := by decide +kernel
theorem dX9_buyObstacle_6 : decode cX9_buyObstacle 6 = .ok (.iload_n 2, 1) := by decide +kernel
theorem dX9_buyObstacle_7 : decode cX9_buyObstacle 7 = .ok (.invokevirtual 235, 3) := by decide +kernel
theorem dX9_buyObstacle_10 : decode cX9_buyObstacle 10 = .ok (.aload_n 0, 1) := by decide +kernel
theorem dX9_buyObstacle_11 : decode cX9_buyObstacle 11 = .ok (.getfield 19, 3) := by decide +kernel
theorem dX9_buyObstacle_14 : decode cX9_buyObstacle 14 = .ok (.iload_n 1, 1) := by decide +kernel
theorem dX9_buyObstacle_15 : decode cX9_buyObstacle 15 = .ok (.iload_n 2, 1) := by decide +kernel
theorem dX9_buyObstacle_16 : decode cX9_buyObstacle 16 = .ok (.invokevirtual 251, 3) := by decide +kernel
theorem dX9_buyObstacle_19 : decode cX9_buyObstacle 19 = .ok (.ireturn, 1) := by decide +kernel
theorem dX9_returnObstacle_0 : decode cX9_returnObstacle 0 = .ok (.aload_n 0, 1) := by decide +kernel
theorem dX9_returnObstacle_1 : decode cX9_returnObstacle 1 = .ok (.iload_n 1, 1) := by decide +kernel
theorem dX9_returnObstacle_2 : decode cX9_returnObstacle 2 = .ok (.invokevirtual 235, 3) := by decide +kernel
theorem dX9_returnObstacle_5 : decode cX9_returnObstacle 5 = .ok (.aload_n 0, 1) := by decide +kernel
theorem dX9_returnObstacle_6 : decode cX9_returnObstacle 6 = .ok (.getfield 19, 3) := by decide +kernel
theorem dX9_returnObstacle_9 : decode cX9_returnObstacle 9 = .ok (.iload_n 1, 1) := by decide +kernel
theorem dX9_returnObstacle_10 : decode cX9_returnObstacle 10 = .ok (.invokevirtual 257, 3) := by decide +kernel
theorem dX9_returnObstacle_13 : decode cX9_returnObstacle 13 = .ok (.ireturn, 1) := by decide +kernel
theorem dX9_cheapestWish_0 : decode cX9_cheapestWish 0 = .ok (.aload_n 0, 1) := by decide +kernel
theorem dX9_cheapestWish_1 : decode cX9_cheapestWish 1 = .ok (.iload_n 1, 1) := by decide +kernel
theorem dX9_cheapestWish_2 : decode cX9_cheapestWish 2 = .ok (.invokevirtual 143, 3) := by decide +kernel
theorem dX9_cheapestWish_5 : decode cX9_cheapestWish 5 = .ok (.getfield 156, 3) := by decide +kernel
theorem dX9_cheapestWish_8 : decode cX9_cheapestWish 8 = .ok (.istore_n 2, 1) := by decide +kernel
theorem dX9_cheapestWish_9 : decode cX9_cheapestWish 9 = .ok (.aload_n 0, 1) := by decide +kernel
theorem dX9_cheapestWish_10 : decode cX9_cheapestWish 10 = .ok (.getfield 19, 3) := by decide +kernel
theorem dX9_cheapestWish_13 : decode cX9_cheapestWish 13 = .ok (.iload_n 1, 1) := by decide +kernel
theorem dX9_cheapestWish_14 : decode cX9_cheapestWish 14 = .ok (.iload_n 2, 1) := by decide +kernel
theorem dX9_cheapestWish_15 : decode cX9_cheapestWish 15 = .ok (.invokevirtual 263, 3) := by decide +kernel
theorem dX9_cheapestWish_18 : decode cX9_cheapestWish 18 = .ok (.ireturn, 1) := by decide +kernel
theorem dX9_bestGrant_0 : decode cX9_bestGrant 0 = .ok (.aload_n 0, 1) := by decide +kernel
theorem dX9_bestGrant_1 : decode cX9_bestGrant 1 = .ok (.iload_n 1, 1) := by decide +kernel
theorem dX9_bestGrant_2 : decode cX9_bestGrant 2 = .ok (.invokevirtual 168, 3) := by decide +kernel
theorem dX9_bestGrant_5 : decode cX9_bestGrant 5 = .ok (.aload_n 0, 1) := by decide +kernel
theorem dX9_bestGrant_6 : decode cX9_bestGrant 6 = .ok (.getfield 19, 3) := by decide +kernel
theorem dX9_bestGrant_9 : decode cX9_bestGrant 9 = .ok (.iload_n 1, 1) := by decide +kernel
theorem dX9_bestGrant_10 : decode cX9_bestGrant 10 = .ok (.invokevirtual 266, 3) := by decide +kernel
theorem dX9_bestGrant_13 : decode cX9_bestGrant 13 = .ok (.ireturn, 1) := by decide +kernel
theorem dX9_bestOffer_0 : decode cX9_bestOffer 0 = .ok (.aload_n 0, 1) := by decide +kernel
theorem dX9_bestOffer_1 : decode cX9_bestOffer 1 = .ok (.iload_n 1, 1) := by decide +kernel
theorem dX9_bestOffer_2 : decode cX9_bestOffer 2 = .ok (.invokevirtual 235, 3) := by decide +kernel
theorem dX9_bestOffer_5 : decode cX9_bestOffer 5 = .ok (.aload_n 0, 1) := by decide +kernel
theorem dX9_bestOffer_6 : decode cX9_bestOffer 6 = .ok (.getfield 19, 3) := by decide +kernel
theorem dX9_bestOffer_9 : decode cX9_bestOffer 9 = .ok (.iload_n 1, 1) := by decide +kernel
theorem dX9_bestOffer_10 : decode cX9_bestOffer 10 = .ok (.invokevirtual 269, 3) := by decide +kernel
theorem dX9_bestOffer_13 : decode cX9_bestOffer 13 = .ok (.ireturn, 1) := by decide +kernel
theorem dX9_coinsAfter_0 : decode cX9_coinsAfter 0 = .ok (.aload_n 0, 1) := by decide +kernel
theorem dX9_coinsAfter_1 : decode cX9_coinsAfter 1 = .ok (.iload_n 1, 1) := by decide +kernel
theorem dX9_coinsAfter_2 : decode cX9_coinsAfter 2 = .ok (.invokevirtual 168, 3) := by decide +kernel
theorem dX9_coinsAfter_5 : decode cX9_coinsAfter 5 = .ok (.iload_n 2, 1) := by decide +kernel
theorem dX9_coinsAfter_6 : decode cX9_coinsAfter 6 = .ok (.iconst 0, 1) := by decide +kernel
theorem dX9_coinsAfter_7 : decode cX9_coinsAfter 7 = .ok (.sipush 300, 3) := by decide +kernel
theorem dX9_coinsAfter_10 : decode cX9_coinsAfter 10 = .ok (.invokestatic 272, 3) := by decide +kernel
theorem dX9_coinsAfter_13 : decode cX9_coinsAfter 13 = .ok (.aload_n 0, 1) := by decide +kernel
theorem dX9_coinsAfter_14 : decode cX9_coinsAfter 14 = .ok (.getfield 23, 3) := by decide +kernel
theorem dX9_coinsAfter_17 : decode cX9_coinsAfter 17 = .ok (.aload_n 0, 1) := by decide +kernel
theorem dX9_coinsAfter_18 : decode cX9_coinsAfter 18 = .ok (.getfield 19, 3) := by decide +kernel
theorem dX9_coinsAfter_21 : decode cX9_coinsAfter 21 = .ok (.invokevirtual 77, 3) := by decide +kernel
theorem dX9_coinsAfter_24 : decode cX9_coinsAfter 24 = .ok (.aload_n 0, 1) := by decide +kernel
theorem dX9_coinsAfter_25 : decode cX9_coinsAfter 25 = .ok (.getfield 23, 3) := by decide +kernel
theorem dX9_coinsAfter_28 : decode cX9_coinsAfter 28 = .ok (.iload_n 2, 1) := by decide +kernel
theorem dX9_coinsAfter_29 : decode cX9_coinsAfter 29 = .ok (.invokevirtual 276, 3) := by decide +kernel
theorem dX9_coinsAfter_32 : decode cX9_coinsAfter 32 = .ok (.pop, 1) := by decide +kernel
theorem dX9_coinsAfter_33 : decode cX9_coinsAfter 33 = .ok (.aload_n 0, 1) := by decide +kernel
theorem dX9_coinsAfter_34 : decode cX9_coinsAfter 34 = .ok (.getfield 23, 3) := by decide +kernel
theorem dX9_coinsAfter_37 : decode cX9_coinsAfter 37 = .ok (.getfield 279, 3) := by decide +kernel
theorem dX9_coinsAfter_40 : decode cX9_coinsAfter 40 = .ok (.iload_n 1, 1) := by decide +kernel
theorem dX9_coinsAfter_41 : decode cX9_coinsAfter 41 = .ok (.aaload, 1) := by decide +kernel
theorem dX9_coinsAfter_42 : decode cX9_coinsAfter 42 = .ok (.getfield 156, 3) := by decide +kernel
theorem dX9_coinsAfter_45 : decode cX9_coinsAfter 45 = .ok (.ireturn, 1) := by decide +kernel
theorem dX9_valueAfter_0 : decode cX9_valueAfter 0 = .ok (.aload_n 0, 1) := by decide +kernel
theorem dX9_valueAfter_1 : decode cX9_valueAfter 1 = .ok (.iload_n 1, 1) := by decide +kernel
theorem dX9_valueAfter_2 : decode cX9_valueAfter 2 = .ok (.invokevirtual 235, 3) := by decide +kernel
theorem dX9_valueAfter_5 : decode cX9_valueAfter 5 = .ok (.iload_n 2, 1) := by decide +kernel
theorem dX9_valueAfter_6 : decode cX9_valueAfter 6 = .ok (.iconst 0, 1) := by decide +kernel
theorem dX9_valueAfter_7 : decode cX9_valueAfter 7 = .ok (.sipush 300, 3) := by decide +kernel
theorem dX9_valueAfter_10 : decode cX9_valueAfter 10 = .ok (.invokestatic 272, 3) := by decide +kernel
theorem dX9_valueAfter_13 : decode cX9_valueAfter 13 = .ok (.aload_n 0, 1) := by decide +kernel
theorem dX9_valueAfter_14 : decode cX9_valueAfter 14 = .ok (.getfield 23, 3) := by decide +kernel
theorem dX9_valueAfter_17 : decode cX9_valueAfter 17 = .ok (.aload_n 0, 1) := by decide +kernel
theorem dX9_valueAfter_18 : decode cX9_valueAfter 18 = .ok (.getfield 19, 3) := by decide +kernel
theorem dX9_valueAfter_21 : decode cX9_valueAfter 21 = .ok (.invokevirtual 77, 3) := by decide +kernel
theorem dX9_valueAfter_24 : decode cX9_valueAfter 24 = .ok (.aload_n 0, 1) := by decide +kernel
theorem dX9_valueAfter_25 : decode cX9_valueAfter 25 = .ok (.getfield 23, 3) := by decide +kernel
theorem dX9_valueAfter_28 : decode cX9_valueAfter 28 = .ok (.iload_n 2, 1) := by decide +kernel
theorem dX9_valueAfter_29 : decode cX9_valueAfter 29 = .ok (.invokevirtual 276, 3) := by decide +kernel
theorem dX9_valueAfter_32 : decode cX9_valueAfter 32 = .ok (.pop, 1) := by decide +kernel
theorem dX9_valueAfter_33 : decode cX9_valueAfter 33 = .ok (.aload_n 0, 1) := by decide +kernel
theorem dX9_valueAfter_34 : decode cX9_valueAfter 34 = .ok (.getfield 23, 3) := by decide +kernel
theorem dX9_valueAfter_37 : decode cX9_valueAfter 37 = .ok (.getfield 241, 3) := by decide +kernel
theorem dX9_valueAfter_40 : decode cX9_valueAfter 40 = .ok (.iload_n 1, 1) := by decide +kernel
theorem dX9_valueAfter_41 : decode cX9_valueAfter 41 = .ok (.aaload, 1) := by decide +kernel
theorem dX9_valueAfter_42 : decode cX9_valueAfter 42 = .ok (.invokevirtual 217, 3) := by decide +kernel
theorem dX9_valueAfter_45 : decode cX9_valueAfter 45 = .ok (.ireturn, 1) := by decide +kernel
theorem dX9_advance_0 : decode cX9_advance 0 = .ok (.aload_n 0, 1) := by decide +kernel
theorem dX9_advance_1 : decode cX9_advance 1 = .ok (.invokevirtual 97, 3) := by decide +kernel
theorem dX9_advance_4 : decode cX9_advance 4 = .ok (.astore_n 2, 1) := by decide +kernel
theorem dX9_advance_5 : decode cX9_advance 5 = .ok (.iload_n 1, 1) := by decide +kernel
theorem dX9_advance_6 : decode cX9_advance 6 = .ok (.iconst 1, 1) := by decide +kernel
theorem dX9_advance_7 : decode cX9_advance 7 = .ok (.sipush 300, 3) := by decide +kernel
theorem dX9_advance_10 : decode cX9_advance 10 = .ok (.invokestatic 272, 3) := by decide +kernel
theorem dX9_advance_13 : decode cX9_advance 13 = .ok (.aload_n 0, 1) := by decide +kernel
theorem dX9_advance_14 : decode cX9_advance 14 = .ok (.invokevirtual 308, 3) := by decide +kernel
theorem dX9_advance_17 : decode cX9_advance 17 = .ok (.aload_n 2, 1) := by decide +kernel
theorem dX9_advance_18 : decode cX9_advance 18 = .ok (.iload_n 1, 1) := by decide +kernel
theorem dX9_advance_19 : decode cX9_advance 19 = .ok (.invokevirtual 276, 3) := by decide +kernel
theorem dX9_advance_22 : decode cX9_advance 22 = .ok (.ireturn, 1) := by decide +kernel
theorem dX9_buy_0 : decode cX9_buy 0 = .ok (.aload_n 0, 1) := by decide +kernel
theorem dX9_buy_1 : decode cX9_buy 1 = .ok (.iload_n 1, 1) := by decide +kernel
theorem dX9_buy_2 : decode cX9_buy 2 = .ok (.invokevirtual 168, 3) := by decide +kernel
theorem dX9_buy_5 : decode cX9_buy 5 = .ok (.aload_n 0, 1) := by decide +kernel
theorem dX9_buy_6 : decode cX9_buy 6 = .ok (.iload_n 2, 1) := by decide +kernel
theorem dX9_buy_7 : decode cX9_buy 7 = .ok (.invokevirtual 235, 3) := by decide +kernel
theorem dX9_buy_10 : decode cX9_buy 10 = .ok (.aload_n 0, 1) := by decide +kernel
theorem dX9_buy_11 : decode cX9_buy 11 = .ok (.getfield 19, 3) := by decide +kernel
theorem dX9_buy_14 : decode cX9_buy 14 = .ok (.iload_n 1, 1) := by decide +kernel
theorem dX9_buy_15 : decode cX9_buy 15 = .ok (.iload_n 2, 1) := by decide +kernel
theorem dX9_buy_16 : decode cX9_buy 16 = .ok (.invokevirtual 251, 3) := by decide +kernel
theorem dX9_buy_19 : decode cX9_buy 19 = .ok (.invokestatic 311, 3) := by decide +kernel
theorem dX9_buy_22 : decode cX9_buy 22 = .ok (.aload_n 0, 1) := by decide +kernel
theorem dX9_buy_23 : decode cX9_buy 23 = .ok (.invokevirtual 308, 3) := by decide +kernel
theorem dX9_buy_26 : decode cX9_buy 26 = .ok (.aload_n 0, 1) := by decide +kernel
theorem dX9_buy_27 : decode cX9_buy 27 = .ok (.getfield 19, 3) := by decide +kernel
theorem dX9_buy_30 : decode cX9_buy 30 = .ok (.iload_n 1, 1) := by decide +kernel
theorem dX9_buy_31 : decode cX9_buy 31 = .ok (.iload_n 2, 1) := by decide +kernel
theorem dX9_buy_32 : decode cX9_buy 32 = .ok (.invokevirtual 314, 3) := by decide +kernel
theorem dX9_buy_35 : decode cX9_buy 35 = .ok (.ireturn, 1) := by decide +kernel
theorem dX9_sell_0 : decode cX9_sell 0 = .ok (.aload_n 0, 1) := by decide +kernel
theorem dX9_sell_1 : decode cX9_sell 1 = .ok (.iload_n 1, 1) := by decide +kernel
theorem dX9_sell_2 : decode cX9_sell 2 = .ok (.invokevirtual 235, 3) := by decide +kernel
theorem dX9_sell_5 : decode cX9_sell 5 = .ok (.aload_n 0, 1) := by decide +kernel
theorem dX9_sell_6 : decode cX9_sell 6 = .ok (.iload_n 2, 1) := by decide +kernel
theorem dX9_sell_7 : decode cX9_sell 7 = .ok (.invokevirtual 195, 3) := by decide +kernel
theorem dX9_sell_10 : decode cX9_sell 10 = .ok (.aload_n 0, 1) := by decide +kernel
theorem dX9_sell_11 : decode cX9_sell 11 = .ok (.getfield 19, 3) := by decide +kernel
theorem dX9_sell_14 : decode cX9_sell 14 = .ok (.iload_n 1, 1) := by decide +kernel
theorem dX9_sell_15 : decode cX9_sell 15 = .ok (.iload_n 2, 1) := by decide +kernel
theorem dX9_sell_16 : decode cX9_sell 16 = .ok (.invokevirtual 254, 3) := by decide +kernel
theorem dX9_sell_19 : decode cX9_sell 19 = .ok (.invokestatic 311, 3) := by decide +kernel
theorem dX9_sell_22 : decode cX9_sell 22 = .ok (.aload_n 0, 1) := by decide +kernel
theorem dX9_sell_23 : decode cX9_sell 23 = .ok (.invokevirtual 308, 3) := by decide +kernel
theorem dX9_sell_26 : decode cX9_sell 26 = .ok (.aload_n 0, 1) := by decide +kernel
theorem dX9_sell_27 : decode cX9_sell 27 = .ok (.getfield 19, 3) := by decide +kernel
theorem dX9_sell_30 : decode cX9_sell 30 = .ok (.iload_n 1, 1) := by decide +kernel
theorem dX9_sell_31 : decode cX9_sell 31 = .ok (.iload_n 2, 1) := by decide +kernel
theorem dX9_sell_32 : decode cX9_sell 32 = .ok (.invokevirtual 317, 3) := by decide +kernel
theorem dX9_sell_35 : decode cX9_sell 35 = .ok (.ireturn, 1) := by decide +kernel
theorem dX9_returnWish_0 : decode cX9_returnWish 0 = .ok (.aload_n 0, 1) := by decide +kernel
theorem dX9_returnWish_1 : decode cX9_returnWish 1 = .ok (.iload_n 1, 1) := by decide +kernel
theorem dX9_returnWish_2 : decode cX9_returnWish 2 = .ok (.invokevirtual 235, 3) := by decide +kernel
theorem dX9_returnWish_5 : decode cX9_returnWish 5 = .ok (.aload_n 0, 1) := by decide +kernel
theorem dX9_returnWish_6 : decode cX9_returnWish 6 = .ok (.getfield 19, 3) := by decide +kernel
theorem dX9_returnWish_9 : decode cX9_returnWish 9 = .ok (.iload_n 1, 1) := by decide +kernel
theorem dX9_returnWish_10 : decode cX9_returnWish 10 = .ok (.invokevirtual 257, 3) := by decide +kernel
theorem dX9_returnWish_13 : decode cX9_returnWish 13 = .ok (.invokestatic 311, 3) := by decide +kernel
theorem dX9_returnWish_16 : decode cX9_returnWish 16 = .ok (.aload_n 0, 1) := by decide +kernel
theorem dX9_returnWish_17 : decode cX9_returnWish 17 = .ok (.invokevirtual 308, 3) := by decide +kernel
theorem dX9_returnWish_20 : decode cX9_returnWish 20 = .ok (.aload_n 0, 1) := by decide +kernel
theorem dX9_returnWish_21 : decode cX9_returnWish 21 = .ok (.getfield 19, 3) := by decide +kernel
theorem dX9_returnWish_24 : decode cX9_returnWish 24 = .ok (.iload_n 1, 1) := by decide +kernel
theorem dX9_returnWish_25 : decode cX9_returnWish 25 = .ok (.invokevirtual 320, 3) := by decide +kernel
theorem dX9_returnWish_28 : decode cX9_returnWish 28 = .ok (.ireturn, 1) := by decide +kernel
theorem dX9_grant_0 : decode cX9_grant 0 = .ok (.aload_n 0, 1) := by decide +kernel
theorem dX9_grant_1 : decode cX9_grant 1 = .ok (.iload_n 1, 1) := by decide +kernel
theorem dX9_grant_2 : decode cX9_grant 2 = .ok (.invokevirtual 235, 3) := by decide +kernel
theorem dX9_grant_5 : decode cX9_grant 5 = .ok (.aload_n 0, 1) := by decide +kernel
theorem dX9_grant_6 : decode cX9_grant 6 = .ok (.getfield 19, 3) := by decide +kernel
theorem dX9_grant_9 : decode cX9_grant 9 = .ok (.iload_n 1, 1) := by decide +kernel
theorem dX9_grant_10 : decode cX9_grant 10 = .ok (.invokevirtual 260, 3) := by decide +kernel
theorem dX9_grant_13 : decode cX9_grant 13 = .ok (.invokestatic 311, 3) := by decide +kernel
theorem dX9_grant_16 : decode cX9_grant 16 = .ok (.aload_n 0, 1) := by decide +kernel
theorem dX9_grant_17 : decode cX9_grant 17 = .ok (.invokevirtual 308, 3) := by decide +kernel
theorem dX9_grant_20 : decode cX9_grant 20 = .ok (.aload_n 0, 1) := by decide +kernel
theorem dX9_grant_21 : decode cX9_grant 21 = .ok (.getfield 19, 3) := by decide +kernel
theorem dX9_grant_24 : decode cX9_grant 24 = .ok (.iload_n 1, 1) := by decide +kernel
theorem dX9_grant_25 : decode cX9_grant 25 = .ok (.invokevirtual 323, 3) := by decide +kernel
theorem dX9_grant_28 : decode cX9_grant 28 = .ok (.ireturn, 1) := by decide +kernel
theorem dX9_setLimit_0 : decode cX9_setLimit 0 = .ok (.aload_n 0, 1) := by decide +kernel
theorem dX9_setLimit_1 : decode cX9_setLimit 1 = .ok (.iload_n 1, 1) := by decide +kernel
theorem dX9_setLimit_2 : decode cX9_setLimit 2 = .ok (.invokevirtual 143, 3) := by decide +kernel
theorem dX9_setLimit_5 : decode cX9_setLimit 5 = .ok (.astore_n 3, 1) := by decide +kernel
theorem dX9_setLimit_6 : decode cX9_setLimit 6 = .ok (.iload_n 2, 1) := by decide +kernel
theorem dX9_setLimit_7 : decode cX9_setLimit 7 = .ok (.iconst 0, 1) := by decide +kernel
theorem dX9_setLimit_8 : decode cX9_setLimit 8 = .ok (.sipush 200, 3) := by decide +kernel
theorem dX9_setLimit_11 : decode cX9_setLimit 11 = .ok (.invokestatic 272, 3) := by decide +kernel
theorem dX9_setLimit_14 : decode cX9_setLimit 14 = .ok (.aload_n 0, 1) := by decide +kernel
theorem dX9_setLimit_15 : decode cX9_setLimit 15 = .ok (.invokevirtual 308, 3) := by decide +kernel
theorem dX9_setLimit_18 : decode cX9_setLimit 18 = .ok (.aload_n 3, 1) := by decide +kernel
theorem dX9_setLimit_19 : decode cX9_setLimit 19 = .ok (.getfield 174, 3) := by decide +kernel
theorem dX9_setLimit_22 : decode cX9_setLimit 22 = .ok (.istore 4, 2) := by decide +kernel
theorem dX9_setLimit_24 : decode cX9_setLimit 24 = .ok (.aload_n 3, 1) := by decide +kernel
theorem dX9_setLimit_25 : decode cX9_setLimit 25 = .ok (.iload_n 2, 1) := by decide +kernel
theorem dX9_setLimit_26 : decode cX9_setLimit 26 = .ok (.putfield 174, 3) := by decide +kernel
theorem dX9_setLimit_29 : decode cX9_setLimit 29 = .ok (.iload 4, 2) := by decide +kernel
theorem dX9_setLimit_31 : decode cX9_setLimit 31 = .ok (.ireturn, 1) := by decide +kernel
theorem dX9_setMargin_0 : decode cX9_setMargin 0 = .ok (.aload_n 0, 1) := by decide +kernel
theorem dX9_setMargin_1 : decode cX9_setMargin 1 = .ok (.iload_n 1, 1) := by decide +kernel
theorem dX9_setMargin_2 : decode cX9_setMargin 2 = .ok (.invokevirtual 180, 3) := by decide +kernel
theorem dX9_setMargin_5 : decode cX9_setMargin 5 = .ok (.astore_n 3, 1) := by decide +kernel
theorem dX9_setMargin_6 : decode cX9_setMargin 6 = .ok (.iload_n 2, 1) := by decide +kernel
theorem dX9_setMargin_7 : decode cX9_setMargin 7 = .ok (.iconst 0, 1) := by decide +kernel
theorem dX9_setMargin_8 : decode cX9_setMargin 8 = .ok (.bipush 100, 2) := by decide +kernel
theorem dX9_setMargin_10 : decode cX9_setMargin 10 = .ok (.invokestatic 272, 3) := by decide +kernel
theorem dX9_setMargin_13 : decode cX9_setMargin 13 = .ok (.aload_n 0, 1) := by decide +kernel
theorem dX9_setMargin_14 : decode cX9_setMargin 14 = .ok (.invokevirtual 308, 3) := by decide +kernel
theorem dX9_setMargin_17 : decode cX9_setMargin 17 = .ok (.aload_n 3, 1) := by decide +kernel
theorem dX9_setMargin_18 : decode cX9_setMargin 18 = .ok (.getfield 192, 3) := by decide +kernel
theorem dX9_setMargin_21 : decode cX9_setMargin 21 = .ok (.istore 4, 2) := by decide +kernel
theorem dX9_setMargin_23 : decode cX9_setMargin 23 = .ok (.aload_n 3, 1) := by decide +kernel
theorem dX9_setMargin_24 : decode cX9_setMargin 24 = .ok (.iload_n 2, 1) := by decide +kernel
theorem dX9_setMargin_25 : decode cX9_setMargin 25 = .ok (.putfield 192, 3) := by decide +kernel
theorem dX9_setMargin_28 : decode cX9_setMargin 28 = .ok (.iload 4, 2) := by decide +kernel
theorem dX9_setMargin_30 : decode cX9_setMargin 30 = .ok (.ireturn, 1) := by decide +kernel
theorem dX9_undoCount_0 : decode cX9_undoCount 0 = .ok (.aload_n 0, 1) := by decide +kernel
theorem dX9_undoCount_1 : decode cX9_undoCount 1 = .ok (.getfield 85, 3) := by decide +kernel
theorem dX9_undoCount_4 : decode cX9_undoCount 4 = .ok (.ireturn, 1) := by decide +kernel
theorem dX9_saveState_0 : decode cX9_saveState 0 = .ok (.aload_n 0, 1) := by decide +kernel
theorem dX9_saveState_1 : decode cX9_saveState 1 = .ok (.invokevirtual 97, 3) := by decide +kernel
theorem dX9_saveState_4 : decode cX9_saveState 4 = .ok (.astore_n 2, 1) := by decide +kernel
theorem dX9_saveState_5 : decode cX9_saveState 5 = .ok (.iload_n 1, 1) := by decide +kernel
theorem dX9_saveState_6 : decode cX9_saveState 6 = .ok (.iconst 2, 1) := by decide +kernel
theorem dX9_saveState_7 : decode cX9_saveState 7 = .ok (.invokestatic 334, 3) := by decide +kernel
theorem dX9_saveState_10 : decode cX9_saveState 10 = .ok (.aload_n 0, 1) := by decide +kernel
theorem dX9_saveState_11 : decode cX9_saveState 11 = .ok (.getfield 30, 3) := by decide +kernel
theorem dX9_saveState_14 : decode cX9_saveState 14 = .ok (.iload_n 1, 1) := by decide +kernel
theorem dX9_saveState_15 : decode cX9_saveState 15 = .ok (.aaload, 1) := by decide +kernel
theorem dX9_saveState_16 : decode cX9_saveState 16 = .ok (.aload_n 2, 1) := by decide +kernel
theorem dX9_saveState_17 : decode cX9_saveState 17 = .ok (.invokevirtual 77, 3) := by decide +kernel
theorem dX9_saveState_20 : decode cX9_saveState 20 = .ok (.aload_n 0, 1) := by decide +kernel
theorem dX9_saveState_21 : decode cX9_saveState 21 = .ok (.getfield 33, 3) := by decide +kernel
theorem dX9_saveState_24 : decode cX9_saveState 24 = .ok (.iload_n 1, 1) := by decide +kernel
theorem dX9_saveState_25 : decode cX9_saveState 25 = .ok (.iconst 1, 1) := by decide +kernel
theorem dX9_saveState_26 : decode cX9_saveState 26 = .ok (.bastore, 1) := by decide +kernel
theorem dX9_saveState_27 : decode cX9_saveState 27 = .ok (.aload_n 2, 1) := by decide +kernel
theorem dX9_saveState_28 : decode cX9_saveState 28 = .ok (.getfield 101, 3) := by decide +kernel
theorem dX9_saveState_31 : decode cX9_saveState 31 = .ok (.ireturn, 1) := by decide +kernel
theorem dX9_restoreState_0 : decode cX9_restoreState 0 = .ok (.iload_n 1, 1) := by decide +kernel
theorem dX9_restoreState_1 : decode cX9_restoreState 1 = .ok (.iconst 2, 1) := by decide +kernel
theorem dX9_restoreState_2 : decode cX9_restoreState 2 = .ok (.invokestatic 334, 3) := by decide +kernel
theorem dX9_restoreState_5 : decode cX9_restoreState 5 = .ok (.aload_n 0, 1) := by decide +kernel
theorem dX9_restoreState_6 : decode cX9_restoreState 6 = .ok (.getfield 33, 3) := by decide +kernel
theorem dX9_restoreState_9 : decode cX9_restoreState 9 = .ok (.iload_n 1, 1) := by decide +kernel
theorem dX9_restoreState_10 : decode cX9_restoreState 10 = .ok (.baload, 1) := by decide +kernel
theorem dX9_restoreState_11 : decode cX9_restoreState 11 = .ok (.ifCond .ne 14, 3) := by decide +kernel
theorem dX9_restoreState_14 : decode cX9_restoreState 14 = .ok (.new 326, 3) := by decide +kernel
theorem dX9_restoreState_17 : decode cX9_restoreState 17 = .ok (.dup, 1) := by decide +kernel
theorem dX9_restoreState_18 : decode cX9_restoreState 18 = .ok (.ldc_w 338, 3) := by decide +kernel
theorem dX9_restoreState_21 : decode cX9_restoreState 21 = .ok (.invokespecial 330, 3) := by decide +kernel
theorem dX9_restoreState_24 : decode cX9_restoreState 24 = .ok (.athrow, 1) := by decide +kernel
theorem dX9_restoreState_25 : decode cX9_restoreState 25 = .ok (.aload_n 0, 1) := by decide +kernel
theorem dX9_restoreState_26 : decode cX9_restoreState 26 = .ok (.getfield 19, 3) := by decide +kernel
theorem dX9_restoreState_29 : decode cX9_restoreState 29 = .ok (.aload_n 0, 1) := by decide +kernel
theorem dX9_restoreState_30 : decode cX9_restoreState 30 = .ok (.getfield 30, 3) := by decide +kernel
theorem dX9_restoreState_33 : decode cX9_restoreState 33 = .ok (.iload_n 1, 1) := by decide +kernel
theorem dX9_restoreState_34 : decode cX9_restoreState 34 = .ok (.aaload, 1) := by decide +kernel
theorem dX9_restoreState_35 : decode cX9_restoreState 35 = .ok (.invokevirtual 77, 3) := by decide +kernel
theorem dX9_restoreState_38 : decode cX9_restoreState 38 = .ok (.aload_n 0, 1) := by decide +kernel
theorem dX9_restoreState_39 : decode cX9_restoreState 39 = .ok (.iconst 0, 1) := by decide +kernel
theorem dX9_restoreState_40 : decode cX9_restoreState 40 = .ok (.putfield 85, 3) := by decide +kernel
theorem dX9_restoreState_43 : decode cX9_restoreState 43 = .ok (.aload_n 0, 1) := by decide +kernel
theorem dX9_restoreState_44 : decode cX9_restoreState 44 = .ok (.getfield 19, 3) := by decide +kernel
theorem dX9_restoreState_47 : decode cX9_restoreState 47 = .ok (.getfield 101, 3) := by decide +kernel
theorem dX9_restoreState_50 : decode cX9_restoreState 50 = .ok (.ireturn, 1) := by decide +kernel
theorem dX9_loadedMarket_0 : decode cX9_loadedMarket 0 = .ok (.aload_n 0, 1) := by decide +kernel
theorem dX9_loadedMarket_1 : decode cX9_loadedMarket 1 = .ok (.getfield 81, 3) := by decide +kernel
theorem dX9_loadedMarket_4 : decode cX9_loadedMarket 4 = .ok (.ifCond .ne 14, 3) := by decide +kernel
theorem dX9_loadedMarket_7 : decode cX9_loadedMarket 7 = .ok (.new 326, 3) := by decide +kernel
theorem dX9_loadedMarket_10 : decode cX9_loadedMarket 10 = .ok (.dup, 1) := by decide +kernel
theorem dX9_loadedMarket_11 : decode cX9_loadedMarket 11 = .ok (.ldc_w 340, 3) := by decide +kernel
theorem dX9_loadedMarket_14 : decode cX9_loadedMarket 14 = .ok (.invokespecial 330, 3) := by decide +kernel
theorem dX9_loadedMarket_17 : decode cX9_loadedMarket 17 = .ok (.athrow, 1) := by decide +kernel
theorem dX9_loadedMarket_18 : decode cX9_loadedMarket 18 = .ok (.aload_n 0, 1) := by decide +kernel
theorem dX9_loadedMarket_19 : decode cX9_loadedMarket 19 = .ok (.getfield 19, 3) := by decide +kernel
theorem dX9_loadedMarket_22 : decode cX9_loadedMarket 22 = .ok (.areturn, 1) := by decide +kernel
theorem dX9_checkPerson_0 : decode cX9_checkPerson 0 = .ok (.iload_n 1, 1) := by decide +kernel
theorem dX9_checkPerson_1 : decode cX9_checkPerson 1 = .ok (.aload_n 0, 1) := by decide +kernel
theorem dX9_checkPerson_2 : decode cX9_checkPerson 2 = .ok (.invokevirtual 97, 3) := by decide +kernel
theorem dX9_checkPerson_5 : decode cX9_checkPerson 5 = .ok (.getfield 140, 3) := by decide +kernel
theorem dX9_checkPerson_8 : decode cX9_checkPerson 8 = .ok (.invokestatic 334, 3) := by decide +kernel
theorem dX9_checkPerson_11 : decode cX9_checkPerson 11 = .ok (.return_, 1) := by decide +kernel
theorem dX9_checkStall_0 : decode cX9_checkStall 0 = .ok (.iload_n 1, 1) := by decide +kernel
theorem dX9_checkStall_1 : decode cX9_checkStall 1 = .ok (.aload_n 0, 1) := by decide +kernel
theorem dX9_checkStall_2 : decode cX9_checkStall 2 = .ok (.invokevirtual 97, 3) := by decide +kernel
theorem dX9_checkStall_5 : decode cX9_checkStall 5 = .ok (.getfield 177, 3) := by decide +kernel
theorem dX9_checkStall_8 : decode cX9_checkStall 8 = .ok (.invokestatic 334, 3) := by decide +kernel
theorem dX9_checkStall_11 : decode cX9_checkStall 11 = .ok (.return_, 1) := by decide +kernel
theorem dX9_checkWish_0 : decode cX9_checkWish 0 = .ok (.iload_n 1, 1) := by decide +kernel
theorem dX9_checkWish_1 : decode cX9_checkWish 1 = .ok (.aload_n 0, 1) := by decide +kernel
theorem dX9_checkWish_2 : decode cX9_checkWish 2 = .ok (.invokevirtual 97, 3) := by decide +kernel
theorem dX9_checkWish_5 : decode cX9_checkWish 5 = .ok (.getfield 88, 3) := by decide +kernel
theorem dX9_checkWish_8 : decode cX9_checkWish 8 = .ok (.invokestatic 334, 3) := by decide +kernel
theorem dX9_checkWish_11 : decode cX9_checkWish 11 = .ok (.return_, 1) := by decide +kernel
theorem dX9_checkIndex_0 : decode cX9_checkIndex 0 = .ok (.iload_n 0, 1) := by decide +kernel
theorem dX9_checkIndex_1 : decode cX9_checkIndex 1 = .ok (.ifCond .lt 8, 3) := by decide +kernel
theorem dX9_checkIndex_4 : decode cX9_checkIndex 4 = .ok (.iload_n 0, 1) := by decide +kernel
theorem dX9_checkIndex_5 : decode cX9_checkIndex 5 = .ok (.iload_n 1, 1) := by decide +kernel
theorem dX9_checkIndex_6 : decode cX9_checkIndex 6 = .ok (.if_icmp .lt 14, 3) := by decide +kernel
theorem dX9_checkIndex_9 : decode cX9_checkIndex 9 = .ok (.new 58, 3) := by decide +kernel
theorem dX9_checkIndex_12 : decode cX9_checkIndex 12 = .ok (.dup, 1) := by decide +kernel
theorem dX9_checkIndex_13 : decode cX9_checkIndex 13 = .ok (.ldc_w 342, 3) := by decide +kernel
theorem dX9_checkIndex_16 : decode cX9_checkIndex 16 = .ok (.invokespecial 62, 3) := by decide +kernel
theorem dX9_checkIndex_19 : decode cX9_checkIndex 19 = .ok (.athrow, 1) := by decide +kernel
theorem dX9_checkIndex_20 : decode cX9_checkIndex 20 = .ok (.return_, 1) := by decide +kernel
theorem dX9_personAt_0 : decode cX9_personAt 0 = .ok (.aload_n 0, 1) := by decide +kernel
theorem dX9_personAt_1 : decode cX9_personAt 1 = .ok (.iload_n 1, 1) := by decide +kernel
theorem dX9_personAt_2 : decode cX9_personAt 2 = .ok (.invokevirtual 168, 3) := by decide +kernel
theorem dX9_personAt_5 : decode cX9_personAt 5 = .ok (.aload_n 0, 1) := by decide +kernel
theorem dX9_personAt_6 : decode cX9_personAt 6 = .ok (.getfield 19, 3) := by decide +kernel
theorem dX9_personAt_9 : decode cX9_personAt 9 = .ok (.getfield 279, 3) := by decide +kernel
theorem dX9_personAt_12 : decode cX9_personAt 12 = .ok (.iload_n 1, 1) := by decide +kernel
theorem dX9_personAt_13 : decode cX9_personAt 13 = .ok (.aaload, 1) := by decide +kernel
theorem dX9_personAt_14 : decode cX9_personAt 14 = .ok (.areturn, 1) := by decide +kernel
theorem dX9_stallAt_0 : decode cX9_stallAt 0 = .ok (.aload_n 0, 1) := by decide +kernel
theorem dX9_stallAt_1 : decode cX9_stallAt 1 = .ok (.iload_n 1, 1) := by decide +kernel
theorem dX9_stallAt_2 : decode cX9_stallAt 2 = .ok (.invokevirtual 195, 3) := by decide +kernel
theorem dX9_stallAt_5 : decode cX9_stallAt 5 = .ok (.aload_n 0, 1) := by decide +kernel
theorem dX9_stallAt_6 : decode cX9_stallAt 6 = .ok (.getfield 19, 3) := by decide +kernel
theorem dX9_stallAt_9 : decode cX9_stallAt 9 = .ok (.getfield 344, 3) := by decide +kernel
theorem dX9_stallAt_12 : decode cX9_stallAt 12 = .ok (.iload_n 1, 1) := by decide +kernel
theorem dX9_stallAt_13 : decode cX9_stallAt 13 = .ok (.aaload, 1) := by decide +kernel
theorem dX9_stallAt_14 : decode cX9_stallAt 14 = .ok (.areturn, 1) := by decide +kernel
theorem dX9_wishAt_0 : decode cX9_wishAt 0 = .ok (.aload_n 0, 1) := by decide +kernel
theorem dX9_wishAt_1 : decode cX9_wishAt 1 = .ok (.iload_n 1, 1) := by decide +kernel
theorem dX9_wishAt_2 : decode cX9_wishAt 2 = .ok (.invokevirtual 235, 3) := by decide +kernel
theorem dX9_wishAt_5 : decode cX9_wishAt 5 = .ok (.aload_n 0, 1) := by decide +kernel
theorem dX9_wishAt_6 : decode cX9_wishAt 6 = .ok (.getfield 19, 3) := by decide +kernel
theorem dX9_wishAt_9 : decode cX9_wishAt 9 = .ok (.getfield 241, 3) := by decide +kernel
theorem dX9_wishAt_12 : decode cX9_wishAt 12 = .ok (.iload_n 1, 1) := by decide +kernel
theorem dX9_wishAt_13 : decode cX9_wishAt 13 = .ok (.aaload, 1) := by decide +kernel
theorem dX9_wishAt_14 : decode cX9_wishAt 14 = .ok (.areturn, 1) := by decide +kernel
theorem dX9_checkRange_0 : decode cX9_checkRange 0 = .ok (.iload_n 0, 1) := by decide +kernel
theorem dX9_checkRange_1 : decode cX9_checkRange 1 = .ok (.iload_n 1, 1) := by decide +kernel
theorem dX9_checkRange_2 : decode cX9_checkRange 2 = .ok (.if_icmp .lt 8, 3) := by decide +kernel
theorem dX9_checkRange_5 : decode cX9_checkRange 5 = .ok (.iload_n 0, 1) := by decide +kernel
theorem dX9_checkRange_6 : decode cX9_checkRange 6 = .ok (.iload_n 2, 1) := by decide +kernel
theorem dX9_checkRange_7 : decode cX9_checkRange 7 = .ok (.if_icmp .le 14, 3) := by decide +kernel
theorem dX9_checkRange_10 : decode cX9_checkRange 10 = .ok (.new 69, 3) := by decide +kernel
theorem dX9_checkRange_13 : decode cX9_checkRange 13 = .ok (.dup, 1) := by decide +kernel
theorem dX9_checkRange_14 : decode cX9_checkRange 14 = .ok (.ldc_w 348, 3) := by decide +kernel
theorem dX9_checkRange_17 : decode cX9_checkRange 17 = .ok (.invokespecial 73, 3) := by decide +kernel
theorem dX9_checkRange_20 : decode cX9_checkRange 20 = .ok (.athrow, 1) := by decide +kernel
theorem dX9_checkRange_21 : decode cX9_checkRange 21 = .ok (.return_, 1) := by decide +kernel
theorem dX9_checkObstacle_0 : decode cX9_checkObstacle 0 = .ok (.iload_n 0, 1) := by decide +kernel
theorem dX9_checkObstacle_1 : decode cX9_checkObstacle 1 = .ok (.ifCond .eq 14, 3) := by decide +kernel
theorem dX9_checkObstacle_4 : decode cX9_checkObstacle 4 = .ok (.new 69, 3) := by decide +kernel
theorem dX9_checkObstacle_7 : decode cX9_checkObstacle 7 = .ok (.dup, 1) := by decide +kernel
theorem dX9_checkObstacle_8 : decode cX9_checkObstacle 8 = .ok (.ldc_w 350, 3) := by decide +kernel
theorem dX9_checkObstacle_11 : decode cX9_checkObstacle 11 = .ok (.invokespecial 73, 3) := by decide +kernel
theorem dX9_checkObstacle_14 : decode cX9_checkObstacle 14 = .ok (.athrow, 1) := by decide +kernel
theorem dX9_checkObstacle_15 : decode cX9_checkObstacle 15 = .ok (.return_, 1) := by decide +kernel
theorem dX9_rememberForUndo_0 : decode cX9_rememberForUndo 0 = .ok (.aload_n 0, 1) := by decide +kernel
theorem dX9_rememberForUndo_1 : decode cX9_rememberForUndo 1 = .ok (.aload_n 0, 1) := by decide +kernel
theorem dX9_rememberForUndo_2 : decode cX9_rememberForUndo 2 = .ok (.getfield 331, 3) := by decide +kernel
theorem dX9_rememberForUndo_5 : decode cX9_rememberForUndo 5 = .ok (.iconst 1, 1) := by decide +kernel
theorem dX9_rememberForUndo_6 : decode cX9_rememberForUndo 6 = .ok (.iadd, 1) := by decide +kernel
theorem dX9_rememberForUndo_7 : decode cX9_rememberForUndo 7 = .ok (.bipush 8, 2) := by decide +kernel
theorem dX9_rememberForUndo_9 : decode cX9_rememberForUndo 9 = .ok (.irem, 1) := by decide +kernel
theorem dX9_rememberForUndo_10 : decode cX9_rememberForUndo 10 = .ok (.putfield 331, 3) := by decide +kernel
theorem dX9_rememberForUndo_13 : decode cX9_rememberForUndo 13 = .ok (.aload_n 0, 1) := by decide +kernel
theorem dX9_rememberForUndo_14 : decode cX9_rememberForUndo 14 = .ok (.getfield 26, 3) := by decide +kernel
theorem dX9_rememberForUndo_17 : decode cX9_rememberForUndo 17 = .ok (.aload_n 0, 1) := by decide +kernel
theorem dX9_rememberForUndo_18 : decode cX9_rememberForUndo 18 = .ok (.getfield 331, 3) := by decide +kernel
theorem dX9_rememberForUndo_21 : decode cX9_rememberForUndo 21 = .ok (.aaload, 1) := by decide +kernel
theorem dX9_rememberForUndo_22 : decode cX9_rememberForUndo 22 = .ok (.aload_n 0, 1) := by decide +kernel
theorem dX9_rememberForUndo_23 : decode cX9_rememberForUndo 23 = .ok (.getfield 19, 3) := by decide +kernel
theorem dX9_rememberForUndo_26 : decode cX9_rememberForUndo 26 = .ok (.invokevirtual 77, 3) := by decide +kernel
theorem dX9_rememberForUndo_29 : decode cX9_rememberForUndo 29 = .ok (.aload_n 0, 1) := by decide +kernel
theorem dX9_rememberForUndo_30 : decode cX9_rememberForUndo 30 = .ok (.aload_n 0, 1) := by decide +kernel
theorem dX9_rememberForUndo_31 : decode cX9_rememberForUndo 31 = .ok (.getfield 85, 3) := by decide +kernel
theorem dX9_rememberForUndo_34 : decode cX9_rememberForUndo 34 = .ok (.iconst 1, 1) := by decide +kernel
theorem dX9_rememberForUndo_35 : decode cX9_rememberForUndo 35 = .ok (.iadd, 1) := by decide +kernel
theorem dX9_rememberForUndo_36 : decode cX9_rememberForUndo 36 = .ok (.bipush 8, 2) := by decide +kernel
theorem dX9_rememberForUndo_38 : decode cX9_rememberForUndo 38 = .ok (.invokestatic 352, 3) := by decide +kernel
theorem dX9_rememberForUndo_41 : decode cX9_rememberForUndo 41 = .ok (.putfield 85, 3) := by decide +kernel
theorem dX9_rememberForUndo_44 : decode cX9_rememberForUndo 44 = .ok (.return_, 1) := by decide +kernel
