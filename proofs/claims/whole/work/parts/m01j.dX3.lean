theorem dX3_init_0 : decode cX3_init 0 = .ok (.aload_n 0, 1) := by decide +kernel
theorem dX3_init_1 : decode cX3_init 1 = .ok (.invokespecial 3, 3) := by decide +kernel
theorem dX3_init_4 : decode cX3_init 4 = .ok (.aload_n 0, 1) := by decide +kernel
theorem dX3_init_5 : decode cX3_init 5 = .ok (.bipush 16, 2) := by decide +kernel
theorem dX3_init_7 : decode cX3_init 7 = .ok (.newarray .int, 2) := by decide +kernel
theorem dX3_init_9 : decode cX3_init 9 = .ok (.putfield 9, 3) := by decide +kernel
theorem dX3_init_12 : decode cX3_init 12 = .ok (.aload_n 0, 1) := by decide +kernel
theorem dX3_init_13 : decode cX3_init 13 = .ok (.bipush 16, 2) := by decide +kernel
theorem dX3_init_15 : decode cX3_init 15 = .ok (.newarray .int, 2) := by decide +kernel
theorem dX3_init_17 : decode cX3_init 17 = .ok (.putfield 15, 3) := by decide +kernel
theorem dX3_init_20 : decode cX3_init 20 = .ok (.aload_n 0, 1) := by decide +kernel
theorem dX3_init_21 : decode cX3_init 21 = .ok (.bipush 33, 2) := by decide +kernel
theorem dX3_init_23 : decode cX3_init 23 = .ok (.newarray .int, 2) := by decide +kernel
theorem dX3_init_25 : decode cX3_init 25 = .ok (.putfield 18, 3) := by decide +kernel
theorem dX3_init_28 : decode cX3_init 28 = .ok (.return_, 1) := by decide +kernel
theorem dX3_begin_0 : decode cX3_begin 0 = .ok (.aload_n 0, 1) := by decide +kernel
theorem dX3_begin_1 : decode cX3_begin 1 = .ok (.iconst 0, 1) := by decide +kernel
theorem dX3_begin_2 : decode cX3_begin 2 = .ok (.putfield 21, 3) := by decide +kernel
theorem dX3_begin_5 : decode cX3_begin 5 = .ok (.aload_n 0, 1) := by decide +kernel
theorem dX3_begin_6 : decode cX3_begin 6 = .ok (.iconst 0, 1) := by decide +kernel
theorem dX3_begin_7 : decode cX3_begin 7 = .ok (.putfield 25, 3) := by decide +kernel
theorem dX3_begin_10 : decode cX3_begin 10 = .ok (.return_, 1) := by decide +kernel
theorem dX3_load_0 : decode cX3_load 0 = .ok (.aload_n 0, 1) := by decide +kernel
theorem dX3_load_1 : decode cX3_load 1 = .ok (.invokevirtual 28, 3) := by decide +kernel
theorem dX3_load_4 : decode cX3_load 4 = .ok (.iload_n 2, 1) := by decide +kernel
theorem dX3_load_5 : decode cX3_load 5 = .ok (.istore 4, 2) := by decide +kernel
theorem dX3_load_7 : decode cX3_load 7 = .ok (.iload 4, 2) := by decide +kernel
theorem dX3_load_9 : decode cX3_load 9 = .ok (.iload_n 2, 1) := by decide +kernel
theorem dX3_load_10 : decode cX3_load 10 = .ok (.iload_n 3, 1) := by decide +kernel
theorem dX3_load_11 : decode cX3_load 11 = .ok (.iadd, 1) := by decide +kernel
theorem dX3_load_12 : decode cX3_load 12 = .ok (.if_icmp .ge 19, 3) := by decide +kernel
theorem dX3_load_15 : decode cX3_load 15 = .ok (.aload_n 0, 1) := by decide +kernel
theorem dX3_load_16 : decode cX3_load 16 = .ok (.aload_n 1, 1) := by decide +kernel
theorem dX3_load_17 : decode cX3_load 17 = .ok (.iload 4, 2) := by decide +kernel
theorem dX3_load_19 : decode cX3_load 19 = .ok (.invokevirtual 31, 3) := by decide +kernel
theorem dX3_load_22 : decode cX3_load 22 = .ok (.invokevirtual 37, 3) := by decide +kernel
theorem dX3_load_25 : decode cX3_load 25 = .ok (.iinc 4 1, 3) := by decide +kernel
theorem dX3_load_28 : decode cX3_load 28 = .ok (.goto (-21), 3) := by decide +kernel
theorem dX3_load_31 : decode cX3_load 31 = .ok (.return_, 1) := by decide +kernel
theorem dX3_add_0 : decode cX3_add 0 = .ok (.lload_n 1, 1) := by decide +kernel
theorem dX3_add_1 : decode cX3_add 1 = .ok (.ldc2_w 41, 3) := by decide +kernel
theorem dX3_add_4 : decode cX3_add 4 = .ok (.lcmp, 1) := by decide +kernel
theorem dX3_add_5 : decode cX3_add 5 = .ok (.ifCond .eq 12, 3) := by decide +kernel
theorem dX3_add_8 : decode cX3_add 8 = .ok (.aload_n 0, 1) := by decide +kernel
theorem dX3_add_9 : decode cX3_add 9 = .ok (.getfield 21, 3) := by decide +kernel
theorem dX3_add_12 : decode cX3_add 12 = .ok (.bipush 16, 2) := by decide +kernel
theorem dX3_add_14 : decode cX3_add 14 = .ok (.if_icmp .lt 4, 3) := by decide +kernel
theorem dX3_add_17 : decode cX3_add 17 = .ok (.return_, 1) := by decide +kernel
theorem dX3_add_18 : decode cX3_add 18 = .ok (.aload_n 0, 1) := by decide +kernel
theorem dX3_add_19 : decode cX3_add 19 = .ok (.dup, 1) := by decide +kernel
theorem dX3_add_20 : decode cX3_add 20 = .ok (.getfield 21, 3) := by decide +kernel
theorem dX3_add_23 : decode cX3_add 23 = .ok (.iconst 1, 1) := by decide +kernel
theorem dX3_add_24 : decode cX3_add 24 = .ok (.iadd, 1) := by decide +kernel
theorem dX3_add_25 : decode cX3_add 25 = .ok (.putfield 21, 3) := by decide +kernel
theorem dX3_add_28 : decode cX3_add 28 = .ok (.lload_n 1, 1) := by decide +kernel
theorem dX3_add_29 : decode cX3_add 29 = .ok (.ldc2_w 43, 3) := by decide +kernel
theorem dX3_add_32 : decode cX3_add 32 = .ok (.lcmp, 1) := by decide +kernel
theorem dX3_add_33 : decode cX3_add 33 = .ok (.ifCond .eq 33, 3) := by decide +kernel
theorem dX3_add_36 : decode cX3_add 36 = .ok (.aload_n 0, 1) := by decide +kernel
theorem dX3_add_37 : decode cX3_add 37 = .ok (.getfield 25, 3) := by decide +kernel
theorem dX3_add_40 : decode cX3_add 40 = .ok (.bipush 16, 2) := by decide +kernel
theorem dX3_add_42 : decode cX3_add 42 = .ok (.if_icmp .ge 24, 3) := by decide +kernel
theorem dX3_add_45 : decode cX3_add 45 = .ok (.aload_n 0, 1) := by decide +kernel
theorem dX3_add_46 : decode cX3_add 46 = .ok (.getfield 9, 3) := by decide +kernel
theorem dX3_add_49 : decode cX3_add 49 = .ok (.aload_n 0, 1) := by decide +kernel
theorem dX3_add_50 : decode cX3_add 50 = .ok (.getfield 25, 3) := by decide +kernel
theorem dX3_add_53 : decode cX3_add 53 = .ok (.lload_n 1, 1) := by decide +kernel
theorem dX3_add_54 : decode cX3_add 54 = .ok (.l2i, 1) := by decide +kernel
theorem dX3_add_55 : decode cX3_add 55 = .ok (.iastore, 1) := by decide +kernel
theorem dX3_add_56 : decode cX3_add 56 = .ok (.aload_n 0, 1) := by decide +kernel
theorem dX3_add_57 : decode cX3_add 57 = .ok (.dup, 1) := by decide +kernel
theorem dX3_add_58 : decode cX3_add 58 = .ok (.getfield 25, 3) := by decide +kernel
theorem dX3_add_61 : decode cX3_add 61 = .ok (.iconst 1, 1) := by decide +kernel
theorem dX3_add_62 : decode cX3_add 62 = .ok (.iadd, 1) := by decide +kernel
theorem dX3_add_63 : decode cX3_add 63 = .ok (.putfield 25, 3) := by decide +kernel
theorem dX3_add_66 : decode cX3_add 66 = .ok (.return_, 1) := by decide +kernel
theorem dX3_suits_0 : decode cX3_suits 0 = .ok (.iload_n 1, 1) := by decide +kernel
theorem dX3_suits_1 : decode cX3_suits 1 = .ok (.ifCond .eq 20, 3) := by decide +kernel
theorem dX3_suits_4 : decode cX3_suits 4 = .ok (.iload_n 1, 1) := by decide +kernel
theorem dX3_suits_5 : decode cX3_suits 5 = .ok (.ifCond .le 20, 3) := by decide +kernel
theorem dX3_suits_8 : decode cX3_suits 8 = .ok (.iload_n 1, 1) := by decide +kernel
theorem dX3_suits_9 : decode cX3_suits 9 = .ok (.iconst 3, 1) := by decide +kernel
theorem dX3_suits_10 : decode cX3_suits 10 = .ok (.if_icmp .ge 15, 3) := by decide +kernel
theorem dX3_suits_13 : decode cX3_suits 13 = .ok (.aload_n 0, 1) := by decide +kernel
theorem dX3_suits_14 : decode cX3_suits 14 = .ok (.getfield 25, 3) := by decide +kernel
theorem dX3_suits_17 : decode cX3_suits 17 = .ok (.iconst 2, 1) := by decide +kernel
theorem dX3_suits_18 : decode cX3_suits 18 = .ok (.if_icmp .lt 7, 3) := by decide +kernel
theorem dX3_suits_21 : decode cX3_suits 21 = .ok (.iconst 1, 1) := by decide +kernel
theorem dX3_suits_22 : decode cX3_suits 22 = .ok (.goto 4, 3) := by decide +kernel
theorem dX3_suits_25 : decode cX3_suits 25 = .ok (.iconst 0, 1) := by decide +kernel
theorem dX3_suits_26 : decode cX3_suits 26 = .ok (.ireturn, 1) := by decide +kernel
theorem dX3_spread_0 : decode cX3_spread 0 = .ok (.aload_n 0, 1) := by decide +kernel
theorem dX3_spread_1 : decode cX3_spread 1 = .ok (.iload_n 1, 1) := by decide +kernel
theorem dX3_spread_2 : decode cX3_spread 2 = .ok (.aload_n 0, 1) := by decide +kernel
theorem dX3_spread_3 : decode cX3_spread 3 = .ok (.iload_n 1, 1) := by decide +kernel
theorem dX3_spread_4 : decode cX3_spread 4 = .ok (.invokevirtual 45, 3) := by decide +kernel
theorem dX3_spread_7 : decode cX3_spread 7 = .ok (.invokevirtual 49, 3) := by decide +kernel
theorem dX3_spread_10 : decode cX3_spread 10 = .ok (.return_, 1) := by decide +kernel
theorem dX3_spreadBy_0 : decode cX3_spreadBy 0 = .ok (.aload_n 0, 1) := by decide +kernel
theorem dX3_spreadBy_1 : decode cX3_spreadBy 1 = .ok (.getfield 18, 3) := by decide +kernel
theorem dX3_spreadBy_4 : decode cX3_spreadBy 4 = .ok (.iconst 0, 1) := by decide +kernel
theorem dX3_spreadBy_5 : decode cX3_spreadBy 5 = .ok (.invokestatic 53, 3) := by decide +kernel
theorem dX3_spreadBy_8 : decode cX3_spreadBy 8 = .ok (.aload_n 0, 1) := by decide +kernel
theorem dX3_spreadBy_9 : decode cX3_spreadBy 9 = .ok (.iload_n 2, 1) := by decide +kernel
theorem dX3_spreadBy_10 : decode cX3_spreadBy 10 = .ok (.putfield 59, 3) := by decide +kernel
theorem dX3_spreadBy_13 : decode cX3_spreadBy 13 = .ok (.aload_n 0, 1) := by decide +kernel
theorem dX3_spreadBy_14 : decode cX3_spreadBy 14 = .ok (.iload_n 1, 1) := by decide +kernel
theorem dX3_spreadBy_15 : decode cX3_spreadBy 15 = .ok (.ifCond .ne 10, 3) := by decide +kernel
theorem dX3_spreadBy_18 : decode cX3_spreadBy 18 = .ok (.aload_n 0, 1) := by decide +kernel
theorem dX3_spreadBy_19 : decode cX3_spreadBy 19 = .ok (.invokevirtual 62, 3) := by decide +kernel
theorem dX3_spreadBy_22 : decode cX3_spreadBy 22 = .ok (.goto 9, 3) := by decide +kernel
theorem dX3_spreadBy_25 : decode cX3_spreadBy 25 = .ok (.aload_n 0, 1) := by decide +kernel
theorem dX3_spreadBy_26 : decode cX3_spreadBy 26 = .ok (.getfield 9, 3) := by decide +kernel
theorem dX3_spreadBy_29 : decode cX3_spreadBy 29 = .ok (.iconst 0, 1) := by decide +kernel
theorem dX3_spreadBy_30 : decode cX3_spreadBy 30 = .ok (.iaload, 1) := by decide +kernel
theorem dX3_spreadBy_31 : decode cX3_spreadBy 31 = .ok (.putfield 66, 3) := by decide +kernel
theorem dX3_spreadBy_34 : decode cX3_spreadBy 34 = .ok (.aload_n 0, 1) := by decide +kernel
theorem dX3_spreadBy_35 : decode cX3_spreadBy 35 = .ok (.iload_n 1, 1) := by decide +kernel
theorem dX3_spreadBy_36 : decode cX3_spreadBy 36 = .ok (.ifCond .ne 10, 3) := by decide +kernel
theorem dX3_spreadBy_39 : decode cX3_spreadBy 39 = .ok (.aload_n 0, 1) := by decide +kernel
theorem dX3_spreadBy_40 : decode cX3_spreadBy 40 = .ok (.getfield 25, 3) := by decide +kernel
theorem dX3_spreadBy_43 : decode cX3_spreadBy 43 = .ok (.goto 13, 3) := by decide +kernel
theorem dX3_spreadBy_46 : decode cX3_spreadBy 46 = .ok (.iconst 0, 1) := by decide +kernel
theorem dX3_spreadBy_47 : decode cX3_spreadBy 47 = .ok (.aload_n 0, 1) := by decide +kernel
theorem dX3_spreadBy_48 : decode cX3_spreadBy 48 = .ok (.getfield 25, 3) := by decide +kernel
theorem dX3_spreadBy_51 : decode cX3_spreadBy 51 = .ok (.iconst 1, 1) := by decide +kernel
theorem dX3_spreadBy_52 : decode cX3_spreadBy 52 = .ok (.isub, 1) := by decide +kernel
theorem dX3_spreadBy_53 : decode cX3_spreadBy 53 = .ok (.invokestatic 69, 3) := by decide +kernel
theorem dX3_spreadBy_56 : decode cX3_spreadBy 56 = .ok (.putfield 75, 3) := by decide +kernel
theorem dX3_spreadBy_59 : decode cX3_spreadBy 59 = .ok (.iconst 0, 1) := by decide +kernel
theorem dX3_spreadBy_60 : decode cX3_spreadBy 60 = .ok (.istore_n 3, 1) := by decide +kernel
theorem dX3_spreadBy_61 : decode cX3_spreadBy 61 = .ok (.iload_n 3, 1) := by decide +kernel
theorem dX3_spreadBy_62 : decode cX3_spreadBy 62 = .ok (.aload_n 0, 1) := by decide +kernel
theorem dX3_spreadBy_63 : decode cX3_spreadBy 63 = .ok (.getfield 75, 3) := by decide +kernel
theorem dX3_spreadBy_66 : decode cX3_spreadBy 66 = .ok (.if_icmp .ge 91, 3) := by decide +kernel
theorem dX3_spreadBy_69 : decode cX3_spreadBy 69 = .ok (.iload_n 1, 1) := by decide +kernel
theorem dX3_spreadBy_70 : decode cX3_spreadBy 70 = .ok (.ifCond .ne 17, 3) := by decide +kernel
theorem dX3_spreadBy_73 : decode cX3_spreadBy 73 = .ok (.aload_n 0, 1) := by decide +kernel
theorem dX3_spreadBy_74 : decode cX3_spreadBy 74 = .ok (.getfield 9, 3) := by decide +kernel
theorem dX3_spreadBy_77 : decode cX3_spreadBy 77 = .ok (.iload_n 3, 1) := by decide +kernel
theorem dX3_spreadBy_78 : decode cX3_spreadBy 78 = .ok (.iaload, 1) := by decide +kernel
theorem dX3_spreadBy_79 : decode cX3_spreadBy 79 = .ok (.aload_n 0, 1) := by decide +kernel
theorem dX3_spreadBy_80 : decode cX3_spreadBy 80 = .ok (.getfield 66, 3) := by decide +kernel
theorem dX3_spreadBy_83 : decode cX3_spreadBy 83 = .ok (.isub, 1) := by decide +kernel
theorem dX3_spreadBy_84 : decode cX3_spreadBy 84 = .ok (.goto 23, 3) := by decide +kernel
theorem dX3_spreadBy_87 : decode cX3_spreadBy 87 = .ok (.aload_n 0, 1) := by decide +kernel
theorem dX3_spreadBy_88 : decode cX3_spreadBy 88 = .ok (.getfield 9, 3) := by decide +kernel
theorem dX3_spreadBy_91 : decode cX3_spreadBy 91 = .ok (.iload_n 3, 1) := by decide +kernel
theorem dX3_spreadBy_92 : decode cX3_spreadBy 92 = .ok (.iconst 1, 1) := by decide +kernel
theorem dX3_spreadBy_93 : decode cX3_spreadBy 93 = .ok (.iadd, 1) := by decide +kernel
theorem dX3_spreadBy_94 : decode cX3_spreadBy 94 = .ok (.iaload, 1) := by decide +kernel
theorem dX3_spreadBy_95 : decode cX3_spreadBy 95 = .ok (.aload_n 0, 1) := by decide +kernel
theorem dX3_spreadBy_96 : decode cX3_spreadBy 96 = .ok (.getfield 9, 3) := by decide +kernel
theorem dX3_spreadBy_99 : decode cX3_spreadBy 99 = .ok (.iload_n 3, 1) := by decide +kernel
theorem dX3_spreadBy_100 : decode cX3_spreadBy 100 = .ok (.iaload, 1) := by decide +kernel
theorem dX3_spreadBy_101 : decode cX3_spreadBy 101 = .ok (.isub, 1) := by decide +kernel
theorem dX3_spreadBy_102 : decode cX3_spreadBy 102 = .ok (.aload_n 0, 1) := by decide +kernel
theorem dX3_spreadBy_103 : decode cX3_spreadBy 103 = .ok (.getfield 59, 3) := by decide +kernel
theorem dX3_spreadBy_106 : decode cX3_spreadBy 106 = .ok (.isub, 1) := by decide +kernel
theorem dX3_spreadBy_107 : decode cX3_spreadBy 107 = .ok (.istore 4, 2) := by decide +kernel
theorem dX3_spreadBy_109 : decode cX3_spreadBy 109 = .ok (.aload_n 0, 1) := by decide +kernel
theorem dX3_spreadBy_110 : decode cX3_spreadBy 110 = .ok (.getfield 15, 3) := by decide +kernel
theorem dX3_spreadBy_113 : decode cX3_spreadBy 113 = .ok (.iload_n 3, 1) := by decide +kernel
theorem dX3_spreadBy_114 : decode cX3_spreadBy 114 = .ok (.iload_n 1, 1) := by decide +kernel
theorem dX3_spreadBy_115 : decode cX3_spreadBy 115 = .ok (.iconst 1, 1) := by decide +kernel
theorem dX3_spreadBy_116 : decode cX3_spreadBy 116 = .ok (.if_icmp .ne 11, 3) := by decide +kernel
theorem dX3_spreadBy_119 : decode cX3_spreadBy 119 = .ok (.iload 4, 2) := by decide +kernel
theorem dX3_spreadBy_121 : decode cX3_spreadBy 121 = .ok (.invokestatic 78, 3) := by decide +kernel
theorem dX3_spreadBy_124 : decode cX3_spreadBy 124 = .ok (.goto 5, 3) := by decide +kernel
theorem dX3_spreadBy_127 : decode cX3_spreadBy 127 = .ok (.iload 4, 2) := by decide +kernel
theorem dX3_spreadBy_129 : decode cX3_spreadBy 129 = .ok (.iastore, 1) := by decide +kernel
theorem dX3_spreadBy_130 : decode cX3_spreadBy 130 = .ok (.aload_n 0, 1) := by decide +kernel
theorem dX3_spreadBy_131 : decode cX3_spreadBy 131 = .ok (.getfield 18, 3) := by decide +kernel
theorem dX3_spreadBy_134 : decode cX3_spreadBy 134 = .ok (.bipush 32, 2) := by decide +kernel
theorem dX3_spreadBy_136 : decode cX3_spreadBy 136 = .ok (.aload_n 0, 1) := by decide +kernel
theorem dX3_spreadBy_137 : decode cX3_spreadBy 137 = .ok (.getfield 15, 3) := by decide +kernel
theorem dX3_spreadBy_140 : decode cX3_spreadBy 140 = .ok (.iload_n 3, 1) := by decide +kernel
theorem dX3_spreadBy_141 : decode cX3_spreadBy 141 = .ok (.iaload, 1) := by decide +kernel
theorem dX3_spreadBy_142 : decode cX3_spreadBy 142 = .ok (.invokestatic 81, 3) := by decide +kernel
theorem dX3_spreadBy_145 : decode cX3_spreadBy 145 = .ok (.isub, 1) := by decide +kernel
theorem dX3_spreadBy_146 : decode cX3_spreadBy 146 = .ok (.dup2, 1) := by decide +kernel
theorem dX3_spreadBy_147 : decode cX3_spreadBy 147 = .ok (.iaload, 1) := by decide +kernel
theorem dX3_spreadBy_148 : decode cX3_spreadBy 148 = .ok (.iconst 1, 1) := by decide +kernel
theorem dX3_spreadBy_149 : decode cX3_spreadBy 149 = .ok (.iadd, 1) := by decide +kernel
theorem dX3_spreadBy_150 : decode cX3_spreadBy 150 = .ok (.iastore, 1) := by decide +kernel
theorem dX3_spreadBy_151 : decode cX3_spreadBy 151 = .ok (.iinc 3 1, 3) := by decide +kernel
theorem dX3_spreadBy_154 : decode cX3_spreadBy 154 = .ok (.goto (-93), 3) := by decide +kernel
theorem dX3_spreadBy_157 : decode cX3_spreadBy 157 = .ok (.return_, 1) := by decide +kernel
theorem dX3_leastGiven_0 : decode cX3_leastGiven 0 = .ok (.aload_n 0, 1) := by decide +kernel
theorem dX3_leastGiven_1 : decode cX3_leastGiven 1 = .ok (.getfield 25, 3) := by decide +kernel
theorem dX3_leastGiven_4 : decode cX3_leastGiven 4 = .ok (.ifCond .le 12, 3) := by decide +kernel
theorem dX3_leastGiven_7 : decode cX3_leastGiven 7 = .ok (.aload_n 0, 1) := by decide +kernel
theorem dX3_leastGiven_8 : decode cX3_leastGiven 8 = .ok (.getfield 9, 3) := by decide +kernel
theorem dX3_leastGiven_11 : decode cX3_leastGiven 11 = .ok (.iconst 0, 1) := by decide +kernel
theorem dX3_leastGiven_12 : decode cX3_leastGiven 12 = .ok (.iaload, 1) := by decide +kernel
theorem dX3_leastGiven_13 : decode cX3_leastGiven 13 = .ok (.goto 4, 3) := by decide +kernel
theorem dX3_leastGiven_16 : decode cX3_leastGiven 16 = .ok (.iconst 0, 1) := by decide +kernel
theorem dX3_leastGiven_17 : decode cX3_leastGiven 17 = .ok (.istore_n 1, 1) := by decide +kernel
theorem dX3_leastGiven_18 : decode cX3_leastGiven 18 = .ok (.iconst 1, 1) := by decide +kernel
theorem dX3_leastGiven_19 : decode cX3_leastGiven 19 = .ok (.istore_n 2, 1) := by decide +kernel
theorem dX3_leastGiven_20 : decode cX3_leastGiven 20 = .ok (.iload_n 2, 1) := by decide +kernel
theorem dX3_leastGiven_21 : decode cX3_leastGiven 21 = .ok (.aload_n 0, 1) := by decide +kernel
theorem dX3_leastGiven_22 : decode cX3_leastGiven 22 = .ok (.getfield 25, 3) := by decide +kernel
theorem dX3_leastGiven_25 : decode cX3_leastGiven 25 = .ok (.if_icmp .ge 20, 3) := by decide +kernel
theorem dX3_leastGiven_28 : decode cX3_leastGiven 28 = .ok (.iload_n 1, 1) := by decide +kernel
theorem dX3_leastGiven_29 : decode cX3_leastGiven 29 = .ok (.aload_n 0, 1) := by decide +kernel
theorem dX3_leastGiven_30 : decode cX3_leastGiven 30 = .ok (.getfield 9, 3) := by decide +kernel
theorem dX3_leastGiven_33 : decode cX3_leastGiven 33 = .ok (.iload_n 2, 1) := by decide +kernel
theorem dX3_leastGiven_34 : decode cX3_leastGiven 34 = .ok (.iaload, 1) := by decide +kernel
theorem dX3_leastGiven_35 : decode cX3_leastGiven 35 = .ok (.invokestatic 86, 3) := by decide +kernel
theorem dX3_leastGiven_38 : decode cX3_leastGiven 38 = .ok (.istore_n 1, 1) := by decide +kernel
theorem dX3_leastGiven_39 : decode cX3_leastGiven 39 = .ok (.iinc 2 1, 3) := by decide +kernel
theorem dX3_leastGiven_42 : decode cX3_leastGiven 42 = .ok (.goto (-22), 3) := by decide +kernel
theorem dX3_leastGiven_45 : decode cX3_leastGiven 45 = .ok (.iload_n 1, 1) := by decide +kernel
theorem dX3_leastGiven_46 : decode cX3_leastGiven 46 = .ok (.ireturn, 1) := by decide +kernel
theorem dX3_stepOf_0 : decode cX3_stepOf 0 = .ok (.iload_n 1, 1) := by decide +kernel
theorem dX3_stepOf_1 : decode cX3_stepOf 1 = .ok (.iconst 2, 1) := by decide +kernel
theorem dX3_stepOf_2 : decode cX3_stepOf 2 = .ok (.if_icmp .eq 5, 3) := by decide +kernel
theorem dX3_stepOf_5 : decode cX3_stepOf 5 = .ok (.iconst 0, 1) := by decide +kernel
theorem dX3_stepOf_6 : decode cX3_stepOf 6 = .ok (.ireturn, 1) := by decide +kernel
theorem dX3_stepOf_7 : decode cX3_stepOf 7 = .ok (.ldc 89, 2) := by decide +kernel
theorem dX3_stepOf_9 : decode cX3_stepOf 9 = .ok (.istore_n 2, 1) := by decide +kernel
theorem dX3_stepOf_10 : decode cX3_stepOf 10 = .ok (.iconst 1, 1) := by decide +kernel
theorem dX3_stepOf_11 : decode cX3_stepOf 11 = .ok (.istore_n 3, 1) := by decide +kernel
theorem dX3_stepOf_12 : decode cX3_stepOf 12 = .ok (.iload_n 3, 1) := by decide +kernel
theorem dX3_stepOf_13 : decode cX3_stepOf 13 = .ok (.aload_n 0, 1) := by decide +kernel
theorem dX3_stepOf_14 : decode cX3_stepOf 14 = .ok (.getfield 25, 3) := by decide +kernel
theorem dX3_stepOf_17 : decode cX3_stepOf 17 = .ok (.if_icmp .ge 29, 3) := by decide +kernel
theorem dX3_stepOf_20 : decode cX3_stepOf 20 = .ok (.iload_n 2, 1) := by decide +kernel
theorem dX3_stepOf_21 : decode cX3_stepOf 21 = .ok (.aload_n 0, 1) := by decide +kernel
theorem dX3_stepOf_22 : decode cX3_stepOf 22 = .ok (.getfield 9, 3) := by decide +kernel
theorem dX3_stepOf_25 : decode cX3_stepOf 25 = .ok (.iload_n 3, 1) := by decide +kernel
theorem dX3_stepOf_26 : decode cX3_stepOf 26 = .ok (.iaload, 1) := by decide +kernel
theorem dX3_stepOf_27 : decode cX3_stepOf 27 = .ok (.aload_n 0, 1) := by decide +kernel
theorem dX3_stepOf_28 : decode cX3_stepOf 28 = .ok (.getfield 9, 3) := by decide +kernel
theorem dX3_stepOf_31 : decode cX3_stepOf 31 = .ok (.iload_n 3, 1) := by decide +kernel
theorem dX3_stepOf_32 : decode cX3_stepOf 32 = .ok (.iconst 1, 1) := by decide +kernel
theorem dX3_stepOf_33 : decode cX3_stepOf 33 = .ok (.isub, 1) := by decide +kernel
theorem dX3_stepOf_34 : decode cX3_stepOf 34 = .ok (.iaload, 1) := by decide +kernel
theorem dX3_stepOf_35 : decode cX3_stepOf 35 = .ok (.isub, 1) := by decide +kernel
theorem dX3_stepOf_36 : decode cX3_stepOf 36 = .ok (.invokestatic 86, 3) := by decide +kernel
theorem dX3_stepOf_39 : decode cX3_stepOf 39 = .ok (.istore_n 2, 1) := by decide +kernel
theorem dX3_stepOf_40 : decode cX3_stepOf 40 = .ok (.iinc 3 1, 3) := by decide +kernel
theorem dX3_stepOf_43 : decode cX3_stepOf 43 = .ok (.goto (-31), 3) := by decide +kernel
theorem dX3_stepOf_46 : decode cX3_stepOf 46 = .ok (.iload_n 2, 1) := by decide +kernel
theorem dX3_stepOf_47 : decode cX3_stepOf 47 = .ok (.ireturn, 1) := by decide +kernel
theorem dX3_hasPart_0 : decode cX3_hasPart 0 = .ok (.iload_n 1, 1) := by decide +kernel
theorem dX3_hasPart_1 : decode cX3_hasPart 1 = .ok (.ifCond .lt 15, 3) := by decide +kernel
theorem dX3_hasPart_4 : decode cX3_hasPart 4 = .ok (.iload_n 1, 1) := by decide +kernel
theorem dX3_hasPart_5 : decode cX3_hasPart 5 = .ok (.aload_n 0, 1) := by decide +kernel
theorem dX3_hasPart_6 : decode cX3_hasPart 6 = .ok (.getfield 75, 3) := by decide +kernel
theorem dX3_hasPart_9 : decode cX3_hasPart 9 = .ok (.if_icmp .ge 7, 3) := by decide +kernel
theorem dX3_hasPart_12 : decode cX3_hasPart 12 = .ok (.iconst 1, 1) := by decide +kernel
theorem dX3_hasPart_13 : decode cX3_hasPart 13 = .ok (.goto 4, 3) := by decide +kernel
theorem dX3_hasPart_16 : decode cX3_hasPart 16 = .ok (.iconst 0, 1) := by decide +kernel
theorem dX3_hasPart_17 : decode cX3_hasPart 17 = .ok (.ireturn, 1) := by decide +kernel
theorem dX3_isOver_0 : decode cX3_isOver 0 = .ok (.aload_n 0, 1) := by decide +kernel
theorem dX3_isOver_1 : decode cX3_isOver 1 = .ok (.iload_n 1, 1) := by decide +kernel
theorem dX3_isOver_2 : decode cX3_isOver 2 = .ok (.invokevirtual 90, 3) := by decide +kernel
theorem dX3_isOver_5 : decode cX3_isOver 5 = .ok (.ifCond .eq 24, 3) := by decide +kernel
theorem dX3_isOver_8 : decode cX3_isOver 8 = .ok (.iload_n 2, 1) := by decide +kernel
theorem dX3_isOver_9 : decode cX3_isOver 9 = .ok (.bipush 32, 2) := by decide +kernel
theorem dX3_isOver_11 : decode cX3_isOver 11 = .ok (.if_icmp .ge 18, 3) := by decide +kernel
theorem dX3_isOver_14 : decode cX3_isOver 14 = .ok (.aload_n 0, 1) := by decide +kernel
theorem dX3_isOver_15 : decode cX3_isOver 15 = .ok (.getfield 15, 3) := by decide +kernel
theorem dX3_isOver_18 : decode cX3_isOver 18 = .ok (.iload_n 1, 1) := by decide +kernel
theorem dX3_isOver_19 : decode cX3_isOver 19 = .ok (.iaload, 1) := by decide +kernel
theorem dX3_isOver_20 : decode cX3_isOver 20 = .ok (.iload_n 2, 1) := by decide +kernel
theorem dX3_isOver_21 : decode cX3_isOver 21 = .ok (.iushr, 1) := by decide +kernel
theorem dX3_isOver_22 : decode cX3_isOver 22 = .ok (.ifCond .eq 7, 3) := by decide +kernel
theorem dX3_isOver_25 : decode cX3_isOver 25 = .ok (.iconst 1, 1) := by decide +kernel
theorem dX3_isOver_26 : decode cX3_isOver 26 = .ok (.goto 4, 3) := by decide +kernel
theorem dX3_isOver_29 : decode cX3_isOver 29 = .ok (.iconst 0, 1) := by decide +kernel
theorem dX3_isOver_30 : decode cX3_isOver 30 = .ok (.ireturn, 1) := by decide +kernel
theorem dX3_overAt_0 : decode cX3_overAt 0 = .ok (.iconst 0, 1) := by decide +kernel
theorem dX3_overAt_1 : decode cX3_overAt 1 = .ok (.istore_n 2, 1) := by decide +kernel
theorem dX3_overAt_2 : decode cX3_overAt 2 = .ok (.iconst 0, 1) := by decide +kernel
theorem dX3_overAt_3 : decode cX3_overAt 3 = .ok (.istore_n 3, 1) := by decide +kernel
theorem dX3_overAt_4 : decode cX3_overAt 4 = .ok (.iload_n 3, 1) := by decide +kernel
theorem dX3_overAt_5 : decode cX3_overAt 5 = .ok (.aload_n 0, 1) := by decide +kernel
theorem dX3_overAt_6 : decode cX3_overAt 6 = .ok (.getfield 75, 3) := by decide +kernel
theorem dX3_overAt_9 : decode cX3_overAt 9 = .ok (.if_icmp .ge 21, 3) := by decide +kernel
theorem dX3_overAt_12 : decode cX3_overAt 12 = .ok (.aload_n 0, 1) := by decide +kernel
theorem dX3_overAt_13 : decode cX3_overAt 13 = .ok (.iload_n 3, 1) := by decide +kernel
theorem dX3_overAt_14 : decode cX3_overAt 14 = .ok (.iload_n 1, 1) := by decide +kernel
theorem dX3_overAt_15 : decode cX3_overAt 15 = .ok (.invokevirtual 94, 3) := by decide +kernel
theorem dX3_overAt_18 : decode cX3_overAt 18 = .ok (.ifCond .eq 6, 3) := by decide +kernel
theorem dX3_overAt_21 : decode cX3_overAt 21 = .ok (.iinc 2 1, 3) := by decide +kernel
theorem dX3_overAt_24 : decode cX3_overAt 24 = .ok (.iinc 3 1, 3) := by decide +kernel
theorem dX3_overAt_27 : decode cX3_overAt 27 = .ok (.goto (-23), 3) := by decide +kernel
theorem dX3_overAt_30 : decode cX3_overAt 30 = .ok (.iload_n 2, 1) := by decide +kernel
theorem dX3_overAt_31 : decode cX3_overAt 31 = .ok (.ireturn, 1) := by decide +kernel
theorem dX3_bitsBy_0 : decode cX3_bitsBy 0 = .ok (.aload_n 0, 1) := by decide +kernel
theorem dX3_bitsBy_1 : decode cX3_bitsBy 1 = .ok (.iload_n 1, 1) := by decide +kernel
theorem dX3_bitsBy_2 : decode cX3_bitsBy 2 = .ok (.invokevirtual 98, 3) := by decide +kernel
theorem dX3_bitsBy_5 : decode cX3_bitsBy 5 = .ok (.aload_n 0, 1) := by decide +kernel
theorem dX3_bitsBy_6 : decode cX3_bitsBy 6 = .ok (.iload_n 2, 1) := by decide +kernel
theorem dX3_bitsBy_7 : decode cX3_bitsBy 7 = .ok (.aload_n 0, 1) := by decide +kernel
theorem dX3_bitsBy_8 : decode cX3_bitsBy 8 = .ok (.iload_n 2, 1) := by decide +kernel
theorem dX3_bitsBy_9 : decode cX3_bitsBy 9 = .ok (.invokevirtual 101, 3) := by decide +kernel
theorem dX3_bitsBy_12 : decode cX3_bitsBy 12 = .ok (.invokevirtual 104, 3) := by decide +kernel
theorem dX3_bitsBy_15 : decode cX3_bitsBy 15 = .ok (.iadd, 1) := by decide +kernel
theorem dX3_bitsBy_16 : decode cX3_bitsBy 16 = .ok (.ireturn, 1) := by decide +kernel
theorem dX3_headBits_0 : decode cX3_headBits 0 = .ok (.aload_n 0, 1) := by decide +kernel
theorem dX3_headBits_1 : decode cX3_headBits 1 = .ok (.getfield 25, 3) := by decide +kernel
theorem dX3_headBits_4 : decode cX3_headBits 4 = .ok (.aload_n 0, 1) := by decide +kernel
theorem dX3_headBits_5 : decode cX3_headBits 5 = .ok (.getfield 21, 3) := by decide +kernel
theorem dX3_headBits_8 : decode cX3_headBits 8 = .ok (.if_icmp .ge 10, 3) := by decide +kernel
theorem dX3_headBits_11 : decode cX3_headBits 11 = .ok (.aload_n 0, 1) := by decide +kernel
theorem dX3_headBits_12 : decode cX3_headBits 12 = .ok (.getfield 21, 3) := by decide +kernel
theorem dX3_headBits_15 : decode cX3_headBits 15 = .ok (.goto 4, 3) := by decide +kernel
theorem dX3_headBits_18 : decode cX3_headBits 18 = .ok (.iconst 0, 1) := by decide +kernel
theorem dX3_headBits_19 : decode cX3_headBits 19 = .ok (.istore_n 2, 1) := by decide +kernel
theorem dX3_headBits_20 : decode cX3_headBits 20 = .ok (.bipush 49, 2) := by decide +kernel
theorem dX3_headBits_22 : decode cX3_headBits 22 = .ok (.iload_n 2, 1) := by decide +kernel
theorem dX3_headBits_23 : decode cX3_headBits 23 = .ok (.iadd, 1) := by decide +kernel
theorem dX3_headBits_24 : decode cX3_headBits 24 = .ok (.iload_n 1, 1) := by decide +kernel
theorem dX3_headBits_25 : decode cX3_headBits 25 = .ok (.iconst 2, 1) := by decide +kernel
theorem dX3_headBits_26 : decode cX3_headBits 26 = .ok (.if_icmp .ne 8, 3) := by decide +kernel
theorem dX3_headBits_29 : decode cX3_headBits 29 = .ok (.bipush 32, 2) := by decide +kernel
theorem dX3_headBits_31 : decode cX3_headBits 31 = .ok (.goto 4, 3) := by decide +kernel
theorem dX3_headBits_34 : decode cX3_headBits 34 = .ok (.iconst 0, 1) := by decide +kernel
theorem dX3_headBits_35 : decode cX3_headBits 35 = .ok (.iadd, 1) := by decide +kernel
theorem dX3_headBits_36 : decode cX3_headBits 36 = .ok (.ireturn, 1) := by decide +kernel
theorem dX3_bodyBits_0 : decode cX3_bodyBits 0 = .ok (.iload_n 1, 1) := by decide +kernel
theorem dX3_bodyBits_1 : decode cX3_bodyBits 1 = .ok (.aload_n 0, 1) := by decide +kernel
theorem dX3_bodyBits_2 : decode cX3_bodyBits 2 = .ok (.getfield 75, 3) := by decide +kernel
theorem dX3_bodyBits_5 : decode cX3_bodyBits 5 = .ok (.imul, 1) := by decide +kernel
theorem dX3_bodyBits_6 : decode cX3_bodyBits 6 = .ok (.iload_n 2, 1) := by decide +kernel
theorem dX3_bodyBits_7 : decode cX3_bodyBits 7 = .ok (.bipush 36, 2) := by decide +kernel
theorem dX3_bodyBits_9 : decode cX3_bodyBits 9 = .ok (.iload_n 1, 1) := by decide +kernel
theorem dX3_bodyBits_10 : decode cX3_bodyBits 10 = .ok (.isub, 1) := by decide +kernel
theorem dX3_bodyBits_11 : decode cX3_bodyBits 11 = .ok (.imul, 1) := by decide +kernel
theorem dX3_bodyBits_12 : decode cX3_bodyBits 12 = .ok (.iadd, 1) := by decide +kernel
theorem dX3_bodyBits_13 : decode cX3_bodyBits 13 = .ok (.ireturn, 1) := by decide +kernel
theorem dX3_choose_0 : decode cX3_choose 0 = .ok (.aload_n 0, 1) := by decide +kernel
theorem dX3_choose_1 : decode cX3_choose 1 = .ok (.ldc 89, 2) := by decide +kernel
theorem dX3_choose_3 : decode cX3_choose 3 = .ok (.putfield 107, 3) := by decide +kernel
theorem dX3_choose_6 : decode cX3_choose 6 = .ok (.iconst 0, 1) := by decide +kernel
theorem dX3_choose_7 : decode cX3_choose 7 = .ok (.istore_n 1, 1) := by decide +kernel
theorem dX3_choose_8 : decode cX3_choose 8 = .ok (.iload_n 1, 1) := by decide +kernel
theorem dX3_choose_9 : decode cX3_choose 9 = .ok (.iconst 3, 1) := by decide +kernel
theorem dX3_choose_10 : decode cX3_choose 10 = .ok (.if_icmp .ge 32, 3) := by decide +kernel
theorem dX3_choose_13 : decode cX3_choose 13 = .ok (.aload_n 0, 1) := by decide +kernel
theorem dX3_choose_14 : decode cX3_choose 14 = .ok (.iload_n 1, 1) := by decide +kernel
theorem dX3_choose_15 : decode cX3_choose 15 = .ok (.invokevirtual 110, 3) := by decide +kernel
theorem dX3_choose_18 : decode cX3_choose 18 = .ok (.ifCond .eq 18, 3) := by decide +kernel
theorem dX3_choose_21 : decode cX3_choose 21 = .ok (.aload_n 0, 1) := by decide +kernel
theorem dX3_choose_22 : decode cX3_choose 22 = .ok (.iload_n 1, 1) := by decide +kernel
theorem dX3_choose_23 : decode cX3_choose 23 = .ok (.aload_n 0, 1) := by decide +kernel
theorem dX3_choose_24 : decode cX3_choose 24 = .ok (.iload_n 1, 1) := by decide +kernel
theorem dX3_choose_25 : decode cX3_choose 25 = .ok (.invokevirtual 45, 3) := by decide +kernel
theorem dX3_choose_28 : decode cX3_choose 28 = .ok (.invokevirtual 49, 3) := by decide +kernel
theorem dX3_choose_31 : decode cX3_choose 31 = .ok (.aload_n 0, 1) := by decide +kernel
theorem dX3_choose_32 : decode cX3_choose 32 = .ok (.iload_n 1, 1) := by decide +kernel
theorem dX3_choose_33 : decode cX3_choose 33 = .ok (.invokevirtual 113, 3) := by decide +kernel
theorem dX3_choose_36 : decode cX3_choose 36 = .ok (.iinc 1 1, 3) := by decide +kernel
theorem dX3_choose_39 : decode cX3_choose 39 = .ok (.goto (-31), 3) := by decide +kernel
theorem dX3_choose_42 : decode cX3_choose 42 = .ok (.return_, 1) := by decide +kernel
theorem dX3_chooseWidth_0 : decode cX3_chooseWidth 0 = .ok (.aload_n 0, 1) := by decide +kernel
theorem dX3_chooseWidth_1 : decode cX3_chooseWidth 1 = .ok (.iload_n 1, 1) := by decide +kernel
theorem dX3_chooseWidth_2 : decode cX3_chooseWidth 2 = .ok (.invokevirtual 98, 3) := by decide +kernel
theorem dX3_chooseWidth_5 : decode cX3_chooseWidth 5 = .ok (.istore_n 2, 1) := by decide +kernel
theorem dX3_chooseWidth_6 : decode cX3_chooseWidth 6 = .ok (.aload_n 0, 1) := by decide +kernel
theorem dX3_chooseWidth_7 : decode cX3_chooseWidth 7 = .ok (.getfield 75, 3) := by decide +kernel
theorem dX3_chooseWidth_10 : decode cX3_chooseWidth 10 = .ok (.istore_n 3, 1) := by decide +kernel
theorem dX3_chooseWidth_11 : decode cX3_chooseWidth 11 = .ok (.iconst 0, 1) := by decide +kernel
theorem dX3_chooseWidth_12 : decode cX3_chooseWidth 12 = .ok (.istore 4, 2) := by decide +kernel
theorem dX3_chooseWidth_14 : decode cX3_chooseWidth 14 = .ok (.iload 4, 2) := by decide +kernel
theorem dX3_chooseWidth_16 : decode cX3_chooseWidth 16 = .ok (.bipush 32, 2) := by decide +kernel
theorem dX3_chooseWidth_18 : decode cX3_chooseWidth 18 = .ok (.if_icmp .gt 75, 3) := by decide +kernel
theorem dX3_chooseWidth_21 : decode cX3_chooseWidth 21 = .ok (.iload_n 3, 1) := by decide +kernel
theorem dX3_chooseWidth_22 : decode cX3_chooseWidth 22 = .ok (.aload_n 0, 1) := by decide +kernel
theorem dX3_chooseWidth_23 : decode cX3_chooseWidth 23 = .ok (.getfield 18, 3) := by decide +kernel
theorem dX3_chooseWidth_26 : decode cX3_chooseWidth 26 = .ok (.iload 4, 2) := by decide +kernel
theorem dX3_chooseWidth_28 : decode cX3_chooseWidth 28 = .ok (.iaload, 1) := by decide +kernel
theorem dX3_chooseWidth_29 : decode cX3_chooseWidth 29 = .ok (.isub, 1) := by decide +kernel
theorem dX3_chooseWidth_30 : decode cX3_chooseWidth 30 = .ok (.istore_n 3, 1) := by decide +kernel
theorem dX3_chooseWidth_31 : decode cX3_chooseWidth 31 = .ok (.iload 4, 2) := by decide +kernel
theorem dX3_chooseWidth_33 : decode cX3_chooseWidth 33 = .ok (.ifCond .eq 13, 3) := by decide +kernel
theorem dX3_chooseWidth_36 : decode cX3_chooseWidth 36 = .ok (.aload_n 0, 1) := by decide +kernel
theorem dX3_chooseWidth_37 : decode cX3_chooseWidth 37 = .ok (.getfield 18, 3) := by decide +kernel
theorem dX3_chooseWidth_40 : decode cX3_chooseWidth 40 = .ok (.iload 4, 2) := by decide +kernel
theorem dX3_chooseWidth_42 : decode cX3_chooseWidth 42 = .ok (.iaload, 1) := by decide +kernel
theorem dX3_chooseWidth_43 : decode cX3_chooseWidth 43 = .ok (.ifCond .le 39, 3) := by decide +kernel
theorem dX3_chooseWidth_46 : decode cX3_chooseWidth 46 = .ok (.iload_n 2, 1) := by decide +kernel
theorem dX3_chooseWidth_47 : decode cX3_chooseWidth 47 = .ok (.aload_n 0, 1) := by decide +kernel
theorem dX3_chooseWidth_48 : decode cX3_chooseWidth 48 = .ok (.iload 4, 2) := by decide +kernel
theorem dX3_chooseWidth_50 : decode cX3_chooseWidth 50 = .ok (.iload_n 3, 1) := by decide +kernel
theorem dX3_chooseWidth_51 : decode cX3_chooseWidth 51 = .ok (.invokevirtual 104, 3) := by decide +kernel
theorem dX3_chooseWidth_54 : decode cX3_chooseWidth 54 = .ok (.iadd, 1) := by decide +kernel
theorem dX3_chooseWidth_55 : decode cX3_chooseWidth 55 = .ok (.istore 5, 2) := by decide +kernel
theorem dX3_chooseWidth_57 : decode cX3_chooseWidth 57 = .ok (.iload_n 3, 1) := by decide +kernel
theorem dX3_chooseWidth_58 : decode cX3_chooseWidth 58 = .ok (.bipush 15, 2) := by decide +kernel
theorem dX3_chooseWidth_60 : decode cX3_chooseWidth 60 = .ok (.if_icmp .gt 22, 3) := by decide +kernel
theorem dX3_chooseWidth_63 : decode cX3_chooseWidth 63 = .ok (.iload 5, 2) := by decide +kernel
theorem dX3_chooseWidth_65 : decode cX3_chooseWidth 65 = .ok (.aload_n 0, 1) := by decide +kernel
theorem dX3_chooseWidth_66 : decode cX3_chooseWidth 66 = .ok (.getfield 107, 3) := by decide +kernel
theorem dX3_chooseWidth_69 : decode cX3_chooseWidth 69 = .ok (.if_icmp .ge 13, 3) := by decide +kernel
theorem dX3_chooseWidth_72 : decode cX3_chooseWidth 72 = .ok (.aload_n 0, 1) := by decide +kernel
theorem dX3_chooseWidth_73 : decode cX3_chooseWidth 73 = .ok (.iload_n 1, 1) := by decide +kernel
theorem dX3_chooseWidth_74 : decode cX3_chooseWidth 74 = .ok (.iload 4, 2) := by decide +kernel
theorem dX3_chooseWidth_76 : decode cX3_chooseWidth 76 = .ok (.iload_n 3, 1) := by decide +kernel
theorem dX3_chooseWidth_77 : decode cX3_chooseWidth 77 = .ok (.iload 5, 2) := by decide +kernel
theorem dX3_chooseWidth_79 : decode cX3_chooseWidth 79 = .ok (.invokevirtual 117, 3) := by decide +kernel
theorem dX3_chooseWidth_82 : decode cX3_chooseWidth 82 = .ok (.iload_n 3, 1) := by decide +kernel
theorem dX3_chooseWidth_83 : decode cX3_chooseWidth 83 = .ok (.ifCond .ne 4, 3) := by decide +kernel
theorem dX3_chooseWidth_86 : decode cX3_chooseWidth 86 = .ok (.return_, 1) := by decide +kernel
theorem dX3_chooseWidth_87 : decode cX3_chooseWidth 87 = .ok (.iinc 4 1, 3) := by decide +kernel
theorem dX3_chooseWidth_90 : decode cX3_chooseWidth 90 = .ok (.goto (-76), 3) := by decide +kernel
theorem dX3_chooseWidth_93 : decode cX3_chooseWidth 93 = .ok (.return_, 1) := by decide +kernel
theorem dX3_keepBest_0 : decode cX3_keepBest 0 = .ok (.aload_n 0, 1) := by decide +kernel
theorem dX3_keepBest_1 : decode cX3_keepBest 1 = .ok (.iload_n 1, 1) := by decide +kernel
theorem dX3_keepBest_2 : decode cX3_keepBest 2 = .ok (.putfield 121, 3) := by decide +kernel
theorem dX3_keepBest_5 : decode cX3_keepBest 5 = .ok (.aload_n 0, 1) := by decide +kernel
theorem dX3_keepBest_6 : decode cX3_keepBest 6 = .ok (.iload_n 2, 1) := by decide +kernel
theorem dX3_keepBest_7 : decode cX3_keepBest 7 = .ok (.putfield 124, 3) := by decide +kernel
theorem dX3_keepBest_10 : decode cX3_keepBest 10 = .ok (.aload_n 0, 1) := by decide +kernel
theorem dX3_keepBest_11 : decode cX3_keepBest 11 = .ok (.iload_n 3, 1) := by decide +kernel
theorem dX3_keepBest_12 : decode cX3_keepBest 12 = .ok (.putfield 127, 3) := by decide +kernel
theorem dX3_keepBest_15 : decode cX3_keepBest 15 = .ok (.aload_n 0, 1) := by decide +kernel
theorem dX3_keepBest_16 : decode cX3_keepBest 16 = .ok (.iload 4, 2) := by decide +kernel
theorem dX3_keepBest_18 : decode cX3_keepBest 18 = .ok (.putfield 107, 3) := by decide +kernel
theorem dX3_keepBest_21 : decode cX3_keepBest 21 = .ok (.aload_n 0, 1) := by decide +kernel
theorem dX3_keepBest_22 : decode cX3_keepBest 22 = .ok (.aload_n 0, 1) := by decide +kernel
theorem dX3_keepBest_23 : decode cX3_keepBest 23 = .ok (.getfield 66, 3) := by decide +kernel
theorem dX3_keepBest_26 : decode cX3_keepBest 26 = .ok (.putfield 130, 3) := by decide +kernel
theorem dX3_keepBest_29 : decode cX3_keepBest 29 = .ok (.aload_n 0, 1) := by decide +kernel
theorem dX3_keepBest_30 : decode cX3_keepBest 30 = .ok (.aload_n 0, 1) := by decide +kernel
theorem dX3_keepBest_31 : decode cX3_keepBest 31 = .ok (.getfield 59, 3) := by decide +kernel
theorem dX3_keepBest_34 : decode cX3_keepBest 34 = .ok (.putfield 133, 3) := by decide +kernel
theorem dX3_keepBest_37 : decode cX3_keepBest 37 = .ok (.return_, 1) := by decide +kernel
theorem dX3_bitsInBlocksOf_0 : decode cX3_bitsInBlocksOf 0 = .ok (.iconst 0, 1) := by decide +kernel
theorem dX3_bitsInBlocksOf_1 : decode cX3_bitsInBlocksOf 1 = .ok (.istore_n 3, 1) := by decide +kernel
theorem dX3_bitsInBlocksOf_2 : decode cX3_bitsInBlocksOf 2 = .ok (.iconst 0, 1) := by decide +kernel
theorem dX3_bitsInBlocksOf_3 : decode cX3_bitsInBlocksOf 3 = .ok (.istore 4, 2) := by decide +kernel
theorem dX3_bitsInBlocksOf_5 : decode cX3_bitsInBlocksOf 5 = .ok (.iload 4, 2) := by decide +kernel
theorem dX3_bitsInBlocksOf_7 : decode cX3_bitsInBlocksOf 7 = .ok (.aload_n 1, 1) := by decide +kernel
theorem dX3_bitsInBlocksOf_8 : decode cX3_bitsInBlocksOf 8 = .ok (.getfield 136, 3) := by decide +kernel
theorem dX3_bitsInBlocksOf_11 : decode cX3_bitsInBlocksOf 11 = .ok (.if_icmp .ge 35, 3) := by decide +kernel
theorem dX3_bitsInBlocksOf_14 : decode cX3_bitsInBlocksOf 14 = .ok (.aload_n 0, 1) := by decide +kernel
theorem dX3_bitsInBlocksOf_15 : decode cX3_bitsInBlocksOf 15 = .ok (.aload_n 1, 1) := by decide +kernel
theorem dX3_bitsInBlocksOf_16 : decode cX3_bitsInBlocksOf 16 = .ok (.iload 4, 2) := by decide +kernel
theorem dX3_bitsInBlocksOf_18 : decode cX3_bitsInBlocksOf 18 = .ok (.iload_n 2, 1) := by decide +kernel
theorem dX3_bitsInBlocksOf_19 : decode cX3_bitsInBlocksOf 19 = .ok (.invokevirtual 139, 3) := by decide +kernel
theorem dX3_bitsInBlocksOf_22 : decode cX3_bitsInBlocksOf 22 = .ok (.aload_n 0, 1) := by decide +kernel
theorem dX3_bitsInBlocksOf_23 : decode cX3_bitsInBlocksOf 23 = .ok (.invokevirtual 143, 3) := by decide +kernel
theorem dX3_bitsInBlocksOf_26 : decode cX3_bitsInBlocksOf 26 = .ok (.iload_n 3, 1) := by decide +kernel
theorem dX3_bitsInBlocksOf_27 : decode cX3_bitsInBlocksOf 27 = .ok (.aload_n 0, 1) := by decide +kernel
theorem dX3_bitsInBlocksOf_28 : decode cX3_bitsInBlocksOf 28 = .ok (.getfield 107, 3) := by decide +kernel
theorem dX3_bitsInBlocksOf_31 : decode cX3_bitsInBlocksOf 31 = .ok (.iadd, 1) := by decide +kernel
theorem dX3_bitsInBlocksOf_32 : decode cX3_bitsInBlocksOf 32 = .ok (.istore_n 3, 1) := by decide +kernel
theorem dX3_bitsInBlocksOf_33 : decode cX3_bitsInBlocksOf 33 = .ok (.iload 4, 2) := by decide +kernel
theorem dX3_bitsInBlocksOf_35 : decode cX3_bitsInBlocksOf 35 = .ok (.iconst 1, 1) := by decide +kernel
theorem dX3_bitsInBlocksOf_36 : decode cX3_bitsInBlocksOf 36 = .ok (.iload_n 2, 1) := by decide +kernel
theorem dX3_bitsInBlocksOf_37 : decode cX3_bitsInBlocksOf 37 = .ok (.invokestatic 69, 3) := by decide +kernel
theorem dX3_bitsInBlocksOf_40 : decode cX3_bitsInBlocksOf 40 = .ok (.iadd, 1) := by decide +kernel
theorem dX3_bitsInBlocksOf_41 : decode cX3_bitsInBlocksOf 41 = .ok (.istore 4, 2) := by decide +kernel
theorem dX3_bitsInBlocksOf_43 : decode cX3_bitsInBlocksOf 43 = .ok (.goto (-38), 3) := by decide +kernel
theorem dX3_bitsInBlocksOf_46 : decode cX3_bitsInBlocksOf 46 = .ok (.iload_n 3, 1) := by decide +kernel
theorem dX3_bitsInBlocksOf_47 : decode cX3_bitsInBlocksOf 47 = .ok (.ireturn, 1) := by decide +kernel

