theorem dX10_flush_50 : decode cX10_flush 50 = .ok (.iconst 3, 1) := by decide +kernel
theorem dX10_flush_51 : decode cX10_flush 51 = .ok (.iaload, 1) := by decide +kernel
theorem dX10_flush_52 : decode cX10_flush 52 = .ok (.if_icmp .ge 43, 3) := by decide +kernel
theorem dX10_flush_55 : decode cX10_flush 55 = .ok (.aload_n 0, 1) := by decide +kernel
theorem dX10_flush_56 : decode cX10_flush 56 = .ok (.iload_n 1, 1) := by decide +kernel
theorem dX10_flush_57 : decode cX10_flush 57 = .ok (.iload_n 2, 1) := by decide +kernel
theorem dX10_flush_58 : decode cX10_flush 58 = .ok (.iload_n 3, 1) := by decide +kernel
theorem dX10_flush_59 : decode cX10_flush 59 = .ok (.iadd, 1) := by decide +kernel
theorem dX10_flush_60 : decode cX10_flush 60 = .ok (.aload_n 0, 1) := by decide +kernel
theorem dX10_flush_61 : decode cX10_flush 61 = .ok (.getfield 7, 3) := by decide +kernel
theorem dX10_flush_64 : decode cX10_flush 64 = .ok (.iconst 4, 1) := by decide +kernel
theorem dX10_flush_65 : decode cX10_flush 65 = .ok (.iload_n 3, 1) := by decide +kernel
theorem dX10_flush_66 : decode cX10_flush 66 = .ok (.iadd, 1) := by decide +kernel
theorem dX10_flush_67 : decode cX10_flush 67 = .ok (.iaload, 1) := by decide +kernel
theorem dX10_flush_68 : decode cX10_flush 68 = .ok (.aload_n 0, 1) := by decide +kernel
theorem dX10_flush_69 : decode cX10_flush 69 = .ok (.getfield 7, 3) := by decide +kernel
theorem dX10_flush_72 : decode cX10_flush 72 = .ok (.bipush 20, 2) := by decide +kernel
theorem dX10_flush_74 : decode cX10_flush 74 = .ok (.iload_n 3, 1) := by decide +kernel
theorem dX10_flush_75 : decode cX10_flush 75 = .ok (.iadd, 1) := by decide +kernel
theorem dX10_flush_76 : decode cX10_flush 76 = .ok (.iaload, 1) := by decide +kernel
theorem dX10_flush_77 : decode cX10_flush 77 = .ok (.iconst 1, 1) := by decide +kernel
theorem dX10_flush_78 : decode cX10_flush 78 = .ok (.if_icmp .ne 7, 3) := by decide +kernel
theorem dX10_flush_81 : decode cX10_flush 81 = .ok (.iconst 1, 1) := by decide +kernel
theorem dX10_flush_82 : decode cX10_flush 82 = .ok (.goto 4, 3) := by decide +kernel
theorem dX10_flush_85 : decode cX10_flush 85 = .ok (.iconst 0, 1) := by decide +kernel
theorem dX10_flush_86 : decode cX10_flush 86 = .ok (.invokevirtual 183, 3) := by decide +kernel
theorem dX10_flush_89 : decode cX10_flush 89 = .ok (.iinc 3 1, 3) := by decide +kernel
theorem dX10_flush_92 : decode cX10_flush 92 = .ok (.goto (-47), 3) := by decide +kernel
theorem dX10_flush_95 : decode cX10_flush 95 = .ok (.aload_n 0, 1) := by decide +kernel
theorem dX10_flush_96 : decode cX10_flush 96 = .ok (.iload_n 1, 1) := by decide +kernel
theorem dX10_flush_97 : decode cX10_flush 97 = .ok (.invokevirtual 77, 3) := by decide +kernel
theorem dX10_flush_100 : decode cX10_flush 100 = .ok (.istore_n 3, 1) := by decide +kernel
theorem dX10_flush_101 : decode cX10_flush 101 = .ok (.aload_n 0, 1) := by decide +kernel
theorem dX10_flush_102 : decode cX10_flush 102 = .ok (.iload_n 1, 1) := by decide +kernel
theorem dX10_flush_103 : decode cX10_flush 103 = .ok (.iload_n 3, 1) := by decide +kernel
theorem dX10_flush_104 : decode cX10_flush 104 = .ok (.aload_n 0, 1) := by decide +kernel
theorem dX10_flush_105 : decode cX10_flush 105 = .ok (.getfield 7, 3) := by decide +kernel
theorem dX10_flush_108 : decode cX10_flush 108 = .ok (.iconst 3, 1) := by decide +kernel
theorem dX10_flush_109 : decode cX10_flush 109 = .ok (.iaload, 1) := by decide +kernel
theorem dX10_flush_110 : decode cX10_flush 110 = .ok (.invokevirtual 200, 3) := by decide +kernel
theorem dX10_flush_113 : decode cX10_flush 113 = .ok (.aload_n 0, 1) := by decide +kernel
theorem dX10_flush_114 : decode cX10_flush 114 = .ok (.iload_n 1, 1) := by decide +kernel
theorem dX10_flush_115 : decode cX10_flush 115 = .ok (.iload_n 3, 1) := by decide +kernel
theorem dX10_flush_116 : decode cX10_flush 116 = .ok (.invokevirtual 171, 3) := by decide +kernel
theorem dX10_flush_119 : decode cX10_flush 119 = .ok (.aload_n 0, 1) := by decide +kernel
theorem dX10_flush_120 : decode cX10_flush 120 = .ok (.invokevirtual 191, 3) := by decide +kernel
theorem dX10_flush_123 : decode cX10_flush 123 = .ok (.aload_n 0, 1) := by decide +kernel
theorem dX10_flush_124 : decode cX10_flush 124 = .ok (.iload_n 1, 1) := by decide +kernel
theorem dX10_flush_125 : decode cX10_flush 125 = .ok (.iload_n 3, 1) := by decide +kernel
theorem dX10_flush_126 : decode cX10_flush 126 = .ok (.invokevirtual 177, 3) := by decide +kernel
theorem dX10_flush_129 : decode cX10_flush 129 = .ok (.ireturn, 1) := by decide +kernel
theorem dX10_changed_0 : decode cX10_changed 0 = .ok (.aload_n 0, 1) := by decide +kernel
theorem dX10_changed_1 : decode cX10_changed 1 = .ok (.iload_n 1, 1) := by decide +kernel
theorem dX10_changed_2 : decode cX10_changed 2 = .ok (.iload_n 2, 1) := by decide +kernel
theorem dX10_changed_3 : decode cX10_changed 3 = .ok (.invokevirtual 203, 3) := by decide +kernel
theorem dX10_changed_6 : decode cX10_changed 6 = .ok (.ifCond .ne 5, 3) := by decide +kernel
theorem dX10_changed_9 : decode cX10_changed 9 = .ok (.iconst (-1), 1) := by decide +kernel
theorem dX10_changed_10 : decode cX10_changed 10 = .ok (.ireturn, 1) := by decide +kernel
theorem dX10_changed_11 : decode cX10_changed 11 = .ok (.aload_n 0, 1) := by decide +kernel
theorem dX10_changed_12 : decode cX10_changed 12 = .ok (.invokevirtual 197, 3) := by decide +kernel
theorem dX10_changed_15 : decode cX10_changed 15 = .ok (.aload_n 0, 1) := by decide +kernel
theorem dX10_changed_16 : decode cX10_changed 16 = .ok (.iload_n 1, 1) := by decide +kernel
theorem dX10_changed_17 : decode cX10_changed 17 = .ok (.iload_n 2, 1) := by decide +kernel
theorem dX10_changed_18 : decode cX10_changed 18 = .ok (.iload_n 3, 1) := by decide +kernel
theorem dX10_changed_19 : decode cX10_changed 19 = .ok (.iload 4, 2) := by decide +kernel
theorem dX10_changed_21 : decode cX10_changed 21 = .ok (.invokevirtual 183, 3) := by decide +kernel
theorem dX10_changed_24 : decode cX10_changed 24 = .ok (.aload_n 0, 1) := by decide +kernel
theorem dX10_changed_25 : decode cX10_changed 25 = .ok (.iload_n 1, 1) := by decide +kernel
theorem dX10_changed_26 : decode cX10_changed 26 = .ok (.iload_n 2, 1) := by decide +kernel
theorem dX10_changed_27 : decode cX10_changed 27 = .ok (.invokevirtual 206, 3) := by decide +kernel
theorem dX10_changed_30 : decode cX10_changed 30 = .ok (.istore 5, 2) := by decide +kernel
theorem dX10_changed_32 : decode cX10_changed 32 = .ok (.aload_n 0, 1) := by decide +kernel
theorem dX10_changed_33 : decode cX10_changed 33 = .ok (.iload_n 1, 1) := by decide +kernel
theorem dX10_changed_34 : decode cX10_changed 34 = .ok (.iload 5, 2) := by decide +kernel
theorem dX10_changed_36 : decode cX10_changed 36 = .ok (.invokevirtual 171, 3) := by decide +kernel
theorem dX10_changed_39 : decode cX10_changed 39 = .ok (.aload_n 0, 1) := by decide +kernel
theorem dX10_changed_40 : decode cX10_changed 40 = .ok (.iload_n 1, 1) := by decide +kernel
theorem dX10_changed_41 : decode cX10_changed 41 = .ok (.iload 5, 2) := by decide +kernel
theorem dX10_changed_43 : decode cX10_changed 43 = .ok (.invokevirtual 177, 3) := by decide +kernel
theorem dX10_changed_46 : decode cX10_changed 46 = .ok (.ireturn, 1) := by decide +kernel
theorem dX10_set_0 : decode cX10_set 0 = .ok (.aload_n 0, 1) := by decide +kernel
theorem dX10_set_1 : decode cX10_set 1 = .ok (.iload_n 1, 1) := by decide +kernel
theorem dX10_set_2 : decode cX10_set 2 = .ok (.iload_n 2, 1) := by decide +kernel
theorem dX10_set_3 : decode cX10_set 3 = .ok (.iload_n 3, 1) := by decide +kernel
theorem dX10_set_4 : decode cX10_set 4 = .ok (.iconst 0, 1) := by decide +kernel
theorem dX10_set_5 : decode cX10_set 5 = .ok (.invokevirtual 209, 3) := by decide +kernel
theorem dX10_set_8 : decode cX10_set 8 = .ok (.ireturn, 1) := by decide +kernel
theorem dX10_clear_0 : decode cX10_clear 0 = .ok (.aload_n 0, 1) := by decide +kernel
theorem dX10_clear_1 : decode cX10_clear 1 = .ok (.iload_n 1, 1) := by decide +kernel
theorem dX10_clear_2 : decode cX10_clear 2 = .ok (.iload_n 2, 1) := by decide +kernel
theorem dX10_clear_3 : decode cX10_clear 3 = .ok (.iconst 0, 1) := by decide +kernel
theorem dX10_clear_4 : decode cX10_clear 4 = .ok (.iconst 1, 1) := by decide +kernel
theorem dX10_clear_5 : decode cX10_clear 5 = .ok (.invokevirtual 209, 3) := by decide +kernel
theorem dX10_clear_8 : decode cX10_clear 8 = .ok (.ireturn, 1) := by decide +kernel
theorem dX10_insert_0 : decode cX10_insert 0 = .ok (.iload_n 1, 1) := by decide +kernel
theorem dX10_insert_1 : decode cX10_insert 1 = .ok (.invokestatic 84, 3) := by decide +kernel
theorem dX10_insert_4 : decode cX10_insert 4 = .ok (.ifCond .eq 24, 3) := by decide +kernel
theorem dX10_insert_7 : decode cX10_insert 7 = .ok (.aload_n 0, 1) := by decide +kernel
theorem dX10_insert_8 : decode cX10_insert 8 = .ok (.iload_n 1, 1) := by decide +kernel
theorem dX10_insert_9 : decode cX10_insert 9 = .ok (.invokevirtual 77, 3) := by decide +kernel
theorem dX10_insert_12 : decode cX10_insert 12 = .ok (.ifCond .eq 16, 3) := by decide +kernel
theorem dX10_insert_15 : decode cX10_insert 15 = .ok (.iload_n 2, 1) := by decide +kernel
theorem dX10_insert_16 : decode cX10_insert 16 = .ok (.iconst 0, 1) := by decide +kernel
theorem dX10_insert_17 : decode cX10_insert 17 = .ok (.aload_n 0, 1) := by decide +kernel
theorem dX10_insert_18 : decode cX10_insert 18 = .ok (.iload_n 1, 1) := by decide +kernel
theorem dX10_insert_19 : decode cX10_insert 19 = .ok (.invokevirtual 88, 3) := by decide +kernel
theorem dX10_insert_22 : decode cX10_insert 22 = .ok (.invokestatic 65, 3) := by decide +kernel
theorem dX10_insert_25 : decode cX10_insert 25 = .ok (.ifCond .ne 5, 3) := by decide +kernel
theorem dX10_insert_28 : decode cX10_insert 28 = .ok (.iconst (-1), 1) := by decide +kernel
theorem dX10_insert_29 : decode cX10_insert 29 = .ok (.ireturn, 1) := by decide +kernel
theorem dX10_insert_30 : decode cX10_insert 30 = .ok (.iload_n 2, 1) := by decide +kernel
theorem dX10_insert_31 : decode cX10_insert 31 = .ok (.aload_n 0, 1) := by decide +kernel
theorem dX10_insert_32 : decode cX10_insert 32 = .ok (.iload_n 1, 1) := by decide +kernel
theorem dX10_insert_33 : decode cX10_insert 33 = .ok (.invokevirtual 88, 3) := by decide +kernel
theorem dX10_insert_36 : decode cX10_insert 36 = .ok (.if_icmp .ne 13, 3) := by decide +kernel
theorem dX10_insert_39 : decode cX10_insert 39 = .ok (.aload_n 0, 1) := by decide +kernel
theorem dX10_insert_40 : decode cX10_insert 40 = .ok (.iload_n 1, 1) := by decide +kernel
theorem dX10_insert_41 : decode cX10_insert 41 = .ok (.invokevirtual 77, 3) := by decide +kernel
theorem dX10_insert_44 : decode cX10_insert 44 = .ok (.iconst 1, 1) := by decide +kernel
theorem dX10_insert_45 : decode cX10_insert 45 = .ok (.isub, 1) := by decide +kernel
theorem dX10_insert_46 : decode cX10_insert 46 = .ok (.goto 9, 3) := by decide +kernel
theorem dX10_insert_49 : decode cX10_insert 49 = .ok (.aload_n 0, 1) := by decide +kernel
theorem dX10_insert_50 : decode cX10_insert 50 = .ok (.iload_n 1, 1) := by decide +kernel
theorem dX10_insert_51 : decode cX10_insert 51 = .ok (.iload_n 2, 1) := by decide +kernel
theorem dX10_insert_52 : decode cX10_insert 52 = .ok (.invokevirtual 206, 3) := by decide +kernel
theorem dX10_insert_55 : decode cX10_insert 55 = .ok (.istore 4, 2) := by decide +kernel
theorem dX10_insert_57 : decode cX10_insert 57 = .ok (.aload_n 0, 1) := by decide +kernel
theorem dX10_insert_58 : decode cX10_insert 58 = .ok (.iload_n 1, 1) := by decide +kernel
theorem dX10_insert_59 : decode cX10_insert 59 = .ok (.iload 4, 2) := by decide +kernel
theorem dX10_insert_61 : decode cX10_insert 61 = .ok (.iconst 0, 1) := by decide +kernel
theorem dX10_insert_62 : decode cX10_insert 62 = .ok (.invokevirtual 73, 3) := by decide +kernel
theorem dX10_insert_65 : decode cX10_insert 65 = .ok (.istore 5, 2) := by decide +kernel
theorem dX10_insert_67 : decode cX10_insert 67 = .ok (.aload_n 0, 1) := by decide +kernel
theorem dX10_insert_68 : decode cX10_insert 68 = .ok (.iload_n 1, 1) := by decide +kernel
theorem dX10_insert_69 : decode cX10_insert 69 = .ok (.iconst 1, 1) := by decide +kernel
theorem dX10_insert_70 : decode cX10_insert 70 = .ok (.iload 5, 2) := by decide +kernel
theorem dX10_insert_72 : decode cX10_insert 72 = .ok (.bipush 16, 2) := by decide +kernel
theorem dX10_insert_74 : decode cX10_insert 74 = .ok (.if_icmp .ne 7, 3) := by decide +kernel
theorem dX10_insert_77 : decode cX10_insert 77 = .ok (.iconst 1, 1) := by decide +kernel
theorem dX10_insert_78 : decode cX10_insert 78 = .ok (.goto 4, 3) := by decide +kernel
theorem dX10_insert_81 : decode cX10_insert 81 = .ok (.iconst 0, 1) := by decide +kernel
theorem dX10_insert_82 : decode cX10_insert 82 = .ok (.invokevirtual 194, 3) := by decide +kernel
theorem dX10_insert_85 : decode cX10_insert 85 = .ok (.ifCond .ne 5, 3) := by decide +kernel
theorem dX10_insert_88 : decode cX10_insert 88 = .ok (.iconst (-1), 1) := by decide +kernel
theorem dX10_insert_89 : decode cX10_insert 89 = .ok (.ireturn, 1) := by decide +kernel
theorem dX10_insert_90 : decode cX10_insert 90 = .ok (.aload_n 0, 1) := by decide +kernel
theorem dX10_insert_91 : decode cX10_insert 91 = .ok (.invokevirtual 197, 3) := by decide +kernel
theorem dX10_insert_94 : decode cX10_insert 94 = .ok (.aload_n 0, 1) := by decide +kernel
theorem dX10_insert_95 : decode cX10_insert 95 = .ok (.iload_n 1, 1) := by decide +kernel
theorem dX10_insert_96 : decode cX10_insert 96 = .ok (.iload_n 2, 1) := by decide +kernel
theorem dX10_insert_97 : decode cX10_insert 97 = .ok (.iconst 1, 1) := by decide +kernel
theorem dX10_insert_98 : decode cX10_insert 98 = .ok (.invokevirtual 213, 3) := by decide +kernel
theorem dX10_insert_101 : decode cX10_insert 101 = .ok (.aload_n 0, 1) := by decide +kernel
theorem dX10_insert_102 : decode cX10_insert 102 = .ok (.iload_n 1, 1) := by decide +kernel
theorem dX10_insert_103 : decode cX10_insert 103 = .ok (.iload_n 2, 1) := by decide +kernel
theorem dX10_insert_104 : decode cX10_insert 104 = .ok (.iload_n 3, 1) := by decide +kernel
theorem dX10_insert_105 : decode cX10_insert 105 = .ok (.iconst 0, 1) := by decide +kernel
theorem dX10_insert_106 : decode cX10_insert 106 = .ok (.invokevirtual 183, 3) := by decide +kernel
theorem dX10_insert_109 : decode cX10_insert 109 = .ok (.aload_n 0, 1) := by decide +kernel
theorem dX10_insert_110 : decode cX10_insert 110 = .ok (.iload_n 1, 1) := by decide +kernel
theorem dX10_insert_111 : decode cX10_insert 111 = .ok (.iload 4, 2) := by decide +kernel
theorem dX10_insert_113 : decode cX10_insert 113 = .ok (.iconst 0, 1) := by decide +kernel
theorem dX10_insert_114 : decode cX10_insert 114 = .ok (.iload 5, 2) := by decide +kernel
theorem dX10_insert_116 : decode cX10_insert 116 = .ok (.iconst 1, 1) := by decide +kernel
theorem dX10_insert_117 : decode cX10_insert 117 = .ok (.iadd, 1) := by decide +kernel
theorem dX10_insert_118 : decode cX10_insert 118 = .ok (.invokevirtual 167, 3) := by decide +kernel
theorem dX10_insert_121 : decode cX10_insert 121 = .ok (.iload 5, 2) := by decide +kernel
theorem dX10_insert_123 : decode cX10_insert 123 = .ok (.bipush 16, 2) := by decide +kernel
theorem dX10_insert_125 : decode cX10_insert 125 = .ok (.if_icmp .ne 33, 3) := by decide +kernel
theorem dX10_insert_128 : decode cX10_insert 128 = .ok (.aload_n 0, 1) := by decide +kernel
theorem dX10_insert_129 : decode cX10_insert 129 = .ok (.iload_n 1, 1) := by decide +kernel
theorem dX10_insert_130 : decode cX10_insert 130 = .ok (.iload 4, 2) := by decide +kernel
theorem dX10_insert_132 : decode cX10_insert 132 = .ok (.iconst 0, 1) := by decide +kernel
theorem dX10_insert_133 : decode cX10_insert 133 = .ok (.bipush 8, 2) := by decide +kernel
theorem dX10_insert_135 : decode cX10_insert 135 = .ok (.invokevirtual 167, 3) := by decide +kernel
theorem dX10_insert_138 : decode cX10_insert 138 = .ok (.aload_n 0, 1) := by decide +kernel
theorem dX10_insert_139 : decode cX10_insert 139 = .ok (.iload_n 1, 1) := by decide +kernel
theorem dX10_insert_140 : decode cX10_insert 140 = .ok (.iload 4, 2) := by decide +kernel
theorem dX10_insert_142 : decode cX10_insert 142 = .ok (.iconst 1, 1) := by decide +kernel
theorem dX10_insert_143 : decode cX10_insert 143 = .ok (.iadd, 1) := by decide +kernel
theorem dX10_insert_144 : decode cX10_insert 144 = .ok (.bipush 9, 2) := by decide +kernel
theorem dX10_insert_146 : decode cX10_insert 146 = .ok (.invokevirtual 200, 3) := by decide +kernel
theorem dX10_insert_149 : decode cX10_insert 149 = .ok (.aload_n 0, 1) := by decide +kernel
theorem dX10_insert_150 : decode cX10_insert 150 = .ok (.iload_n 1, 1) := by decide +kernel
theorem dX10_insert_151 : decode cX10_insert 151 = .ok (.iload 4, 2) := by decide +kernel
theorem dX10_insert_153 : decode cX10_insert 153 = .ok (.iconst 1, 1) := by decide +kernel
theorem dX10_insert_154 : decode cX10_insert 154 = .ok (.iadd, 1) := by decide +kernel
theorem dX10_insert_155 : decode cX10_insert 155 = .ok (.invokevirtual 171, 3) := by decide +kernel
theorem dX10_insert_158 : decode cX10_insert 158 = .ok (.aload_n 0, 1) := by decide +kernel
theorem dX10_insert_159 : decode cX10_insert 159 = .ok (.iload_n 1, 1) := by decide +kernel
theorem dX10_insert_160 : decode cX10_insert 160 = .ok (.iload 4, 2) := by decide +kernel
theorem dX10_insert_162 : decode cX10_insert 162 = .ok (.invokevirtual 171, 3) := by decide +kernel
theorem dX10_insert_165 : decode cX10_insert 165 = .ok (.aload_n 0, 1) := by decide +kernel
theorem dX10_insert_166 : decode cX10_insert 166 = .ok (.iload_n 1, 1) := by decide +kernel
theorem dX10_insert_167 : decode cX10_insert 167 = .ok (.invokevirtual 216, 3) := by decide +kernel
theorem dX10_insert_170 : decode cX10_insert 170 = .ok (.ireturn, 1) := by decide +kernel
theorem dX10_remove_0 : decode cX10_remove 0 = .ok (.aload_n 0, 1) := by decide +kernel
theorem dX10_remove_1 : decode cX10_remove 1 = .ok (.iload_n 1, 1) := by decide +kernel
theorem dX10_remove_2 : decode cX10_remove 2 = .ok (.iload_n 2, 1) := by decide +kernel
theorem dX10_remove_3 : decode cX10_remove 3 = .ok (.invokevirtual 203, 3) := by decide +kernel
theorem dX10_remove_6 : decode cX10_remove 6 = .ok (.ifCond .ne 5, 3) := by decide +kernel
theorem dX10_remove_9 : decode cX10_remove 9 = .ok (.iconst (-1), 1) := by decide +kernel
theorem dX10_remove_10 : decode cX10_remove 10 = .ok (.ireturn, 1) := by decide +kernel
theorem dX10_remove_11 : decode cX10_remove 11 = .ok (.aload_n 0, 1) := by decide +kernel
theorem dX10_remove_12 : decode cX10_remove 12 = .ok (.invokevirtual 197, 3) := by decide +kernel
theorem dX10_remove_15 : decode cX10_remove 15 = .ok (.aload_n 0, 1) := by decide +kernel
theorem dX10_remove_16 : decode cX10_remove 16 = .ok (.iload_n 1, 1) := by decide +kernel
theorem dX10_remove_17 : decode cX10_remove 17 = .ok (.iload_n 2, 1) := by decide +kernel
theorem dX10_remove_18 : decode cX10_remove 18 = .ok (.invokevirtual 206, 3) := by decide +kernel
theorem dX10_remove_21 : decode cX10_remove 21 = .ok (.istore_n 3, 1) := by decide +kernel
theorem dX10_remove_22 : decode cX10_remove 22 = .ok (.aload_n 0, 1) := by decide +kernel
theorem dX10_remove_23 : decode cX10_remove 23 = .ok (.iload_n 1, 1) := by decide +kernel
theorem dX10_remove_24 : decode cX10_remove 24 = .ok (.iload_n 2, 1) := by decide +kernel
theorem dX10_remove_25 : decode cX10_remove 25 = .ok (.iconst 1, 1) := by decide +kernel
theorem dX10_remove_26 : decode cX10_remove 26 = .ok (.invokevirtual 219, 3) := by decide +kernel
theorem dX10_remove_29 : decode cX10_remove 29 = .ok (.aload_n 0, 1) := by decide +kernel
theorem dX10_remove_30 : decode cX10_remove 30 = .ok (.iload_n 1, 1) := by decide +kernel
theorem dX10_remove_31 : decode cX10_remove 31 = .ok (.iload_n 3, 1) := by decide +kernel
theorem dX10_remove_32 : decode cX10_remove 32 = .ok (.iconst 0, 1) := by decide +kernel
theorem dX10_remove_33 : decode cX10_remove 33 = .ok (.aload_n 0, 1) := by decide +kernel
theorem dX10_remove_34 : decode cX10_remove 34 = .ok (.iload_n 1, 1) := by decide +kernel
theorem dX10_remove_35 : decode cX10_remove 35 = .ok (.iload_n 3, 1) := by decide +kernel
theorem dX10_remove_36 : decode cX10_remove 36 = .ok (.iconst 0, 1) := by decide +kernel
theorem dX10_remove_37 : decode cX10_remove 37 = .ok (.invokevirtual 73, 3) := by decide +kernel
theorem dX10_remove_40 : decode cX10_remove 40 = .ok (.iconst 1, 1) := by decide +kernel
theorem dX10_remove_41 : decode cX10_remove 41 = .ok (.isub, 1) := by decide +kernel
theorem dX10_remove_42 : decode cX10_remove 42 = .ok (.invokevirtual 167, 3) := by decide +kernel
theorem dX10_remove_45 : decode cX10_remove 45 = .ok (.aload_n 0, 1) := by decide +kernel
theorem dX10_remove_46 : decode cX10_remove 46 = .ok (.iload_n 1, 1) := by decide +kernel
theorem dX10_remove_47 : decode cX10_remove 47 = .ok (.iload_n 3, 1) := by decide +kernel
theorem dX10_remove_48 : decode cX10_remove 48 = .ok (.iconst 0, 1) := by decide +kernel
theorem dX10_remove_49 : decode cX10_remove 49 = .ok (.invokevirtual 73, 3) := by decide +kernel
theorem dX10_remove_52 : decode cX10_remove 52 = .ok (.ifCond .ne 12, 3) := by decide +kernel
theorem dX10_remove_55 : decode cX10_remove 55 = .ok (.aload_n 0, 1) := by decide +kernel
theorem dX10_remove_56 : decode cX10_remove 56 = .ok (.iload_n 1, 1) := by decide +kernel
theorem dX10_remove_57 : decode cX10_remove 57 = .ok (.iload_n 3, 1) := by decide +kernel
theorem dX10_remove_58 : decode cX10_remove 58 = .ok (.invokevirtual 222, 3) := by decide +kernel
theorem dX10_remove_61 : decode cX10_remove 61 = .ok (.goto 9, 3) := by decide +kernel
theorem dX10_remove_64 : decode cX10_remove 64 = .ok (.aload_n 0, 1) := by decide +kernel
theorem dX10_remove_65 : decode cX10_remove 65 = .ok (.iload_n 1, 1) := by decide +kernel
theorem dX10_remove_66 : decode cX10_remove 66 = .ok (.iload_n 3, 1) := by decide +kernel
theorem dX10_remove_67 : decode cX10_remove 67 = .ok (.invokevirtual 171, 3) := by decide +kernel
theorem dX10_remove_70 : decode cX10_remove 70 = .ok (.aload_n 0, 1) := by decide +kernel
theorem dX10_remove_71 : decode cX10_remove 71 = .ok (.iload_n 1, 1) := by decide +kernel
theorem dX10_remove_72 : decode cX10_remove 72 = .ok (.invokevirtual 216, 3) := by decide +kernel
theorem dX10_remove_75 : decode cX10_remove 75 = .ok (.ireturn, 1) := by decide +kernel
theorem dX10_split_0 : decode cX10_split 0 = .ok (.aload_n 0, 1) := by decide +kernel
theorem dX10_split_1 : decode cX10_split 1 = .ok (.iload_n 1, 1) := by decide +kernel
theorem dX10_split_2 : decode cX10_split 2 = .ok (.iload_n 2, 1) := by decide +kernel
theorem dX10_split_3 : decode cX10_split 3 = .ok (.invokevirtual 225, 3) := by decide +kernel
theorem dX10_split_6 : decode cX10_split 6 = .ok (.ifCond .eq 30, 3) := by decide +kernel
theorem dX10_split_9 : decode cX10_split 9 = .ok (.aload_n 0, 1) := by decide +kernel
theorem dX10_split_10 : decode cX10_split 10 = .ok (.iload_n 1, 1) := by decide +kernel
theorem dX10_split_11 : decode cX10_split 11 = .ok (.invokevirtual 77, 3) := by decide +kernel
theorem dX10_split_14 : decode cX10_split 14 = .ok (.bipush 24, 2) := by decide +kernel
theorem dX10_split_16 : decode cX10_split 16 = .ok (.if_icmp .eq 20, 3) := by decide +kernel
theorem dX10_split_19 : decode cX10_split 19 = .ok (.iload_n 3, 1) := by decide +kernel
theorem dX10_split_20 : decode cX10_split 20 = .ok (.iconst 1, 1) := by decide +kernel
theorem dX10_split_21 : decode cX10_split 21 = .ok (.aload_n 0, 1) := by decide +kernel
theorem dX10_split_22 : decode cX10_split 22 = .ok (.iload_n 1, 1) := by decide +kernel
theorem dX10_split_23 : decode cX10_split 23 = .ok (.iload_n 2, 1) := by decide +kernel
theorem dX10_split_24 : decode cX10_split 24 = .ok (.iconst 0, 1) := by decide +kernel
theorem dX10_split_25 : decode cX10_split 25 = .ok (.invokevirtual 73, 3) := by decide +kernel
theorem dX10_split_28 : decode cX10_split 28 = .ok (.iconst 1, 1) := by decide +kernel
theorem dX10_split_29 : decode cX10_split 29 = .ok (.isub, 1) := by decide +kernel
theorem dX10_split_30 : decode cX10_split 30 = .ok (.invokestatic 65, 3) := by decide +kernel
theorem dX10_split_33 : decode cX10_split 33 = .ok (.ifCond .ne 5, 3) := by decide +kernel
theorem dX10_split_36 : decode cX10_split 36 = .ok (.iconst (-1), 1) := by decide +kernel
theorem dX10_split_37 : decode cX10_split 37 = .ok (.ireturn, 1) := by decide +kernel
theorem dX10_split_38 : decode cX10_split 38 = .ok (.aload_n 0, 1) := by decide +kernel
theorem dX10_split_39 : decode cX10_split 39 = .ok (.invokevirtual 197, 3) := by decide +kernel
theorem dX10_split_42 : decode cX10_split 42 = .ok (.aload_n 0, 1) := by decide +kernel
theorem dX10_split_43 : decode cX10_split 43 = .ok (.iload_n 1, 1) := by decide +kernel
theorem dX10_split_44 : decode cX10_split 44 = .ok (.iload_n 2, 1) := by decide +kernel
theorem dX10_split_45 : decode cX10_split 45 = .ok (.iconst 0, 1) := by decide +kernel
theorem dX10_split_46 : decode cX10_split 46 = .ok (.invokevirtual 73, 3) := by decide +kernel
theorem dX10_split_49 : decode cX10_split 49 = .ok (.iload_n 3, 1) := by decide +kernel
theorem dX10_split_50 : decode cX10_split 50 = .ok (.isub, 1) := by decide +kernel
theorem dX10_split_51 : decode cX10_split 51 = .ok (.istore 4, 2) := by decide +kernel
theorem dX10_split_53 : decode cX10_split 53 = .ok (.aload_n 0, 1) := by decide +kernel
theorem dX10_split_54 : decode cX10_split 54 = .ok (.iload_n 1, 1) := by decide +kernel
theorem dX10_split_55 : decode cX10_split 55 = .ok (.iload_n 2, 1) := by decide +kernel
theorem dX10_split_56 : decode cX10_split 56 = .ok (.iconst 0, 1) := by decide +kernel
theorem dX10_split_57 : decode cX10_split 57 = .ok (.iload_n 3, 1) := by decide +kernel
theorem dX10_split_58 : decode cX10_split 58 = .ok (.invokevirtual 167, 3) := by decide +kernel
theorem dX10_split_61 : decode cX10_split 61 = .ok (.aload_n 0, 1) := by decide +kernel
theorem dX10_split_62 : decode cX10_split 62 = .ok (.iload_n 1, 1) := by decide +kernel
theorem dX10_split_63 : decode cX10_split 63 = .ok (.iload_n 2, 1) := by decide +kernel
theorem dX10_split_64 : decode cX10_split 64 = .ok (.iconst 1, 1) := by decide +kernel
theorem dX10_split_65 : decode cX10_split 65 = .ok (.iadd, 1) := by decide +kernel
theorem dX10_split_66 : decode cX10_split 66 = .ok (.iload 4, 2) := by decide +kernel
theorem dX10_split_68 : decode cX10_split 68 = .ok (.invokevirtual 200, 3) := by decide +kernel
theorem dX10_split_71 : decode cX10_split 71 = .ok (.aload_n 0, 1) := by decide +kernel
theorem dX10_split_72 : decode cX10_split 72 = .ok (.iload_n 1, 1) := by decide +kernel
theorem dX10_split_73 : decode cX10_split 73 = .ok (.iload_n 2, 1) := by decide +kernel
theorem dX10_split_74 : decode cX10_split 74 = .ok (.invokevirtual 171, 3) := by decide +kernel
theorem dX10_split_77 : decode cX10_split 77 = .ok (.aload_n 0, 1) := by decide +kernel
theorem dX10_split_78 : decode cX10_split 78 = .ok (.iload_n 1, 1) := by decide +kernel
theorem dX10_split_79 : decode cX10_split 79 = .ok (.iload_n 2, 1) := by decide +kernel
theorem dX10_split_80 : decode cX10_split 80 = .ok (.iconst 1, 1) := by decide +kernel
theorem dX10_split_81 : decode cX10_split 81 = .ok (.iadd, 1) := by decide +kernel
theorem dX10_split_82 : decode cX10_split 82 = .ok (.invokevirtual 171, 3) := by decide +kernel
theorem dX10_split_85 : decode cX10_split 85 = .ok (.aload_n 0, 1) := by decide +kernel
theorem dX10_split_86 : decode cX10_split 86 = .ok (.iload_n 1, 1) := by decide +kernel
theorem dX10_split_87 : decode cX10_split 87 = .ok (.iload_n 2, 1) := by decide +kernel
theorem dX10_split_88 : decode cX10_split 88 = .ok (.invokevirtual 177, 3) := by decide +kernel
theorem dX10_split_91 : decode cX10_split 91 = .ok (.aload_n 0, 1) := by decide +kernel
theorem dX10_split_92 : decode cX10_split 92 = .ok (.iload_n 1, 1) := by decide +kernel
theorem dX10_split_93 : decode cX10_split 93 = .ok (.iload_n 2, 1) := by decide +kernel
theorem dX10_split_94 : decode cX10_split 94 = .ok (.iconst 1, 1) := by decide +kernel
theorem dX10_split_95 : decode cX10_split 95 = .ok (.iadd, 1) := by decide +kernel
theorem dX10_split_96 : decode cX10_split 96 = .ok (.invokevirtual 177, 3) := by decide +kernel
theorem dX10_split_99 : decode cX10_split 99 = .ok (.iadd, 1) := by decide +kernel
theorem dX10_split_100 : decode cX10_split 100 = .ok (.ireturn, 1) := by decide +kernel
theorem dX10_shift_0 : decode cX10_shift 0 = .ok (.iload_n 1, 1) := by decide +kernel
theorem dX10_shift_1 : decode cX10_shift 1 = .ok (.invokestatic 84, 3) := by decide +kernel
theorem dX10_shift_4 : decode cX10_shift 4 = .ok (.ifCond .ne 5, 3) := by decide +kernel
theorem dX10_shift_7 : decode cX10_shift 7 = .ok (.iconst (-1), 1) := by decide +kernel
theorem dX10_shift_8 : decode cX10_shift 8 = .ok (.ireturn, 1) := by decide +kernel
theorem dX10_shift_9 : decode cX10_shift 9 = .ok (.aload_n 0, 1) := by decide +kernel
theorem dX10_shift_10 : decode cX10_shift 10 = .ok (.invokevirtual 197, 3) := by decide +kernel
theorem dX10_shift_13 : decode cX10_shift 13 = .ok (.aload_n 0, 1) := by decide +kernel
theorem dX10_shift_14 : decode cX10_shift 14 = .ok (.iload_n 1, 1) := by decide +kernel
theorem dX10_shift_15 : decode cX10_shift 15 = .ok (.invokevirtual 88, 3) := by decide +kernel
theorem dX10_shift_18 : decode cX10_shift 18 = .ok (.istore_n 3, 1) := by decide +kernel
theorem dX10_shift_19 : decode cX10_shift 19 = .ok (.iconst 0, 1) := by decide +kernel
theorem dX10_shift_20 : decode cX10_shift 20 = .ok (.istore 4, 2) := by decide +kernel
theorem dX10_shift_22 : decode cX10_shift 22 = .ok (.iload 4, 2) := by decide +kernel
theorem dX10_shift_24 : decode cX10_shift 24 = .ok (.iload_n 3, 1) := by decide +kernel
theorem dX10_shift_25 : decode cX10_shift 25 = .ok (.if_icmp .ge 32, 3) := by decide +kernel
theorem dX10_shift_28 : decode cX10_shift 28 = .ok (.aload_n 0, 1) := by decide +kernel
theorem dX10_shift_29 : decode cX10_shift 29 = .ok (.iload_n 1, 1) := by decide +kernel
theorem dX10_shift_30 : decode cX10_shift 30 = .ok (.iload 4, 2) := by decide +kernel
theorem dX10_shift_32 : decode cX10_shift 32 = .ok (.aload_n 0, 1) := by decide +kernel
theorem dX10_shift_33 : decode cX10_shift 33 = .ok (.iload_n 1, 1) := by decide +kernel
theorem dX10_shift_34 : decode cX10_shift 34 = .ok (.iload 4, 2) := by decide +kernel
theorem dX10_shift_36 : decode cX10_shift 36 = .ok (.invokevirtual 101, 3) := by decide +kernel
theorem dX10_shift_39 : decode cX10_shift 39 = .ok (.iload_n 2, 1) := by decide +kernel
theorem dX10_shift_40 : decode cX10_shift 40 = .ok (.iadd, 1) := by decide +kernel
theorem dX10_shift_41 : decode cX10_shift 41 = .ok (.aload_n 0, 1) := by decide +kernel
theorem dX10_shift_42 : decode cX10_shift 42 = .ok (.iload_n 1, 1) := by decide +kernel
theorem dX10_shift_43 : decode cX10_shift 43 = .ok (.iload 4, 2) := by decide +kernel
theorem dX10_shift_45 : decode cX10_shift 45 = .ok (.invokevirtual 97, 3) := by decide +kernel
theorem dX10_shift_48 : decode cX10_shift 48 = .ok (.invokevirtual 183, 3) := by decide +kernel
theorem dX10_shift_51 : decode cX10_shift 51 = .ok (.iinc 4 1, 3) := by decide +kernel
theorem dX10_shift_54 : decode cX10_shift 54 = .ok (.goto (-32), 3) := by decide +kernel
theorem dX10_shift_57 : decode cX10_shift 57 = .ok (.aload_n 0, 1) := by decide +kernel
theorem dX10_shift_58 : decode cX10_shift 58 = .ok (.iload_n 1, 1) := by decide +kernel
theorem dX10_shift_59 : decode cX10_shift 59 = .ok (.invokevirtual 228, 3) := by decide +kernel
theorem dX10_shift_62 : decode cX10_shift 62 = .ok (.aload_n 0, 1) := by decide +kernel
theorem dX10_shift_63 : decode cX10_shift 63 = .ok (.iload_n 1, 1) := by decide +kernel
theorem dX10_shift_64 : decode cX10_shift 64 = .ok (.invokevirtual 216, 3) := by decide +kernel
theorem dX10_shift_67 : decode cX10_shift 67 = .ok (.ireturn, 1) := by decide +kernel
theorem dX10_clearColumn_0 : decode cX10_clearColumn 0 = .ok (.iconst 0, 1) := by decide +kernel
theorem dX10_clearColumn_1 : decode cX10_clearColumn 1 = .ok (.istore_n 2, 1) := by decide +kernel
theorem dX10_clearColumn_2 : decode cX10_clearColumn 2 = .ok (.iload_n 2, 1) := by decide +kernel
theorem dX10_clearColumn_3 : decode cX10_clearColumn 3 = .ok (.sipush 353, 3) := by decide +kernel
theorem dX10_clearColumn_6 : decode cX10_clearColumn 6 = .ok (.if_icmp .ge 21, 3) := by decide +kernel
theorem dX10_clearColumn_9 : decode cX10_clearColumn 9 = .ok (.aload_n 0, 1) := by decide +kernel
theorem dX10_clearColumn_10 : decode cX10_clearColumn 10 = .ok (.getfield 7, 3) := by decide +kernel
theorem dX10_clearColumn_13 : decode cX10_clearColumn 13 = .ok (.iload_n 1, 1) := by decide +kernel
theorem dX10_clearColumn_14 : decode cX10_clearColumn 14 = .ok (.invokestatic 69, 3) := by decide +kernel
theorem dX10_clearColumn_17 : decode cX10_clearColumn 17 = .ok (.iload_n 2, 1) := by decide +kernel
theorem dX10_clearColumn_18 : decode cX10_clearColumn 18 = .ok (.iadd, 1) := by decide +kernel
theorem dX10_clearColumn_19 : decode cX10_clearColumn 19 = .ok (.iconst 0, 1) := by decide +kernel
theorem dX10_clearColumn_20 : decode cX10_clearColumn 20 = .ok (.iastore, 1) := by decide +kernel
theorem dX10_clearColumn_21 : decode cX10_clearColumn 21 = .ok (.iinc 2 1, 3) := by decide +kernel
theorem dX10_clearColumn_24 : decode cX10_clearColumn 24 = .ok (.goto (-22), 3) := by decide +kernel
theorem dX10_clearColumn_27 : decode cX10_clearColumn 27 = .ok (.return_, 1) := by decide +kernel
theorem dX10_comeAll_0 : decode cX10_comeAll 0 = .ok (.iconst 0, 1) := by decide +kernel
theorem dX10_comeAll_1 : decode cX10_comeAll 1 = .ok (.istore_n 3, 1) := by decide +kernel
theorem dX10_comeAll_2 : decode cX10_comeAll 2 = .ok (.iload_n 3, 1) := by decide +kernel
theorem dX10_comeAll_3 : decode cX10_comeAll 3 = .ok (.iload_n 2, 1) := by decide +kernel
theorem dX10_comeAll_4 : decode cX10_comeAll 4 = .ok (.if_icmp .ge 102, 3) := by decide +kernel
theorem dX10_comeAll_7 : decode cX10_comeAll 7 = .ok (.aload_n 0, 1) := by decide +kernel
theorem dX10_comeAll_8 : decode cX10_comeAll 8 = .ok (.iload_n 1, 1) := by decide +kernel
theorem dX10_comeAll_9 : decode cX10_comeAll 9 = .ok (.invokevirtual 88, 3) := by decide +kernel
theorem dX10_comeAll_12 : decode cX10_comeAll 12 = .ok (.istore 4, 2) := by decide +kernel
theorem dX10_comeAll_14 : decode cX10_comeAll 14 = .ok (.iload_n 2, 1) := by decide +kernel
theorem dX10_comeAll_15 : decode cX10_comeAll 15 = .ok (.iload_n 3, 1) := by decide +kernel
theorem dX10_comeAll_16 : decode cX10_comeAll 16 = .ok (.isub, 1) := by decide +kernel
theorem dX10_comeAll_17 : decode cX10_comeAll 17 = .ok (.bipush 16, 2) := by decide +kernel
theorem dX10_comeAll_19 : decode cX10_comeAll 19 = .ok (.if_icmp .ge 9, 3) := by decide +kernel
theorem dX10_comeAll_22 : decode cX10_comeAll 22 = .ok (.iload_n 2, 1) := by decide +kernel
theorem dX10_comeAll_23 : decode cX10_comeAll 23 = .ok (.iload_n 3, 1) := by decide +kernel
theorem dX10_comeAll_24 : decode cX10_comeAll 24 = .ok (.isub, 1) := by decide +kernel
theorem dX10_comeAll_25 : decode cX10_comeAll 25 = .ok (.goto 5, 3) := by decide +kernel
theorem dX10_comeAll_28 : decode cX10_comeAll 28 = .ok (.bipush 16, 2) := by decide +kernel
theorem dX10_comeAll_30 : decode cX10_comeAll 30 = .ok (.istore 5, 2) := by decide +kernel
theorem dX10_comeAll_32 : decode cX10_comeAll 32 = .ok (.iconst 0, 1) := by decide +kernel
theorem dX10_comeAll_33 : decode cX10_comeAll 33 = .ok (.istore 6, 2) := by decide +kernel
theorem dX10_comeAll_35 : decode cX10_comeAll 35 = .ok (.iload 6, 2) := by decide +kernel
theorem dX10_comeAll_37 : decode cX10_comeAll 37 = .ok (.iload 5, 2) := by decide +kernel
theorem dX10_comeAll_39 : decode cX10_comeAll 39 = .ok (.if_icmp .ge 37, 3) := by decide +kernel
theorem dX10_comeAll_42 : decode cX10_comeAll 42 = .ok (.aload_n 0, 1) := by decide +kernel
theorem dX10_comeAll_43 : decode cX10_comeAll 43 = .ok (.iload_n 1, 1) := by decide +kernel
theorem dX10_comeAll_44 : decode cX10_comeAll 44 = .ok (.iload 4, 2) := by decide +kernel
theorem dX10_comeAll_46 : decode cX10_comeAll 46 = .ok (.iload 6, 2) := by decide +kernel
theorem dX10_comeAll_48 : decode cX10_comeAll 48 = .ok (.iadd, 1) := by decide +kernel
theorem dX10_comeAll_49 : decode cX10_comeAll 49 = .ok (.aload_n 0, 1) := by decide +kernel
theorem dX10_comeAll_50 : decode cX10_comeAll 50 = .ok (.getfield 26, 3) := by decide +kernel
theorem dX10_comeAll_53 : decode cX10_comeAll 53 = .ok (.iload_n 3, 1) := by decide +kernel
theorem dX10_comeAll_54 : decode cX10_comeAll 54 = .ok (.iload 6, 2) := by decide +kernel
theorem dX10_comeAll_56 : decode cX10_comeAll 56 = .ok (.iadd, 1) := by decide +kernel
theorem dX10_comeAll_57 : decode cX10_comeAll 57 = .ok (.iaload, 1) := by decide +kernel
theorem dX10_comeAll_58 : decode cX10_comeAll 58 = .ok (.aload_n 0, 1) := by decide +kernel
theorem dX10_comeAll_59 : decode cX10_comeAll 59 = .ok (.getfield 29, 3) := by decide +kernel
theorem dX10_comeAll_62 : decode cX10_comeAll 62 = .ok (.iload_n 3, 1) := by decide +kernel
theorem dX10_comeAll_63 : decode cX10_comeAll 63 = .ok (.iload 6, 2) := by decide +kernel
theorem dX10_comeAll_65 : decode cX10_comeAll 65 = .ok (.iadd, 1) := by decide +kernel
theorem dX10_comeAll_66 : decode cX10_comeAll 66 = .ok (.baload, 1) := by decide +kernel
theorem dX10_comeAll_67 : decode cX10_comeAll 67 = .ok (.invokevirtual 183, 3) := by decide +kernel
theorem dX10_comeAll_70 : decode cX10_comeAll 70 = .ok (.iinc 6 1, 3) := by decide +kernel
theorem dX10_comeAll_73 : decode cX10_comeAll 73 = .ok (.goto (-38), 3) := by decide +kernel
theorem dX10_comeAll_76 : decode cX10_comeAll 76 = .ok (.aload_n 0, 1) := by decide +kernel
theorem dX10_comeAll_77 : decode cX10_comeAll 77 = .ok (.iload_n 1, 1) := by decide +kernel
theorem dX10_comeAll_78 : decode cX10_comeAll 78 = .ok (.aload_n 0, 1) := by decide +kernel
theorem dX10_comeAll_79 : decode cX10_comeAll 79 = .ok (.iload_n 1, 1) := by decide +kernel
theorem dX10_comeAll_80 : decode cX10_comeAll 80 = .ok (.invokevirtual 77, 3) := by decide +kernel
theorem dX10_comeAll_83 : decode cX10_comeAll 83 = .ok (.iload 5, 2) := by decide +kernel
theorem dX10_comeAll_85 : decode cX10_comeAll 85 = .ok (.invokevirtual 200, 3) := by decide +kernel
theorem dX10_comeAll_88 : decode cX10_comeAll 88 = .ok (.aload_n 0, 1) := by decide +kernel
theorem dX10_comeAll_89 : decode cX10_comeAll 89 = .ok (.iload_n 1, 1) := by decide +kernel
theorem dX10_comeAll_90 : decode cX10_comeAll 90 = .ok (.aload_n 0, 1) := by decide +kernel
theorem dX10_comeAll_91 : decode cX10_comeAll 91 = .ok (.iload_n 1, 1) := by decide +kernel
theorem dX10_comeAll_92 : decode cX10_comeAll 92 = .ok (.invokevirtual 77, 3) := by decide +kernel
theorem dX10_comeAll_95 : decode cX10_comeAll 95 = .ok (.iconst 1, 1) := by decide +kernel
theorem dX10_comeAll_96 : decode cX10_comeAll 96 = .ok (.isub, 1) := by decide +kernel
theorem dX10_comeAll_97 : decode cX10_comeAll 97 = .ok (.invokevirtual 171, 3) := by decide +kernel
theorem dX10_comeAll_100 : decode cX10_comeAll 100 = .ok (.iinc 3 16, 3) := by decide +kernel
theorem dX10_comeAll_103 : decode cX10_comeAll 103 = .ok (.goto (-101), 3) := by decide +kernel
theorem dX10_comeAll_106 : decode cX10_comeAll 106 = .ok (.iconst 0, 1) := by decide +kernel
theorem dX10_comeAll_107 : decode cX10_comeAll 107 = .ok (.istore_n 3, 1) := by decide +kernel
theorem dX10_comeAll_108 : decode cX10_comeAll 108 = .ok (.iload_n 3, 1) := by decide +kernel
theorem dX10_comeAll_109 : decode cX10_comeAll 109 = .ok (.iload_n 2, 1) := by decide +kernel
theorem dX10_comeAll_110 : decode cX10_comeAll 110 = .ok (.if_icmp .ge 16, 3) := by decide +kernel
theorem dX10_comeAll_113 : decode cX10_comeAll 113 = .ok (.aload_n 0, 1) := by decide +kernel
theorem dX10_comeAll_114 : decode cX10_comeAll 114 = .ok (.getfield 29, 3) := by decide +kernel
theorem dX10_comeAll_117 : decode cX10_comeAll 117 = .ok (.iload_n 3, 1) := by decide +kernel
theorem dX10_comeAll_118 : decode cX10_comeAll 118 = .ok (.iconst 0, 1) := by decide +kernel
theorem dX10_comeAll_119 : decode cX10_comeAll 119 = .ok (.bastore, 1) := by decide +kernel
theorem dX10_comeAll_120 : decode cX10_comeAll 120 = .ok (.iinc 3 1, 3) := by decide +kernel
theorem dX10_comeAll_123 : decode cX10_comeAll 123 = .ok (.goto (-15), 3) := by decide +kernel
theorem dX10_comeAll_126 : decode cX10_comeAll 126 = .ok (.return_, 1) := by decide +kernel
theorem dX10_blocksBy_0 : decode cX10_blocksBy 0 = .ok (.iload_n 0, 1) := by decide +kernel
theorem dX10_blocksBy_1 : decode cX10_blocksBy 1 = .ok (.bipush 16, 2) := by decide +kernel
theorem dX10_blocksBy_3 : decode cX10_blocksBy 3 = .ok (.iadd, 1) := by decide +kernel
theorem dX10_blocksBy_4 : decode cX10_blocksBy 4 = .ok (.iconst 1, 1) := by decide +kernel
theorem dX10_blocksBy_5 : decode cX10_blocksBy 5 = .ok (.isub, 1) := by decide +kernel
theorem dX10_blocksBy_6 : decode cX10_blocksBy 6 = .ok (.bipush 16, 2) := by decide +kernel
theorem dX10_blocksBy_8 : decode cX10_blocksBy 8 = .ok (.idiv, 1) := by decide +kernel
theorem dX10_blocksBy_9 : decode cX10_blocksBy 9 = .ok (.ireturn, 1) := by decide +kernel
theorem dX10_copy_0 : decode cX10_copy 0 = .ok (.iload_n 1, 1) := by decide +kernel
theorem dX10_copy_1 : decode cX10_copy 1 = .ok (.invokestatic 84, 3) := by decide +kernel
theorem dX10_copy_4 : decode cX10_copy 4 = .ok (.ifCond .eq 29, 3) := by decide +kernel
theorem dX10_copy_7 : decode cX10_copy 7 = .ok (.iload 4, 2) := by decide +kernel
theorem dX10_copy_9 : decode cX10_copy 9 = .ok (.invokestatic 84, 3) := by decide +kernel
theorem dX10_copy_12 : decode cX10_copy 12 = .ok (.ifCond .eq 21, 3) := by decide +kernel
theorem dX10_copy_15 : decode cX10_copy 15 = .ok (.iload_n 2, 1) := by decide +kernel
theorem dX10_copy_16 : decode cX10_copy 16 = .ok (.ifCond .lt 17, 3) := by decide +kernel
theorem dX10_copy_19 : decode cX10_copy 19 = .ok (.iload_n 2, 1) := by decide +kernel
theorem dX10_copy_20 : decode cX10_copy 20 = .ok (.iload_n 3, 1) := by decide +kernel
theorem dX10_copy_21 : decode cX10_copy 21 = .ok (.if_icmp .ge 12, 3) := by decide +kernel
theorem dX10_copy_24 : decode cX10_copy 24 = .ok (.iload_n 3, 1) := by decide +kernel
theorem dX10_copy_25 : decode cX10_copy 25 = .ok (.aload_n 0, 1) := by decide +kernel
theorem dX10_copy_26 : decode cX10_copy 26 = .ok (.iload_n 1, 1) := by decide +kernel
theorem dX10_copy_27 : decode cX10_copy 27 = .ok (.invokevirtual 88, 3) := by decide +kernel
theorem dX10_copy_30 : decode cX10_copy 30 = .ok (.if_icmp .le 5, 3) := by decide +kernel
theorem dX10_copy_33 : decode cX10_copy 33 = .ok (.iconst (-1), 1) := by decide +kernel
theorem dX10_copy_34 : decode cX10_copy 34 = .ok (.ireturn, 1) := by decide +kernel
theorem dX10_copy_35 : decode cX10_copy 35 = .ok (.aload_n 0, 1) := by decide +kernel
theorem dX10_copy_36 : decode cX10_copy 36 = .ok (.iload 4, 2) := by decide +kernel
theorem dX10_copy_38 : decode cX10_copy 38 = .ok (.iload_n 3, 1) := by decide +kernel
theorem dX10_copy_39 : decode cX10_copy 39 = .ok (.iload_n 2, 1) := by decide +kernel
theorem dX10_copy_40 : decode cX10_copy 40 = .ok (.isub, 1) := by decide +kernel
theorem dX10_copy_41 : decode cX10_copy 41 = .ok (.iload_n 3, 1) := by decide +kernel
theorem dX10_copy_42 : decode cX10_copy 42 = .ok (.iload_n 2, 1) := by decide +kernel
theorem dX10_copy_43 : decode cX10_copy 43 = .ok (.isub, 1) := by decide +kernel
theorem dX10_copy_44 : decode cX10_copy 44 = .ok (.invokestatic 231, 3) := by decide +kernel
theorem dX10_copy_47 : decode cX10_copy 47 = .ok (.invokevirtual 194, 3) := by decide +kernel
theorem dX10_copy_50 : decode cX10_copy 50 = .ok (.ifCond .ne 5, 3) := by decide +kernel
theorem dX10_copy_53 : decode cX10_copy 53 = .ok (.iconst (-1), 1) := by decide +kernel
theorem dX10_copy_54 : decode cX10_copy 54 = .ok (.ireturn, 1) := by decide +kernel
theorem dX10_copy_55 : decode cX10_copy 55 = .ok (.aload_n 0, 1) := by decide +kernel
theorem dX10_copy_56 : decode cX10_copy 56 = .ok (.invokevirtual 197, 3) := by decide +kernel
theorem dX10_copy_59 : decode cX10_copy 59 = .ok (.iload_n 2, 1) := by decide +kernel
theorem dX10_copy_60 : decode cX10_copy 60 = .ok (.istore 5, 2) := by decide +kernel
theorem dX10_copy_62 : decode cX10_copy 62 = .ok (.iload 5, 2) := by decide +kernel
theorem dX10_copy_64 : decode cX10_copy 64 = .ok (.iload_n 3, 1) := by decide +kernel
theorem dX10_copy_65 : decode cX10_copy 65 = .ok (.if_icmp .ge 41, 3) := by decide +kernel
theorem dX10_copy_68 : decode cX10_copy 68 = .ok (.aload_n 0, 1) := by decide +kernel
theorem dX10_copy_69 : decode cX10_copy 69 = .ok (.getfield 26, 3) := by decide +kernel
theorem dX10_copy_72 : decode cX10_copy 72 = .ok (.iload 5, 2) := by decide +kernel
theorem dX10_copy_74 : decode cX10_copy 74 = .ok (.iload_n 2, 1) := by decide +kernel
theorem dX10_copy_75 : decode cX10_copy 75 = .ok (.isub, 1) := by decide +kernel
theorem dX10_copy_76 : decode cX10_copy 76 = .ok (.aload_n 0, 1) := by decide +kernel
theorem dX10_copy_77 : decode cX10_copy 77 = .ok (.iload_n 1, 1) := by decide +kernel
theorem dX10_copy_78 : decode cX10_copy 78 = .ok (.iload 5, 2) := by decide +kernel
theorem dX10_copy_80 : decode cX10_copy 80 = .ok (.invokevirtual 101, 3) := by decide +kernel
theorem dX10_copy_83 : decode cX10_copy 83 = .ok (.iastore, 1) := by decide +kernel
theorem dX10_copy_84 : decode cX10_copy 84 = .ok (.aload_n 0, 1) := by decide +kernel
theorem dX10_copy_85 : decode cX10_copy 85 = .ok (.getfield 29, 3) := by decide +kernel
theorem dX10_copy_88 : decode cX10_copy 88 = .ok (.iload 5, 2) := by decide +kernel
theorem dX10_copy_90 : decode cX10_copy 90 = .ok (.iload_n 2, 1) := by decide +kernel
theorem dX10_copy_91 : decode cX10_copy 91 = .ok (.isub, 1) := by decide +kernel
theorem dX10_copy_92 : decode cX10_copy 92 = .ok (.aload_n 0, 1) := by decide +kernel
theorem dX10_copy_93 : decode cX10_copy 93 = .ok (.iload_n 1, 1) := by decide +kernel
theorem dX10_copy_94 : decode cX10_copy 94 = .ok (.iload 5, 2) := by decide +kernel
theorem dX10_copy_96 : decode cX10_copy 96 = .ok (.invokevirtual 97, 3) := by decide +kernel
theorem dX10_copy_99 : decode cX10_copy 99 = .ok (.bastore, 1) := by decide +kernel
theorem dX10_copy_100 : decode cX10_copy 100 = .ok (.iinc 5 1, 3) := by decide +kernel
theorem dX10_copy_103 : decode cX10_copy 103 = .ok (.goto (-41), 3) := by decide +kernel
theorem dX10_copy_106 : decode cX10_copy 106 = .ok (.aload_n 0, 1) := by decide +kernel
theorem dX10_copy_107 : decode cX10_copy 107 = .ok (.iload 4, 2) := by decide +kernel
theorem dX10_copy_109 : decode cX10_copy 109 = .ok (.iload_n 3, 1) := by decide +kernel
theorem dX10_copy_110 : decode cX10_copy 110 = .ok (.iload_n 2, 1) := by decide +kernel
theorem dX10_copy_111 : decode cX10_copy 111 = .ok (.isub, 1) := by decide +kernel
theorem dX10_copy_112 : decode cX10_copy 112 = .ok (.invokevirtual 234, 3) := by decide +kernel
theorem dX10_copy_115 : decode cX10_copy 115 = .ok (.iload_n 3, 1) := by decide +kernel
theorem dX10_copy_116 : decode cX10_copy 116 = .ok (.iload_n 2, 1) := by decide +kernel
theorem dX10_copy_117 : decode cX10_copy 117 = .ok (.isub, 1) := by decide +kernel
theorem dX10_copy_118 : decode cX10_copy 118 = .ok (.invokestatic 231, 3) := by decide +kernel
theorem dX10_copy_121 : decode cX10_copy 121 = .ok (.ireturn, 1) := by decide +kernel
theorem dX10_swap_0 : decode cX10_swap 0 = .ok (.iload_n 1, 1) := by decide +kernel
theorem dX10_swap_1 : decode cX10_swap 1 = .ok (.invokestatic 84, 3) := by decide +kernel
theorem dX10_swap_4 : decode cX10_swap 4 = .ok (.ifCond .eq 15, 3) := by decide +kernel
theorem dX10_swap_7 : decode cX10_swap 7 = .ok (.iload_n 2, 1) := by decide +kernel
theorem dX10_swap_8 : decode cX10_swap 8 = .ok (.invokestatic 84, 3) := by decide +kernel
theorem dX10_swap_11 : decode cX10_swap 11 = .ok (.ifCond .eq 8, 3) := by decide +kernel
theorem dX10_swap_14 : decode cX10_swap 14 = .ok (.iload_n 1, 1) := by decide +kernel
theorem dX10_swap_15 : decode cX10_swap 15 = .ok (.iload_n 2, 1) := by decide +kernel
theorem dX10_swap_16 : decode cX10_swap 16 = .ok (.if_icmp .ne 5, 3) := by decide +kernel
theorem dX10_swap_19 : decode cX10_swap 19 = .ok (.iconst 0, 1) := by decide +kernel
theorem dX10_swap_20 : decode cX10_swap 20 = .ok (.ireturn, 1) := by decide +kernel
theorem dX10_swap_21 : decode cX10_swap 21 = .ok (.aload_n 0, 1) := by decide +kernel
theorem dX10_swap_22 : decode cX10_swap 22 = .ok (.invokevirtual 197, 3) := by decide +kernel
theorem dX10_swap_25 : decode cX10_swap 25 = .ok (.iconst 0, 1) := by decide +kernel
theorem dX10_swap_26 : decode cX10_swap 26 = .ok (.istore_n 3, 1) := by decide +kernel
theorem dX10_swap_27 : decode cX10_swap 27 = .ok (.iload_n 3, 1) := by decide +kernel
theorem dX10_swap_28 : decode cX10_swap 28 = .ok (.sipush 353, 3) := by decide +kernel
theorem dX10_swap_31 : decode cX10_swap 31 = .ok (.if_icmp .ge 57, 3) := by decide +kernel
theorem dX10_swap_34 : decode cX10_swap 34 = .ok (.aload_n 0, 1) := by decide +kernel
theorem dX10_swap_35 : decode cX10_swap 35 = .ok (.getfield 7, 3) := by decide +kernel
theorem dX10_swap_38 : decode cX10_swap 38 = .ok (.iload_n 1, 1) := by decide +kernel
theorem dX10_swap_39 : decode cX10_swap 39 = .ok (.invokestatic 69, 3) := by decide +kernel
theorem dX10_swap_42 : decode cX10_swap 42 = .ok (.iload_n 3, 1) := by decide +kernel
theorem dX10_swap_43 : decode cX10_swap 43 = .ok (.iadd, 1) := by decide +kernel
theorem dX10_swap_44 : decode cX10_swap 44 = .ok (.iaload, 1) := by decide +kernel
theorem dX10_swap_45 : decode cX10_swap 45 = .ok (.istore 4, 2) := by decide +kernel
theorem dX10_swap_47 : decode cX10_swap 47 = .ok (.aload_n 0, 1) := by decide +kernel
theorem dX10_swap_48 : decode cX10_swap 48 = .ok (.getfield 7, 3) := by decide +kernel
theorem dX10_swap_51 : decode cX10_swap 51 = .ok (.iload_n 1, 1) := by decide +kernel
theorem dX10_swap_52 : decode cX10_swap 52 = .ok (.invokestatic 69, 3) := by decide +kernel
theorem dX10_swap_55 : decode cX10_swap 55 = .ok (.iload_n 3, 1) := by decide +kernel
theorem dX10_swap_56 : decode cX10_swap 56 = .ok (.iadd, 1) := by decide +kernel
theorem dX10_swap_57 : decode cX10_swap 57 = .ok (.aload_n 0, 1) := by decide +kernel
theorem dX10_swap_58 : decode cX10_swap 58 = .ok (.getfield 7, 3) := by decide +kernel
theorem dX10_swap_61 : decode cX10_swap 61 = .ok (.iload_n 2, 1) := by decide +kernel
theorem dX10_swap_62 : decode cX10_swap 62 = .ok (.invokestatic 69, 3) := by decide +kernel
theorem dX10_swap_65 : decode cX10_swap 65 = .ok (.iload_n 3, 1) := by decide +kernel
theorem dX10_swap_66 : decode cX10_swap 66 = .ok (.iadd, 1) := by decide +kernel
theorem dX10_swap_67 : decode cX10_swap 67 = .ok (.iaload, 1) := by decide +kernel
theorem dX10_swap_68 : decode cX10_swap 68 = .ok (.iastore, 1) := by decide +kernel
theorem dX10_swap_69 : decode cX10_swap 69 = .ok (.aload_n 0, 1) := by decide +kernel
theorem dX10_swap_70 : decode cX10_swap 70 = .ok (.getfield 7, 3) := by decide +kernel
theorem dX10_swap_73 : decode cX10_swap 73 = .ok (.iload_n 2, 1) := by decide +kernel
theorem dX10_swap_74 : decode cX10_swap 74 = .ok (.invokestatic 69, 3) := by decide +kernel
theorem dX10_swap_77 : decode cX10_swap 77 = .ok (.iload_n 3, 1) := by decide +kernel
theorem dX10_swap_78 : decode cX10_swap 78 = .ok (.iadd, 1) := by decide +kernel
theorem dX10_swap_79 : decode cX10_swap 79 = .ok (.iload 4, 2) := by decide +kernel
theorem dX10_swap_81 : decode cX10_swap 81 = .ok (.iastore, 1) := by decide +kernel
theorem dX10_swap_82 : decode cX10_swap 82 = .ok (.iinc 3 1, 3) := by decide +kernel
theorem dX10_swap_85 : decode cX10_swap 85 = .ok (.goto (-58), 3) := by decide +kernel
theorem dX10_swap_88 : decode cX10_swap 88 = .ok (.iconst 1, 1) := by decide +kernel
theorem dX10_swap_89 : decode cX10_swap 89 = .ok (.ireturn, 1) := by decide +kernel
theorem dX10_valuesOf_0 : decode cX10_valuesOf 0 = .ok (.iconst 0, 1) := by decide +kernel
theorem dX10_valuesOf_1 : decode cX10_valuesOf 1 = .ok (.istore_n 2, 1) := by decide +kernel
theorem dX10_valuesOf_2 : decode cX10_valuesOf 2 = .ok (.iconst 0, 1) := by decide +kernel
theorem dX10_valuesOf_3 : decode cX10_valuesOf 3 = .ok (.istore_n 3, 1) := by decide +kernel
theorem dX10_valuesOf_4 : decode cX10_valuesOf 4 = .ok (.iload_n 3, 1) := by decide +kernel
theorem dX10_valuesOf_5 : decode cX10_valuesOf 5 = .ok (.aload_n 0, 1) := by decide +kernel
theorem dX10_valuesOf_6 : decode cX10_valuesOf 6 = .ok (.iload_n 1, 1) := by decide +kernel
theorem dX10_valuesOf_7 : decode cX10_valuesOf 7 = .ok (.invokevirtual 88, 3) := by decide +kernel
theorem dX10_valuesOf_10 : decode cX10_valuesOf 10 = .ok (.if_icmp .ge 26, 3) := by decide +kernel
theorem dX10_valuesOf_13 : decode cX10_valuesOf 13 = .ok (.iload_n 2, 1) := by decide +kernel
theorem dX10_valuesOf_14 : decode cX10_valuesOf 14 = .ok (.aload_n 0, 1) := by decide +kernel
theorem dX10_valuesOf_15 : decode cX10_valuesOf 15 = .ok (.iload_n 1, 1) := by decide +kernel
theorem dX10_valuesOf_16 : decode cX10_valuesOf 16 = .ok (.iload_n 3, 1) := by decide +kernel
theorem dX10_valuesOf_17 : decode cX10_valuesOf 17 = .ok (.invokevirtual 97, 3) := by decide +kernel
theorem dX10_valuesOf_20 : decode cX10_valuesOf 20 = .ok (.ifCond .eq 7, 3) := by decide +kernel
theorem dX10_valuesOf_23 : decode cX10_valuesOf 23 = .ok (.iconst 0, 1) := by decide +kernel
theorem dX10_valuesOf_24 : decode cX10_valuesOf 24 = .ok (.goto 4, 3) := by decide +kernel
theorem dX10_valuesOf_27 : decode cX10_valuesOf 27 = .ok (.iconst 1, 1) := by decide +kernel
theorem dX10_valuesOf_28 : decode cX10_valuesOf 28 = .ok (.iadd, 1) := by decide +kernel
theorem dX10_valuesOf_29 : decode cX10_valuesOf 29 = .ok (.istore_n 2, 1) := by decide +kernel
theorem dX10_valuesOf_30 : decode cX10_valuesOf 30 = .ok (.iinc 3 1, 3) := by decide +kernel
theorem dX10_valuesOf_33 : decode cX10_valuesOf 33 = .ok (.goto (-29), 3) := by decide +kernel
theorem dX10_valuesOf_36 : decode cX10_valuesOf 36 = .ok (.iload_n 2, 1) := by decide +kernel
theorem dX10_valuesOf_37 : decode cX10_valuesOf 37 = .ok (.ireturn, 1) := by decide +kernel
theorem dX10_mergedBy_0 : decode cX10_mergedBy 0 = .ok (.iload_n 2, 1) := by decide +kernel
theorem dX10_mergedBy_1 : decode cX10_mergedBy 1 = .ok (.istore_n 3, 1) := by decide +kernel
theorem dX10_mergedBy_2 : decode cX10_mergedBy 2 = .ok (.iconst 0, 1) := by decide +kernel
theorem dX10_mergedBy_3 : decode cX10_mergedBy 3 = .ok (.istore 4, 2) := by decide +kernel
theorem dX10_mergedBy_5 : decode cX10_mergedBy 5 = .ok (.iload 4, 2) := by decide +kernel
theorem dX10_mergedBy_7 : decode cX10_mergedBy 7 = .ok (.aload_n 0, 1) := by decide +kernel
theorem dX10_mergedBy_8 : decode cX10_mergedBy 8 = .ok (.iload_n 1, 1) := by decide +kernel
theorem dX10_mergedBy_9 : decode cX10_mergedBy 9 = .ok (.invokevirtual 88, 3) := by decide +kernel
theorem dX10_mergedBy_12 : decode cX10_mergedBy 12 = .ok (.if_icmp .ge 88, 3) := by decide +kernel
theorem dX10_mergedBy_15 : decode cX10_mergedBy 15 = .ok (.aload_n 0, 1) := by decide +kernel
theorem dX10_mergedBy_16 : decode cX10_mergedBy 16 = .ok (.iload_n 1, 1) := by decide +kernel
theorem dX10_mergedBy_17 : decode cX10_mergedBy 17 = .ok (.iload 4, 2) := by decide +kernel
theorem dX10_mergedBy_19 : decode cX10_mergedBy 19 = .ok (.invokevirtual 97, 3) := by decide +kernel
theorem dX10_mergedBy_22 : decode cX10_mergedBy 22 = .ok (.ifCond .eq 6, 3) := by decide +kernel
theorem dX10_mergedBy_25 : decode cX10_mergedBy 25 = .ok (.goto 69, 3) := by decide +kernel
theorem dX10_mergedBy_28 : decode cX10_mergedBy 28 = .ok (.iload_n 3, 1) := by decide +kernel
theorem dX10_mergedBy_29 : decode cX10_mergedBy 29 = .ok (.istore 5, 2) := by decide +kernel
theorem dX10_mergedBy_31 : decode cX10_mergedBy 31 = .ok (.iload 5, 2) := by decide +kernel
theorem dX10_mergedBy_33 : decode cX10_mergedBy 33 = .ok (.ifCond .le 44, 3) := by decide +kernel
theorem dX10_mergedBy_36 : decode cX10_mergedBy 36 = .ok (.aload_n 0, 1) := by decide +kernel
theorem dX10_mergedBy_37 : decode cX10_mergedBy 37 = .ok (.getfield 26, 3) := by decide +kernel
theorem dX10_mergedBy_40 : decode cX10_mergedBy 40 = .ok (.iload 5, 2) := by decide +kernel
theorem dX10_mergedBy_42 : decode cX10_mergedBy 42 = .ok (.iconst 1, 1) := by decide +kernel
theorem dX10_mergedBy_43 : decode cX10_mergedBy 43 = .ok (.isub, 1) := by decide +kernel
theorem dX10_mergedBy_44 : decode cX10_mergedBy 44 = .ok (.iaload, 1) := by decide +kernel
theorem dX10_mergedBy_45 : decode cX10_mergedBy 45 = .ok (.aload_n 0, 1) := by decide +kernel
theorem dX10_mergedBy_46 : decode cX10_mergedBy 46 = .ok (.iload_n 1, 1) := by decide +kernel
theorem dX10_mergedBy_47 : decode cX10_mergedBy 47 = .ok (.iload 4, 2) := by decide +kernel
theorem dX10_mergedBy_49 : decode cX10_mergedBy 49 = .ok (.invokevirtual 101, 3) := by decide +kernel
theorem dX10_mergedBy_52 : decode cX10_mergedBy 52 = .ok (.if_icmp .le 25, 3) := by decide +kernel
theorem dX10_mergedBy_55 : decode cX10_mergedBy 55 = .ok (.aload_n 0, 1) := by decide +kernel
theorem dX10_mergedBy_56 : decode cX10_mergedBy 56 = .ok (.getfield 26, 3) := by decide +kernel
theorem dX10_mergedBy_59 : decode cX10_mergedBy 59 = .ok (.iload 5, 2) := by decide +kernel
theorem dX10_mergedBy_61 : decode cX10_mergedBy 61 = .ok (.aload_n 0, 1) := by decide +kernel
theorem dX10_mergedBy_62 : decode cX10_mergedBy 62 = .ok (.getfield 26, 3) := by decide +kernel
theorem dX10_mergedBy_65 : decode cX10_mergedBy 65 = .ok (.iload 5, 2) := by decide +kernel
theorem dX10_mergedBy_67 : decode cX10_mergedBy 67 = .ok (.iconst 1, 1) := by decide +kernel
theorem dX10_mergedBy_68 : decode cX10_mergedBy 68 = .ok (.isub, 1) := by decide +kernel
theorem dX10_mergedBy_69 : decode cX10_mergedBy 69 = .ok (.iaload, 1) := by decide +kernel
theorem dX10_mergedBy_70 : decode cX10_mergedBy 70 = .ok (.iastore, 1) := by decide +kernel
theorem dX10_mergedBy_71 : decode cX10_mergedBy 71 = .ok (.iinc 5 (-1), 3) := by decide +kernel
theorem dX10_mergedBy_74 : decode cX10_mergedBy 74 = .ok (.goto (-43), 3) := by decide +kernel
theorem dX10_mergedBy_77 : decode cX10_mergedBy 77 = .ok (.aload_n 0, 1) := by decide +kernel
theorem dX10_mergedBy_78 : decode cX10_mergedBy 78 = .ok (.getfield 26, 3) := by decide +kernel
theorem dX10_mergedBy_81 : decode cX10_mergedBy 81 = .ok (.iload 5, 2) := by decide +kernel
theorem dX10_mergedBy_83 : decode cX10_mergedBy 83 = .ok (.aload_n 0, 1) := by decide +kernel
theorem dX10_mergedBy_84 : decode cX10_mergedBy 84 = .ok (.iload_n 1, 1) := by decide +kernel
theorem dX10_mergedBy_85 : decode cX10_mergedBy 85 = .ok (.iload 4, 2) := by decide +kernel
theorem dX10_mergedBy_87 : decode cX10_mergedBy 87 = .ok (.invokevirtual 101, 3) := by decide +kernel
theorem dX10_mergedBy_90 : decode cX10_mergedBy 90 = .ok (.iastore, 1) := by decide +kernel
theorem dX10_mergedBy_91 : decode cX10_mergedBy 91 = .ok (.iinc 3 1, 3) := by decide +kernel
theorem dX10_mergedBy_94 : decode cX10_mergedBy 94 = .ok (.iinc 4 1, 3) := by decide +kernel
theorem dX10_mergedBy_97 : decode cX10_mergedBy 97 = .ok (.goto (-92), 3) := by decide +kernel
theorem dX10_mergedBy_100 : decode cX10_mergedBy 100 = .ok (.iload_n 3, 1) := by decide +kernel
theorem dX10_mergedBy_101 : decode cX10_mergedBy 101 = .ok (.ireturn, 1) := by decide +kernel
theorem dX10_merge_0 : decode cX10_merge 0 = .ok (.aload_n 0, 1) := by decide +kernel
theorem dX10_merge_1 : decode cX10_merge 1 = .ok (.iload_n 1, 1) := by decide +kernel
theorem dX10_merge_2 : decode cX10_merge 2 = .ok (.invokevirtual 237, 3) := by decide +kernel
theorem dX10_merge_5 : decode cX10_merge 5 = .ok (.ifCond .eq 35, 3) := by decide +kernel
theorem dX10_merge_8 : decode cX10_merge 8 = .ok (.aload_n 0, 1) := by decide +kernel
theorem dX10_merge_9 : decode cX10_merge 9 = .ok (.iload_n 2, 1) := by decide +kernel
theorem dX10_merge_10 : decode cX10_merge 10 = .ok (.invokevirtual 237, 3) := by decide +kernel
theorem dX10_merge_13 : decode cX10_merge 13 = .ok (.ifCond .eq 27, 3) := by decide +kernel
theorem dX10_merge_16 : decode cX10_merge 16 = .ok (.iload_n 3, 1) := by decide +kernel
theorem dX10_merge_17 : decode cX10_merge 17 = .ok (.invokestatic 84, 3) := by decide +kernel
theorem dX10_merge_20 : decode cX10_merge 20 = .ok (.ifCond .eq 20, 3) := by decide +kernel
theorem dX10_merge_23 : decode cX10_merge 23 = .ok (.aload_n 0, 1) := by decide +kernel
theorem dX10_merge_24 : decode cX10_merge 24 = .ok (.iload_n 1, 1) := by decide +kernel
theorem dX10_merge_25 : decode cX10_merge 25 = .ok (.invokevirtual 240, 3) := by decide +kernel
theorem dX10_merge_28 : decode cX10_merge 28 = .ok (.aload_n 0, 1) := by decide +kernel
theorem dX10_merge_29 : decode cX10_merge 29 = .ok (.iload_n 2, 1) := by decide +kernel
theorem dX10_merge_30 : decode cX10_merge 30 = .ok (.invokevirtual 240, 3) := by decide +kernel
theorem dX10_merge_33 : decode cX10_merge 33 = .ok (.iadd, 1) := by decide +kernel
theorem dX10_merge_34 : decode cX10_merge 34 = .ok (.sipush 128, 3) := by decide +kernel
theorem dX10_merge_37 : decode cX10_merge 37 = .ok (.if_icmp .le 5, 3) := by decide +kernel
theorem dX10_merge_40 : decode cX10_merge 40 = .ok (.iconst (-1), 1) := by decide +kernel
theorem dX10_merge_41 : decode cX10_merge 41 = .ok (.ireturn, 1) := by decide +kernel
theorem dX10_merge_42 : decode cX10_merge 42 = .ok (.aload_n 0, 1) := by decide +kernel
theorem dX10_merge_43 : decode cX10_merge 43 = .ok (.invokevirtual 197, 3) := by decide +kernel
theorem dX10_merge_46 : decode cX10_merge 46 = .ok (.aload_n 0, 1) := by decide +kernel
theorem dX10_merge_47 : decode cX10_merge 47 = .ok (.iload_n 2, 1) := by decide +kernel
theorem dX10_merge_48 : decode cX10_merge 48 = .ok (.aload_n 0, 1) := by decide +kernel
theorem dX10_merge_49 : decode cX10_merge 49 = .ok (.iload_n 1, 1) := by decide +kernel
theorem dX10_merge_50 : decode cX10_merge 50 = .ok (.iconst 0, 1) := by decide +kernel
theorem dX10_merge_51 : decode cX10_merge 51 = .ok (.invokevirtual 243, 3) := by decide +kernel
theorem dX10_merge_54 : decode cX10_merge 54 = .ok (.invokevirtual 243, 3) := by decide +kernel
theorem dX10_merge_57 : decode cX10_merge 57 = .ok (.istore 4, 2) := by decide +kernel
theorem dX10_merge_59 : decode cX10_merge 59 = .ok (.aload_n 0, 1) := by decide +kernel
theorem dX10_merge_60 : decode cX10_merge 60 = .ok (.iload_n 3, 1) := by decide +kernel
theorem dX10_merge_61 : decode cX10_merge 61 = .ok (.invokevirtual 246, 3) := by decide +kernel
theorem dX10_merge_64 : decode cX10_merge 64 = .ok (.aload_n 0, 1) := by decide +kernel
theorem dX10_merge_65 : decode cX10_merge 65 = .ok (.iload_n 3, 1) := by decide +kernel
theorem dX10_merge_66 : decode cX10_merge 66 = .ok (.iload 4, 2) := by decide +kernel
theorem dX10_merge_68 : decode cX10_merge 68 = .ok (.invokevirtual 234, 3) := by decide +kernel
theorem dX10_merge_71 : decode cX10_merge 71 = .ok (.iload 4, 2) := by decide +kernel
theorem dX10_merge_73 : decode cX10_merge 73 = .ok (.ireturn, 1) := by decide +kernel
theorem dX10_drop_0 : decode cX10_drop 0 = .ok (.aload_n 0, 1) := by decide +kernel
theorem dX10_drop_1 : decode cX10_drop 1 = .ok (.iload_n 1, 1) := by decide +kernel
theorem dX10_drop_2 : decode cX10_drop 2 = .ok (.iload_n 2, 1) := by decide +kernel
theorem dX10_drop_3 : decode cX10_drop 3 = .ok (.invokevirtual 225, 3) := by decide +kernel
theorem dX10_drop_6 : decode cX10_drop 6 = .ok (.ifCond .ne 5, 3) := by decide +kernel
theorem dX10_drop_9 : decode cX10_drop 9 = .ok (.iconst (-1), 1) := by decide +kernel
theorem dX10_drop_10 : decode cX10_drop 10 = .ok (.ireturn, 1) := by decide +kernel
theorem dX10_drop_11 : decode cX10_drop 11 = .ok (.aload_n 0, 1) := by decide +kernel
theorem dX10_drop_12 : decode cX10_drop 12 = .ok (.invokevirtual 197, 3) := by decide +kernel
theorem dX10_drop_15 : decode cX10_drop 15 = .ok (.aload_n 0, 1) := by decide +kernel
theorem dX10_drop_16 : decode cX10_drop 16 = .ok (.iload_n 1, 1) := by decide +kernel
theorem dX10_drop_17 : decode cX10_drop 17 = .ok (.iload_n 2, 1) := by decide +kernel
theorem dX10_drop_18 : decode cX10_drop 18 = .ok (.iconst 0, 1) := by decide +kernel
theorem dX10_drop_19 : decode cX10_drop 19 = .ok (.invokevirtual 73, 3) := by decide +kernel
theorem dX10_drop_22 : decode cX10_drop 22 = .ok (.istore_n 3, 1) := by decide +kernel
theorem dX10_drop_23 : decode cX10_drop 23 = .ok (.aload_n 0, 1) := by decide +kernel
theorem dX10_drop_24 : decode cX10_drop 24 = .ok (.iload_n 1, 1) := by decide +kernel
theorem dX10_drop_25 : decode cX10_drop 25 = .ok (.aload_n 0, 1) := by decide +kernel
theorem dX10_drop_26 : decode cX10_drop 26 = .ok (.iload_n 1, 1) := by decide +kernel
theorem dX10_drop_27 : decode cX10_drop 27 = .ok (.iload_n 2, 1) := by decide +kernel
theorem dX10_drop_28 : decode cX10_drop 28 = .ok (.invokevirtual 80, 3) := by decide +kernel
theorem dX10_drop_31 : decode cX10_drop 31 = .ok (.iload_n 3, 1) := by decide +kernel
theorem dX10_drop_32 : decode cX10_drop 32 = .ok (.invokevirtual 219, 3) := by decide +kernel
theorem dX10_drop_35 : decode cX10_drop 35 = .ok (.aload_n 0, 1) := by decide +kernel
theorem dX10_drop_36 : decode cX10_drop 36 = .ok (.iload_n 1, 1) := by decide +kernel
theorem dX10_drop_37 : decode cX10_drop 37 = .ok (.iload_n 2, 1) := by decide +kernel
theorem dX10_drop_38 : decode cX10_drop 38 = .ok (.invokevirtual 222, 3) := by decide +kernel
theorem dX10_drop_41 : decode cX10_drop 41 = .ok (.iload_n 3, 1) := by decide +kernel
theorem dX10_drop_42 : decode cX10_drop 42 = .ok (.ireturn, 1) := by decide +kernel
theorem dX10_bestOf_0 : decode cX10_bestOf 0 = .ok (.aload_n 0, 1) := by decide +kernel
theorem dX10_bestOf_1 : decode cX10_bestOf 1 = .ok (.iload_n 1, 1) := by decide +kernel
theorem dX10_bestOf_2 : decode cX10_bestOf 2 = .ok (.iload_n 2, 1) := by decide +kernel
theorem dX10_bestOf_3 : decode cX10_bestOf 3 = .ok (.iload_n 3, 1) := by decide +kernel
theorem dX10_bestOf_4 : decode cX10_bestOf 4 = .ok (.invokevirtual 104, 3) := by decide +kernel
theorem dX10_bestOf_7 : decode cX10_bestOf 7 = .ok (.aload_n 0, 1) := by decide +kernel
theorem dX10_bestOf_8 : decode cX10_bestOf 8 = .ok (.invokevirtual 164, 3) := by decide +kernel
theorem dX10_bestOf_11 : decode cX10_bestOf 11 = .ok (.aload_n 0, 1) := by decide +kernel
theorem dX10_bestOf_12 : decode cX10_bestOf 12 = .ok (.getfield 135, 3) := by decide +kernel
theorem dX10_bestOf_15 : decode cX10_bestOf 15 = .ok (.ireturn, 1) := by decide +kernel
theorem dX10_canJoin_0 : decode cX10_canJoin 0 = .ok (.aload_n 0, 1) := by decide +kernel
theorem dX10_canJoin_1 : decode cX10_canJoin 1 = .ok (.iload_n 1, 1) := by decide +kernel
theorem dX10_canJoin_2 : decode cX10_canJoin 2 = .ok (.iload_n 2, 1) := by decide +kernel
theorem dX10_canJoin_3 : decode cX10_canJoin 3 = .ok (.iconst 0, 1) := by decide +kernel
theorem dX10_canJoin_4 : decode cX10_canJoin 4 = .ok (.invokevirtual 73, 3) := by decide +kernel
theorem dX10_canJoin_7 : decode cX10_canJoin 7 = .ok (.aload_n 0, 1) := by decide +kernel
theorem dX10_canJoin_8 : decode cX10_canJoin 8 = .ok (.iload_n 1, 1) := by decide +kernel
theorem dX10_canJoin_9 : decode cX10_canJoin 9 = .ok (.iload_n 2, 1) := by decide +kernel
theorem dX10_canJoin_10 : decode cX10_canJoin 10 = .ok (.iconst 1, 1) := by decide +kernel
theorem dX10_canJoin_11 : decode cX10_canJoin 11 = .ok (.iadd, 1) := by decide +kernel
theorem dX10_canJoin_12 : decode cX10_canJoin 12 = .ok (.iconst 0, 1) := by decide +kernel
theorem dX10_canJoin_13 : decode cX10_canJoin 13 = .ok (.invokevirtual 73, 3) := by decide +kernel
theorem dX10_canJoin_16 : decode cX10_canJoin 16 = .ok (.iadd, 1) := by decide +kernel
theorem dX10_canJoin_17 : decode cX10_canJoin 17 = .ok (.istore_n 3, 1) := by decide +kernel
theorem dX10_canJoin_18 : decode cX10_canJoin 18 = .ok (.iload_n 3, 1) := by decide +kernel
theorem dX10_canJoin_19 : decode cX10_canJoin 19 = .ok (.bipush 16, 2) := by decide +kernel
theorem dX10_canJoin_21 : decode cX10_canJoin 21 = .ok (.if_icmp .gt 37, 3) := by decide +kernel
theorem dX10_canJoin_24 : decode cX10_canJoin 24 = .ok (.aload_n 0, 1) := by decide +kernel
theorem dX10_canJoin_25 : decode cX10_canJoin 25 = .ok (.iload_n 1, 1) := by decide +kernel
theorem dX10_canJoin_26 : decode cX10_canJoin 26 = .ok (.aload_n 0, 1) := by decide +kernel
theorem dX10_canJoin_27 : decode cX10_canJoin 27 = .ok (.iload_n 1, 1) := by decide +kernel
theorem dX10_canJoin_28 : decode cX10_canJoin 28 = .ok (.iload_n 2, 1) := by decide +kernel
theorem dX10_canJoin_29 : decode cX10_canJoin 29 = .ok (.invokevirtual 80, 3) := by decide +kernel
theorem dX10_canJoin_32 : decode cX10_canJoin 32 = .ok (.iload_n 3, 1) := by decide +kernel
theorem dX10_canJoin_33 : decode cX10_canJoin 33 = .ok (.invokevirtual 249, 3) := by decide +kernel
theorem dX10_canJoin_36 : decode cX10_canJoin 36 = .ok (.aload_n 0, 1) := by decide +kernel
theorem dX10_canJoin_37 : decode cX10_canJoin 37 = .ok (.iload_n 1, 1) := by decide +kernel
theorem dX10_canJoin_38 : decode cX10_canJoin 38 = .ok (.iload_n 2, 1) := by decide +kernel
theorem dX10_canJoin_39 : decode cX10_canJoin 39 = .ok (.invokevirtual 177, 3) := by decide +kernel
theorem dX10_canJoin_42 : decode cX10_canJoin 42 = .ok (.aload_n 0, 1) := by decide +kernel
theorem dX10_canJoin_43 : decode cX10_canJoin 43 = .ok (.iload_n 1, 1) := by decide +kernel
theorem dX10_canJoin_44 : decode cX10_canJoin 44 = .ok (.iload_n 2, 1) := by decide +kernel
theorem dX10_canJoin_45 : decode cX10_canJoin 45 = .ok (.iconst 1, 1) := by decide +kernel
theorem dX10_canJoin_46 : decode cX10_canJoin 46 = .ok (.iadd, 1) := by decide +kernel
theorem dX10_canJoin_47 : decode cX10_canJoin 47 = .ok (.invokevirtual 177, 3) := by decide +kernel
theorem dX10_canJoin_50 : decode cX10_canJoin 50 = .ok (.iadd, 1) := by decide +kernel
theorem dX10_canJoin_51 : decode cX10_canJoin 51 = .ok (.if_icmp .ge 7, 3) := by decide +kernel
theorem dX10_canJoin_54 : decode cX10_canJoin 54 = .ok (.iconst 1, 1) := by decide +kernel
theorem dX10_canJoin_55 : decode cX10_canJoin 55 = .ok (.goto 4, 3) := by decide +kernel
theorem dX10_canJoin_58 : decode cX10_canJoin 58 = .ok (.iconst 0, 1) := by decide +kernel
theorem dX10_canJoin_59 : decode cX10_canJoin 59 = .ok (.ireturn, 1) := by decide +kernel
theorem dX10_join_0 : decode cX10_join 0 = .ok (.iload_n 1, 1) := by decide +kernel
theorem dX10_join_1 : decode cX10_join 1 = .ok (.invokestatic 84, 3) := by decide +kernel
theorem dX10_join_4 : decode cX10_join 4 = .ok (.ifCond .ne 5, 3) := by decide +kernel
theorem dX10_join_7 : decode cX10_join 7 = .ok (.iconst (-1), 1) := by decide +kernel
theorem dX10_join_8 : decode cX10_join 8 = .ok (.ireturn, 1) := by decide +kernel
theorem dX10_join_9 : decode cX10_join 9 = .ok (.aload_n 0, 1) := by decide +kernel
theorem dX10_join_10 : decode cX10_join 10 = .ok (.invokevirtual 197, 3) := by decide +kernel
theorem dX10_join_13 : decode cX10_join 13 = .ok (.aload_n 0, 1) := by decide +kernel
theorem dX10_join_14 : decode cX10_join 14 = .ok (.iload_n 1, 1) := by decide +kernel
theorem dX10_join_15 : decode cX10_join 15 = .ok (.invokevirtual 77, 3) := by decide +kernel
theorem dX10_join_18 : decode cX10_join 18 = .ok (.istore_n 2, 1) := by decide +kernel
theorem dX10_join_19 : decode cX10_join 19 = .ok (.iconst 0, 1) := by decide +kernel
theorem dX10_join_20 : decode cX10_join 20 = .ok (.istore_n 3, 1) := by decide +kernel
theorem dX10_join_21 : decode cX10_join 21 = .ok (.iload_n 3, 1) := by decide +kernel
theorem dX10_join_22 : decode cX10_join 22 = .ok (.iconst 1, 1) := by decide +kernel
theorem dX10_join_23 : decode cX10_join 23 = .ok (.iadd, 1) := by decide +kernel
theorem dX10_join_24 : decode cX10_join 24 = .ok (.aload_n 0, 1) := by decide +kernel
theorem dX10_join_25 : decode cX10_join 25 = .ok (.iload_n 1, 1) := by decide +kernel
theorem dX10_join_26 : decode cX10_join 26 = .ok (.invokevirtual 77, 3) := by decide +kernel
theorem dX10_join_29 : decode cX10_join 29 = .ok (.if_icmp .ge 59, 3) := by decide +kernel
theorem dX10_join_32 : decode cX10_join 32 = .ok (.aload_n 0, 1) := by decide +kernel
theorem dX10_join_33 : decode cX10_join 33 = .ok (.iload_n 1, 1) := by decide +kernel
theorem dX10_join_34 : decode cX10_join 34 = .ok (.iload_n 3, 1) := by decide +kernel
theorem dX10_join_35 : decode cX10_join 35 = .ok (.invokevirtual 252, 3) := by decide +kernel
theorem dX10_join_38 : decode cX10_join 38 = .ok (.ifCond .ne 9, 3) := by decide +kernel
theorem dX10_join_41 : decode cX10_join 41 = .ok (.iinc 3 1, 3) := by decide +kernel
theorem dX10_join_44 : decode cX10_join 44 = .ok (.goto (-23), 3) := by decide +kernel
theorem dX10_join_47 : decode cX10_join 47 = .ok (.aload_n 0, 1) := by decide +kernel
theorem dX10_join_48 : decode cX10_join 48 = .ok (.iload_n 1, 1) := by decide +kernel
theorem dX10_join_49 : decode cX10_join 49 = .ok (.iload_n 3, 1) := by decide +kernel
theorem dX10_join_50 : decode cX10_join 50 = .ok (.iconst 0, 1) := by decide +kernel
theorem dX10_join_51 : decode cX10_join 51 = .ok (.aload_n 0, 1) := by decide +kernel
theorem dX10_join_52 : decode cX10_join 52 = .ok (.iload_n 1, 1) := by decide +kernel
theorem dX10_join_53 : decode cX10_join 53 = .ok (.iload_n 3, 1) := by decide +kernel
theorem dX10_join_54 : decode cX10_join 54 = .ok (.iconst 0, 1) := by decide +kernel
theorem dX10_join_55 : decode cX10_join 55 = .ok (.invokevirtual 73, 3) := by decide +kernel
theorem dX10_join_58 : decode cX10_join 58 = .ok (.aload_n 0, 1) := by decide +kernel
theorem dX10_join_59 : decode cX10_join 59 = .ok (.iload_n 1, 1) := by decide +kernel
theorem dX10_join_60 : decode cX10_join 60 = .ok (.iload_n 3, 1) := by decide +kernel
theorem dX10_join_61 : decode cX10_join 61 = .ok (.iconst 1, 1) := by decide +kernel
theorem dX10_join_62 : decode cX10_join 62 = .ok (.iadd, 1) := by decide +kernel
theorem dX10_join_63 : decode cX10_join 63 = .ok (.iconst 0, 1) := by decide +kernel
theorem dX10_join_64 : decode cX10_join 64 = .ok (.invokevirtual 73, 3) := by decide +kernel
theorem dX10_join_67 : decode cX10_join 67 = .ok (.iadd, 1) := by decide +kernel
theorem dX10_join_68 : decode cX10_join 68 = .ok (.invokevirtual 167, 3) := by decide +kernel
theorem dX10_join_71 : decode cX10_join 71 = .ok (.aload_n 0, 1) := by decide +kernel
theorem dX10_join_72 : decode cX10_join 72 = .ok (.iload_n 1, 1) := by decide +kernel
theorem dX10_join_73 : decode cX10_join 73 = .ok (.iload_n 3, 1) := by decide +kernel
theorem dX10_join_74 : decode cX10_join 74 = .ok (.iconst 1, 1) := by decide +kernel
theorem dX10_join_75 : decode cX10_join 75 = .ok (.iadd, 1) := by decide +kernel
theorem dX10_join_76 : decode cX10_join 76 = .ok (.invokevirtual 222, 3) := by decide +kernel
theorem dX10_join_79 : decode cX10_join 79 = .ok (.aload_n 0, 1) := by decide +kernel
theorem dX10_join_80 : decode cX10_join 80 = .ok (.iload_n 1, 1) := by decide +kernel
theorem dX10_join_81 : decode cX10_join 81 = .ok (.iload_n 3, 1) := by decide +kernel
theorem dX10_join_82 : decode cX10_join 82 = .ok (.invokevirtual 171, 3) := by decide +kernel
theorem dX10_join_85 : decode cX10_join 85 = .ok (.goto (-64), 3) := by decide +kernel
theorem dX10_join_88 : decode cX10_join 88 = .ok (.iload_n 2, 1) := by decide +kernel
theorem dX10_join_89 : decode cX10_join 89 = .ok (.aload_n 0, 1) := by decide +kernel
theorem dX10_join_90 : decode cX10_join 90 = .ok (.iload_n 1, 1) := by decide +kernel
theorem dX10_join_91 : decode cX10_join 91 = .ok (.invokevirtual 77, 3) := by decide +kernel
theorem dX10_join_94 : decode cX10_join 94 = .ok (.isub, 1) := by decide +kernel
theorem dX10_join_95 : decode cX10_join 95 = .ok (.ireturn, 1) := by decide +kernel
theorem dX10_layCosts_0 : decode cX10_layCosts 0 = .ok (.iconst 0, 1) := by decide +kernel
theorem dX10_layCosts_1 : decode cX10_layCosts 1 = .ok (.istore_n 3, 1) := by decide +kernel
theorem dX10_layCosts_2 : decode cX10_layCosts 2 = .ok (.iload_n 3, 1) := by decide +kernel
theorem dX10_layCosts_3 : decode cX10_layCosts 3 = .ok (.iload_n 2, 1) := by decide +kernel
theorem dX10_layCosts_4 : decode cX10_layCosts 4 = .ok (.if_icmp .ge 53, 3) := by decide +kernel
theorem dX10_layCosts_7 : decode cX10_layCosts 7 = .ok (.iconst 1, 1) := by decide +kernel
theorem dX10_layCosts_8 : decode cX10_layCosts 8 = .ok (.istore 4, 2) := by decide +kernel
theorem dX10_layCosts_10 : decode cX10_layCosts 10 = .ok (.iload 4, 2) := by decide +kernel
theorem dX10_layCosts_12 : decode cX10_layCosts 12 = .ok (.bipush 16, 2) := by decide +kernel
theorem dX10_layCosts_14 : decode cX10_layCosts 14 = .ok (.if_icmp .gt 37, 3) := by decide +kernel
theorem dX10_layCosts_17 : decode cX10_layCosts 17 = .ok (.iload_n 3, 1) := by decide +kernel
theorem dX10_layCosts_18 : decode cX10_layCosts 18 = .ok (.iload 4, 2) := by decide +kernel
theorem dX10_layCosts_20 : decode cX10_layCosts 20 = .ok (.iadd, 1) := by decide +kernel
theorem dX10_layCosts_21 : decode cX10_layCosts 21 = .ok (.iload_n 2, 1) := by decide +kernel
theorem dX10_layCosts_22 : decode cX10_layCosts 22 = .ok (.if_icmp .gt 29, 3) := by decide +kernel
theorem dX10_layCosts_25 : decode cX10_layCosts 25 = .ok (.aload_n 0, 1) := by decide +kernel
theorem dX10_layCosts_26 : decode cX10_layCosts 26 = .ok (.getfield 33, 3) := by decide +kernel
theorem dX10_layCosts_29 : decode cX10_layCosts 29 = .ok (.bipush 17, 2) := by decide +kernel
theorem dX10_layCosts_31 : decode cX10_layCosts 31 = .ok (.iload_n 3, 1) := by decide +kernel
theorem dX10_layCosts_32 : decode cX10_layCosts 32 = .ok (.imul, 1) := by decide +kernel
theorem dX10_layCosts_33 : decode cX10_layCosts 33 = .ok (.iload 4, 2) := by decide +kernel
theorem dX10_layCosts_35 : decode cX10_layCosts 35 = .ok (.iadd, 1) := by decide +kernel
theorem dX10_layCosts_36 : decode cX10_layCosts 36 = .ok (.aload_n 0, 1) := by decide +kernel
theorem dX10_layCosts_37 : decode cX10_layCosts 37 = .ok (.iload_n 1, 1) := by decide +kernel
theorem dX10_layCosts_38 : decode cX10_layCosts 38 = .ok (.iload_n 3, 1) := by decide +kernel
theorem dX10_layCosts_39 : decode cX10_layCosts 39 = .ok (.iload 4, 2) := by decide +kernel
theorem dX10_layCosts_41 : decode cX10_layCosts 41 = .ok (.invokevirtual 249, 3) := by decide +kernel
theorem dX10_layCosts_44 : decode cX10_layCosts 44 = .ok (.iastore, 1) := by decide +kernel
theorem dX10_layCosts_45 : decode cX10_layCosts 45 = .ok (.iinc 4 1, 3) := by decide +kernel
theorem dX10_layCosts_48 : decode cX10_layCosts 48 = .ok (.goto (-38), 3) := by decide +kernel
theorem dX10_layCosts_51 : decode cX10_layCosts 51 = .ok (.iinc 3 1, 3) := by decide +kernel
theorem dX10_layCosts_54 : decode cX10_layCosts 54 = .ok (.goto (-52), 3) := by decide +kernel
theorem dX10_layCosts_57 : decode cX10_layCosts 57 = .ok (.return_, 1) := by decide +kernel
theorem dX10_layFewest_0 : decode cX10_layFewest 0 = .ok (.iconst 0, 1) := by decide +kernel
theorem dX10_layFewest_1 : decode cX10_layFewest 1 = .ok (.istore_n 2, 1) := by decide +kernel
theorem dX10_layFewest_2 : decode cX10_layFewest 2 = .ok (.iload_n 2, 1) := by decide +kernel
theorem dX10_layFewest_3 : decode cX10_layFewest 3 = .ok (.bipush 24, 2) := by decide +kernel
theorem dX10_layFewest_5 : decode cX10_layFewest 5 = .ok (.if_icmp .gt 147, 3) := by decide +kernel
theorem dX10_layFewest_8 : decode cX10_layFewest 8 = .ok (.iload_n 1, 1) := by decide +kernel
theorem dX10_layFewest_9 : decode cX10_layFewest 9 = .ok (.istore_n 3, 1) := by decide +kernel
theorem dX10_layFewest_10 : decode cX10_layFewest 10 = .ok (.iload_n 3, 1) := by decide +kernel
theorem dX10_layFewest_11 : decode cX10_layFewest 11 = .ok (.ifCond .lt 135, 3) := by decide +kernel
theorem dX10_layFewest_14 : decode cX10_layFewest 14 = .ok (.iload_n 2, 1) := by decide +kernel
theorem dX10_layFewest_15 : decode cX10_layFewest 15 = .ok (.ifCond .ne 12, 3) := by decide +kernel
theorem dX10_layFewest_18 : decode cX10_layFewest 18 = .ok (.iload_n 3, 1) := by decide +kernel
theorem dX10_layFewest_19 : decode cX10_layFewest 19 = .ok (.iload_n 1, 1) := by decide +kernel
theorem dX10_layFewest_20 : decode cX10_layFewest 20 = .ok (.if_icmp .ne 7, 3) := by decide +kernel
theorem dX10_layFewest_23 : decode cX10_layFewest 23 = .ok (.iconst 0, 1) := by decide +kernel
theorem dX10_layFewest_24 : decode cX10_layFewest 24 = .ok (.goto 4, 3) := by decide +kernel
theorem dX10_layFewest_27 : decode cX10_layFewest 27 = .ok (.iconst (-1), 1) := by decide +kernel
theorem dX10_layFewest_28 : decode cX10_layFewest 28 = .ok (.istore 4, 2) := by decide +kernel
theorem dX10_layFewest_30 : decode cX10_layFewest 30 = .ok (.iconst 1, 1) := by decide +kernel
theorem dX10_layFewest_31 : decode cX10_layFewest 31 = .ok (.istore 5, 2) := by decide +kernel
theorem dX10_layFewest_33 : decode cX10_layFewest 33 = .ok (.iload 5, 2) := by decide +kernel
theorem dX10_layFewest_35 : decode cX10_layFewest 35 = .ok (.bipush 16, 2) := by decide +kernel
theorem dX10_layFewest_37 : decode cX10_layFewest 37 = .ok (.if_icmp .gt 89, 3) := by decide +kernel
theorem dX10_layFewest_40 : decode cX10_layFewest 40 = .ok (.iload_n 3, 1) := by decide +kernel
theorem dX10_layFewest_41 : decode cX10_layFewest 41 = .ok (.iload 5, 2) := by decide +kernel
theorem dX10_layFewest_43 : decode cX10_layFewest 43 = .ok (.iadd, 1) := by decide +kernel
theorem dX10_layFewest_44 : decode cX10_layFewest 44 = .ok (.iload_n 1, 1) := by decide +kernel
theorem dX10_layFewest_45 : decode cX10_layFewest 45 = .ok (.if_icmp .gt 81, 3) := by decide +kernel
theorem dX10_layFewest_48 : decode cX10_layFewest 48 = .ok (.iload_n 2, 1) := by decide +kernel
theorem dX10_layFewest_49 : decode cX10_layFewest 49 = .ok (.ifCond .le 77, 3) := by decide +kernel
theorem dX10_layFewest_52 : decode cX10_layFewest 52 = .ok (.aload_n 0, 1) := by decide +kernel
theorem dX10_layFewest_53 : decode cX10_layFewest 53 = .ok (.getfield 36, 3) := by decide +kernel
theorem dX10_layFewest_56 : decode cX10_layFewest 56 = .ok (.sipush 129, 3) := by decide +kernel
theorem dX10_layFewest_59 : decode cX10_layFewest 59 = .ok (.iload_n 2, 1) := by decide +kernel
theorem dX10_layFewest_60 : decode cX10_layFewest 60 = .ok (.iconst 1, 1) := by decide +kernel
theorem dX10_layFewest_61 : decode cX10_layFewest 61 = .ok (.isub, 1) := by decide +kernel
theorem dX10_layFewest_62 : decode cX10_layFewest 62 = .ok (.imul, 1) := by decide +kernel
theorem dX10_layFewest_63 : decode cX10_layFewest 63 = .ok (.iload_n 3, 1) := by decide +kernel
theorem dX10_layFewest_64 : decode cX10_layFewest 64 = .ok (.iadd, 1) := by decide +kernel
theorem dX10_layFewest_65 : decode cX10_layFewest 65 = .ok (.iload 5, 2) := by decide +kernel
theorem dX10_layFewest_67 : decode cX10_layFewest 67 = .ok (.iadd, 1) := by decide +kernel
theorem dX10_layFewest_68 : decode cX10_layFewest 68 = .ok (.iaload, 1) := by decide +kernel
theorem dX10_layFewest_69 : decode cX10_layFewest 69 = .ok (.istore 6, 2) := by decide +kernel
theorem dX10_layFewest_71 : decode cX10_layFewest 71 = .ok (.iload 6, 2) := by decide +kernel
theorem dX10_layFewest_73 : decode cX10_layFewest 73 = .ok (.iconst (-1), 1) := by decide +kernel
theorem dX10_layFewest_74 : decode cX10_layFewest 74 = .ok (.if_icmp .eq 46, 3) := by decide +kernel
theorem dX10_layFewest_77 : decode cX10_layFewest 77 = .ok (.iload 4, 2) := by decide +kernel
theorem dX10_layFewest_79 : decode cX10_layFewest 79 = .ok (.iconst (-1), 1) := by decide +kernel
theorem dX10_layFewest_80 : decode cX10_layFewest 80 = .ok (.if_icmp .eq 23, 3) := by decide +kernel
theorem dX10_layFewest_83 : decode cX10_layFewest 83 = .ok (.aload_n 0, 1) := by decide +kernel
theorem dX10_layFewest_84 : decode cX10_layFewest 84 = .ok (.getfield 33, 3) := by decide +kernel
theorem dX10_layFewest_87 : decode cX10_layFewest 87 = .ok (.bipush 17, 2) := by decide +kernel
theorem dX10_layFewest_89 : decode cX10_layFewest 89 = .ok (.iload_n 3, 1) := by decide +kernel
theorem dX10_layFewest_90 : decode cX10_layFewest 90 = .ok (.imul, 1) := by decide +kernel
theorem dX10_layFewest_91 : decode cX10_layFewest 91 = .ok (.iload 5, 2) := by decide +kernel
theorem dX10_layFewest_93 : decode cX10_layFewest 93 = .ok (.iadd, 1) := by decide +kernel
theorem dX10_layFewest_94 : decode cX10_layFewest 94 = .ok (.iaload, 1) := by decide +kernel
theorem dX10_layFewest_95 : decode cX10_layFewest 95 = .ok (.iload 6, 2) := by decide +kernel
theorem dX10_layFewest_97 : decode cX10_layFewest 97 = .ok (.iadd, 1) := by decide +kernel
theorem dX10_layFewest_98 : decode cX10_layFewest 98 = .ok (.iload 4, 2) := by decide +kernel
theorem dX10_layFewest_100 : decode cX10_layFewest 100 = .ok (.if_icmp .ge 20, 3) := by decide +kernel
theorem dX10_layFewest_103 : decode cX10_layFewest 103 = .ok (.aload_n 0, 1) := by decide +kernel
theorem dX10_layFewest_104 : decode cX10_layFewest 104 = .ok (.getfield 33, 3) := by decide +kernel
theorem dX10_layFewest_107 : decode cX10_layFewest 107 = .ok (.bipush 17, 2) := by decide +kernel
theorem dX10_layFewest_109 : decode cX10_layFewest 109 = .ok (.iload_n 3, 1) := by decide +kernel
theorem dX10_layFewest_110 : decode cX10_layFewest 110 = .ok (.imul, 1) := by decide +kernel
theorem dX10_layFewest_111 : decode cX10_layFewest 111 = .ok (.iload 5, 2) := by decide +kernel
theorem dX10_layFewest_113 : decode cX10_layFewest 113 = .ok (.iadd, 1) := by decide +kernel
theorem dX10_layFewest_114 : decode cX10_layFewest 114 = .ok (.iaload, 1) := by decide +kernel
theorem dX10_layFewest_115 : decode cX10_layFewest 115 = .ok (.iload 6, 2) := by decide +kernel
theorem dX10_layFewest_117 : decode cX10_layFewest 117 = .ok (.iadd, 1) := by decide +kernel
theorem dX10_layFewest_118 : decode cX10_layFewest 118 = .ok (.istore 4, 2) := by decide +kernel
theorem dX10_layFewest_120 : decode cX10_layFewest 120 = .ok (.iinc 5 1, 3) := by decide +kernel
theorem dX10_layFewest_123 : decode cX10_layFewest 123 = .ok (.goto (-90), 3) := by decide +kernel
theorem dX10_layFewest_126 : decode cX10_layFewest 126 = .ok (.aload_n 0, 1) := by decide +kernel
theorem dX10_layFewest_127 : decode cX10_layFewest 127 = .ok (.getfield 36, 3) := by decide +kernel
theorem dX10_layFewest_130 : decode cX10_layFewest 130 = .ok (.sipush 129, 3) := by decide +kernel
theorem dX10_layFewest_133 : decode cX10_layFewest 133 = .ok (.iload_n 2, 1) := by decide +kernel
theorem dX10_layFewest_134 : decode cX10_layFewest 134 = .ok (.imul, 1) := by decide +kernel
theorem dX10_layFewest_135 : decode cX10_layFewest 135 = .ok (.iload_n 3, 1) := by decide +kernel
theorem dX10_layFewest_136 : decode cX10_layFewest 136 = .ok (.iadd, 1) := by decide +kernel
theorem dX10_layFewest_137 : decode cX10_layFewest 137 = .ok (.iload 4, 2) := by decide +kernel
theorem dX10_layFewest_139 : decode cX10_layFewest 139 = .ok (.iastore, 1) := by decide +kernel
theorem dX10_layFewest_140 : decode cX10_layFewest 140 = .ok (.iinc 3 (-1), 3) := by decide +kernel
theorem dX10_layFewest_143 : decode cX10_layFewest 143 = .ok (.goto (-133), 3) := by decide +kernel
theorem dX10_layFewest_146 : decode cX10_layFewest 146 = .ok (.iinc 2 1, 3) := by decide +kernel
theorem dX10_layFewest_149 : decode cX10_layFewest 149 = .ok (.goto (-147), 3) := by decide +kernel
theorem dX10_layFewest_152 : decode cX10_layFewest 152 = .ok (.return_, 1) := by decide +kernel
theorem dX10_layCut_0 : decode cX10_layCut 0 = .ok (.aload_n 0, 1) := by decide +kernel
theorem dX10_layCut_1 : decode cX10_layCut 1 = .ok (.iload_n 1, 1) := by decide +kernel
theorem dX10_layCut_2 : decode cX10_layCut 2 = .ok (.invokevirtual 88, 3) := by decide +kernel
theorem dX10_layCut_5 : decode cX10_layCut 5 = .ok (.istore_n 2, 1) := by decide +kernel
theorem dX10_layCut_6 : decode cX10_layCut 6 = .ok (.aload_n 0, 1) := by decide +kernel
theorem dX10_layCut_7 : decode cX10_layCut 7 = .ok (.iload_n 1, 1) := by decide +kernel
theorem dX10_layCut_8 : decode cX10_layCut 8 = .ok (.iload_n 2, 1) := by decide +kernel
theorem dX10_layCut_9 : decode cX10_layCut 9 = .ok (.invokevirtual 255, 3) := by decide +kernel
theorem dX10_layCut_12 : decode cX10_layCut 12 = .ok (.aload_n 0, 1) := by decide +kernel
theorem dX10_layCut_13 : decode cX10_layCut 13 = .ok (.iload_n 2, 1) := by decide +kernel
theorem dX10_layCut_14 : decode cX10_layCut 14 = .ok (.invokevirtual 258, 3) := by decide +kernel
theorem dX10_layCut_17 : decode cX10_layCut 17 = .ok (.aload_n 0, 1) := by decide +kernel
theorem dX10_layCut_18 : decode cX10_layCut 18 = .ok (.iconst (-1), 1) := by decide +kernel
theorem dX10_layCut_19 : decode cX10_layCut 19 = .ok (.putfield 261, 3) := by decide +kernel
theorem dX10_layCut_22 : decode cX10_layCut 22 = .ok (.iconst 1, 1) := by decide +kernel
theorem dX10_layCut_23 : decode cX10_layCut 23 = .ok (.istore_n 3, 1) := by decide +kernel
theorem dX10_layCut_24 : decode cX10_layCut 24 = .ok (.iload_n 3, 1) := by decide +kernel
theorem dX10_layCut_25 : decode cX10_layCut 25 = .ok (.bipush 24, 2) := by decide +kernel
theorem dX10_layCut_27 : decode cX10_layCut 27 = .ok (.if_icmp .gt 58, 3) := by decide +kernel
theorem dX10_layCut_30 : decode cX10_layCut 30 = .ok (.aload_n 0, 1) := by decide +kernel
theorem dX10_layCut_31 : decode cX10_layCut 31 = .ok (.getfield 36, 3) := by decide +kernel
theorem dX10_layCut_34 : decode cX10_layCut 34 = .ok (.sipush 129, 3) := by decide +kernel
theorem dX10_layCut_37 : decode cX10_layCut 37 = .ok (.iload_n 3, 1) := by decide +kernel
theorem dX10_layCut_38 : decode cX10_layCut 38 = .ok (.imul, 1) := by decide +kernel
theorem dX10_layCut_39 : decode cX10_layCut 39 = .ok (.iaload, 1) := by decide +kernel
theorem dX10_layCut_40 : decode cX10_layCut 40 = .ok (.istore 4, 2) := by decide +kernel
theorem dX10_layCut_42 : decode cX10_layCut 42 = .ok (.iload 4, 2) := by decide +kernel
theorem dX10_layCut_44 : decode cX10_layCut 44 = .ok (.iconst (-1), 1) := by decide +kernel
theorem dX10_layCut_45 : decode cX10_layCut 45 = .ok (.if_icmp .eq 34, 3) := by decide +kernel
theorem dX10_layCut_48 : decode cX10_layCut 48 = .ok (.aload_n 0, 1) := by decide +kernel
theorem dX10_layCut_49 : decode cX10_layCut 49 = .ok (.getfield 261, 3) := by decide +kernel
theorem dX10_layCut_52 : decode cX10_layCut 52 = .ok (.iconst (-1), 1) := by decide +kernel
theorem dX10_layCut_53 : decode cX10_layCut 53 = .ok (.if_icmp .eq 15, 3) := by decide +kernel
theorem dX10_layCut_56 : decode cX10_layCut 56 = .ok (.iload 4, 2) := by decide +kernel
theorem dX10_layCut_58 : decode cX10_layCut 58 = .ok (.aload_n 0, 1) := by decide +kernel
theorem dX10_layCut_59 : decode cX10_layCut 59 = .ok (.getfield 261, 3) := by decide +kernel
theorem dX10_layCut_62 : decode cX10_layCut 62 = .ok (.if_icmp .lt 6, 3) := by decide +kernel
theorem dX10_layCut_65 : decode cX10_layCut 65 = .ok (.goto 14, 3) := by decide +kernel
theorem dX10_layCut_68 : decode cX10_layCut 68 = .ok (.aload_n 0, 1) := by decide +kernel
theorem dX10_layCut_69 : decode cX10_layCut 69 = .ok (.iload 4, 2) := by decide +kernel
theorem dX10_layCut_71 : decode cX10_layCut 71 = .ok (.putfield 261, 3) := by decide +kernel
theorem dX10_layCut_74 : decode cX10_layCut 74 = .ok (.aload_n 0, 1) := by decide +kernel
theorem dX10_layCut_75 : decode cX10_layCut 75 = .ok (.iload_n 3, 1) := by decide +kernel
theorem dX10_layCut_76 : decode cX10_layCut 76 = .ok (.putfield 264, 3) := by decide +kernel
theorem dX10_layCut_79 : decode cX10_layCut 79 = .ok (.iinc 3 1, 3) := by decide +kernel
theorem dX10_layCut_82 : decode cX10_layCut 82 = .ok (.goto (-58), 3) := by decide +kernel
theorem dX10_layCut_85 : decode cX10_layCut 85 = .ok (.iconst 0, 1) := by decide +kernel
theorem dX10_layCut_86 : decode cX10_layCut 86 = .ok (.istore_n 3, 1) := by decide +kernel
theorem dX10_layCut_87 : decode cX10_layCut 87 = .ok (.iconst 0, 1) := by decide +kernel
theorem dX10_layCut_88 : decode cX10_layCut 88 = .ok (.istore 4, 2) := by decide +kernel
theorem dX10_layCut_90 : decode cX10_layCut 90 = .ok (.iload 4, 2) := by decide +kernel
theorem dX10_layCut_92 : decode cX10_layCut 92 = .ok (.aload_n 0, 1) := by decide +kernel
theorem dX10_layCut_93 : decode cX10_layCut 93 = .ok (.getfield 264, 3) := by decide +kernel
theorem dX10_layCut_96 : decode cX10_layCut 96 = .ok (.if_icmp .ge 110, 3) := by decide +kernel
theorem dX10_layCut_99 : decode cX10_layCut 99 = .ok (.aload_n 0, 1) := by decide +kernel
theorem dX10_layCut_100 : decode cX10_layCut 100 = .ok (.getfield 264, 3) := by decide +kernel
theorem dX10_layCut_103 : decode cX10_layCut 103 = .ok (.iload 4, 2) := by decide +kernel
theorem dX10_layCut_105 : decode cX10_layCut 105 = .ok (.isub, 1) := by decide +kernel
theorem dX10_layCut_106 : decode cX10_layCut 106 = .ok (.istore 5, 2) := by decide +kernel
theorem dX10_layCut_108 : decode cX10_layCut 108 = .ok (.iconst 1, 1) := by decide +kernel
theorem dX10_layCut_109 : decode cX10_layCut 109 = .ok (.istore 6, 2) := by decide +kernel
theorem dX10_layCut_111 : decode cX10_layCut 111 = .ok (.aload_n 0, 1) := by decide +kernel
theorem dX10_layCut_112 : decode cX10_layCut 112 = .ok (.getfield 36, 3) := by decide +kernel
theorem dX10_layCut_115 : decode cX10_layCut 115 = .ok (.sipush 129, 3) := by decide +kernel
theorem dX10_layCut_118 : decode cX10_layCut 118 = .ok (.iload 5, 2) := by decide +kernel
theorem dX10_layCut_120 : decode cX10_layCut 120 = .ok (.iconst 1, 1) := by decide +kernel
theorem dX10_layCut_121 : decode cX10_layCut 121 = .ok (.isub, 1) := by decide +kernel
theorem dX10_layCut_122 : decode cX10_layCut 122 = .ok (.imul, 1) := by decide +kernel
theorem dX10_layCut_123 : decode cX10_layCut 123 = .ok (.iload_n 3, 1) := by decide +kernel
theorem dX10_layCut_124 : decode cX10_layCut 124 = .ok (.iadd, 1) := by decide +kernel
theorem dX10_layCut_125 : decode cX10_layCut 125 = .ok (.iload 6, 2) := by decide +kernel
theorem dX10_layCut_127 : decode cX10_layCut 127 = .ok (.iadd, 1) := by decide +kernel
theorem dX10_layCut_128 : decode cX10_layCut 128 = .ok (.iaload, 1) := by decide +kernel
theorem dX10_layCut_129 : decode cX10_layCut 129 = .ok (.iconst (-1), 1) := by decide +kernel
theorem dX10_layCut_130 : decode cX10_layCut 130 = .ok (.if_icmp .eq 50, 3) := by decide +kernel
theorem dX10_layCut_133 : decode cX10_layCut 133 = .ok (.aload_n 0, 1) := by decide +kernel
theorem dX10_layCut_134 : decode cX10_layCut 134 = .ok (.getfield 33, 3) := by decide +kernel
theorem dX10_layCut_137 : decode cX10_layCut 137 = .ok (.bipush 17, 2) := by decide +kernel
theorem dX10_layCut_139 : decode cX10_layCut 139 = .ok (.iload_n 3, 1) := by decide +kernel
theorem dX10_layCut_140 : decode cX10_layCut 140 = .ok (.imul, 1) := by decide +kernel
theorem dX10_layCut_141 : decode cX10_layCut 141 = .ok (.iload 6, 2) := by decide +kernel
theorem dX10_layCut_143 : decode cX10_layCut 143 = .ok (.iadd, 1) := by decide +kernel
theorem dX10_layCut_144 : decode cX10_layCut 144 = .ok (.iaload, 1) := by decide +kernel
theorem dX10_layCut_145 : decode cX10_layCut 145 = .ok (.aload_n 0, 1) := by decide +kernel
theorem dX10_layCut_146 : decode cX10_layCut 146 = .ok (.getfield 36, 3) := by decide +kernel
theorem dX10_layCut_149 : decode cX10_layCut 149 = .ok (.sipush 129, 3) := by decide +kernel
theorem dX10_layCut_152 : decode cX10_layCut 152 = .ok (.iload 5, 2) := by decide +kernel
theorem dX10_layCut_154 : decode cX10_layCut 154 = .ok (.iconst 1, 1) := by decide +kernel
theorem dX10_layCut_155 : decode cX10_layCut 155 = .ok (.isub, 1) := by decide +kernel
theorem dX10_layCut_156 : decode cX10_layCut 156 = .ok (.imul, 1) := by decide +kernel
theorem dX10_layCut_157 : decode cX10_layCut 157 = .ok (.iload_n 3, 1) := by decide +kernel
theorem dX10_layCut_158 : decode cX10_layCut 158 = .ok (.iadd, 1) := by decide +kernel
theorem dX10_layCut_159 : decode cX10_layCut 159 = .ok (.iload 6, 2) := by decide +kernel
theorem dX10_layCut_161 : decode cX10_layCut 161 = .ok (.iadd, 1) := by decide +kernel
theorem dX10_layCut_162 : decode cX10_layCut 162 = .ok (.iaload, 1) := by decide +kernel
theorem dX10_layCut_163 : decode cX10_layCut 163 = .ok (.iadd, 1) := by decide +kernel
theorem dX10_layCut_164 : decode cX10_layCut 164 = .ok (.aload_n 0, 1) := by decide +kernel
theorem dX10_layCut_165 : decode cX10_layCut 165 = .ok (.getfield 36, 3) := by decide +kernel
theorem dX10_layCut_168 : decode cX10_layCut 168 = .ok (.sipush 129, 3) := by decide +kernel
theorem dX10_layCut_171 : decode cX10_layCut 171 = .ok (.iload 5, 2) := by decide +kernel
theorem dX10_layCut_173 : decode cX10_layCut 173 = .ok (.imul, 1) := by decide +kernel
theorem dX10_layCut_174 : decode cX10_layCut 174 = .ok (.iload_n 3, 1) := by decide +kernel
theorem dX10_layCut_175 : decode cX10_layCut 175 = .ok (.iadd, 1) := by decide +kernel
theorem dX10_layCut_176 : decode cX10_layCut 176 = .ok (.iaload, 1) := by decide +kernel
theorem dX10_layCut_177 : decode cX10_layCut 177 = .ok (.if_icmp .eq 9, 3) := by decide +kernel
theorem dX10_layCut_180 : decode cX10_layCut 180 = .ok (.iinc 6 1, 3) := by decide +kernel
theorem dX10_layCut_183 : decode cX10_layCut 183 = .ok (.goto (-72), 3) := by decide +kernel
theorem dX10_layCut_186 : decode cX10_layCut 186 = .ok (.aload_n 0, 1) := by decide +kernel
theorem dX10_layCut_187 : decode cX10_layCut 187 = .ok (.getfield 39, 3) := by decide +kernel
theorem dX10_layCut_190 : decode cX10_layCut 190 = .ok (.iload 4, 2) := by decide +kernel
theorem dX10_layCut_192 : decode cX10_layCut 192 = .ok (.iload 6, 2) := by decide +kernel
theorem dX10_layCut_194 : decode cX10_layCut 194 = .ok (.iastore, 1) := by decide +kernel
theorem dX10_layCut_195 : decode cX10_layCut 195 = .ok (.iload_n 3, 1) := by decide +kernel
theorem dX10_layCut_196 : decode cX10_layCut 196 = .ok (.iload 6, 2) := by decide +kernel
theorem dX10_layCut_198 : decode cX10_layCut 198 = .ok (.iadd, 1) := by decide +kernel
theorem dX10_layCut_199 : decode cX10_layCut 199 = .ok (.istore_n 3, 1) := by decide +kernel
theorem dX10_layCut_200 : decode cX10_layCut 200 = .ok (.iinc 4 1, 3) := by decide +kernel
theorem dX10_layCut_203 : decode cX10_layCut 203 = .ok (.goto (-113), 3) := by decide +kernel
theorem dX10_layCut_206 : decode cX10_layCut 206 = .ok (.return_, 1) := by decide +kernel
theorem dX10_recut_0 : decode cX10_recut 0 = .ok (.iload_n 1, 1) := by decide +kernel
theorem dX10_recut_1 : decode cX10_recut 1 = .ok (.invokestatic 84, 3) := by decide +kernel
theorem dX10_recut_4 : decode cX10_recut 4 = .ok (.ifCond .eq 11, 3) := by decide +kernel
theorem dX10_recut_7 : decode cX10_recut 7 = .ok (.aload_n 0, 1) := by decide +kernel
theorem dX10_recut_8 : decode cX10_recut 8 = .ok (.iload_n 1, 1) := by decide +kernel
theorem dX10_recut_9 : decode cX10_recut 9 = .ok (.invokevirtual 77, 3) := by decide +kernel
theorem dX10_recut_12 : decode cX10_recut 12 = .ok (.ifCond .ne 5, 3) := by decide +kernel
theorem dX10_recut_15 : decode cX10_recut 15 = .ok (.iconst (-1), 1) := by decide +kernel
theorem dX10_recut_16 : decode cX10_recut 16 = .ok (.ireturn, 1) := by decide +kernel
theorem dX10_recut_17 : decode cX10_recut 17 = .ok (.aload_n 0, 1) := by decide +kernel
theorem dX10_recut_18 : decode cX10_recut 18 = .ok (.iload_n 1, 1) := by decide +kernel
theorem dX10_recut_19 : decode cX10_recut 19 = .ok (.invokevirtual 267, 3) := by decide +kernel
theorem dX10_recut_22 : decode cX10_recut 22 = .ok (.aload_n 0, 1) := by decide +kernel
theorem dX10_recut_23 : decode cX10_recut 23 = .ok (.invokevirtual 197, 3) := by decide +kernel
theorem dX10_recut_26 : decode cX10_recut 26 = .ok (.aload_n 0, 1) := by decide +kernel
theorem dX10_recut_27 : decode cX10_recut 27 = .ok (.iload_n 1, 1) := by decide +kernel
theorem dX10_recut_28 : decode cX10_recut 28 = .ok (.invokevirtual 77, 3) := by decide +kernel
theorem dX10_recut_31 : decode cX10_recut 31 = .ok (.ifCond .le 18, 3) := by decide +kernel
theorem dX10_recut_34 : decode cX10_recut 34 = .ok (.aload_n 0, 1) := by decide +kernel
theorem dX10_recut_35 : decode cX10_recut 35 = .ok (.iload_n 1, 1) := by decide +kernel
theorem dX10_recut_36 : decode cX10_recut 36 = .ok (.aload_n 0, 1) := by decide +kernel
theorem dX10_recut_37 : decode cX10_recut 37 = .ok (.iload_n 1, 1) := by decide +kernel
theorem dX10_recut_38 : decode cX10_recut 38 = .ok (.invokevirtual 77, 3) := by decide +kernel
theorem dX10_recut_41 : decode cX10_recut 41 = .ok (.iconst 1, 1) := by decide +kernel
theorem dX10_recut_42 : decode cX10_recut 42 = .ok (.isub, 1) := by decide +kernel
theorem dX10_recut_43 : decode cX10_recut 43 = .ok (.invokevirtual 222, 3) := by decide +kernel
theorem dX10_recut_46 : decode cX10_recut 46 = .ok (.goto (-20), 3) := by decide +kernel
theorem dX10_recut_49 : decode cX10_recut 49 = .ok (.iconst 0, 1) := by decide +kernel
theorem dX10_recut_50 : decode cX10_recut 50 = .ok (.istore_n 2, 1) := by decide +kernel
theorem dX10_recut_51 : decode cX10_recut 51 = .ok (.iload_n 2, 1) := by decide +kernel
theorem dX10_recut_52 : decode cX10_recut 52 = .ok (.aload_n 0, 1) := by decide +kernel
theorem dX10_recut_53 : decode cX10_recut 53 = .ok (.getfield 264, 3) := by decide +kernel
theorem dX10_recut_56 : decode cX10_recut 56 = .ok (.if_icmp .ge 21, 3) := by decide +kernel
theorem dX10_recut_59 : decode cX10_recut 59 = .ok (.aload_n 0, 1) := by decide +kernel
theorem dX10_recut_60 : decode cX10_recut 60 = .ok (.iload_n 1, 1) := by decide +kernel
theorem dX10_recut_61 : decode cX10_recut 61 = .ok (.iload_n 2, 1) := by decide +kernel
theorem dX10_recut_62 : decode cX10_recut 62 = .ok (.aload_n 0, 1) := by decide +kernel
theorem dX10_recut_63 : decode cX10_recut 63 = .ok (.getfield 39, 3) := by decide +kernel
theorem dX10_recut_66 : decode cX10_recut 66 = .ok (.iload_n 2, 1) := by decide +kernel
theorem dX10_recut_67 : decode cX10_recut 67 = .ok (.iaload, 1) := by decide +kernel
theorem dX10_recut_68 : decode cX10_recut 68 = .ok (.invokevirtual 200, 3) := by decide +kernel
theorem dX10_recut_71 : decode cX10_recut 71 = .ok (.iinc 2 1, 3) := by decide +kernel
theorem dX10_recut_74 : decode cX10_recut 74 = .ok (.goto (-23), 3) := by decide +kernel
theorem dX10_recut_77 : decode cX10_recut 77 = .ok (.aload_n 0, 1) := by decide +kernel
theorem dX10_recut_78 : decode cX10_recut 78 = .ok (.iload_n 1, 1) := by decide +kernel
theorem dX10_recut_79 : decode cX10_recut 79 = .ok (.invokevirtual 228, 3) := by decide +kernel
theorem dX10_recut_82 : decode cX10_recut 82 = .ok (.aload_n 0, 1) := by decide +kernel
theorem dX10_recut_83 : decode cX10_recut 83 = .ok (.getfield 261, 3) := by decide +kernel
theorem dX10_recut_86 : decode cX10_recut 86 = .ok (.ireturn, 1) := by decide +kernel
theorem dX10_drawn_0 : decode cX10_drawn 0 = .ok (.aload_n 0, 1) := by decide +kernel
theorem dX10_drawn_1 : decode cX10_drawn 1 = .ok (.getfield 7, 3) := by decide +kernel
theorem dX10_drawn_4 : decode cX10_drawn 4 = .ok (.iconst 2, 1) := by decide +kernel
theorem dX10_drawn_5 : decode cX10_drawn 5 = .ok (.aload_n 0, 1) := by decide +kernel
theorem dX10_drawn_6 : decode cX10_drawn 6 = .ok (.getfield 7, 3) := by decide +kernel
theorem dX10_drawn_9 : decode cX10_drawn 9 = .ok (.iconst 2, 1) := by decide +kernel
theorem dX10_drawn_10 : decode cX10_drawn 10 = .ok (.iaload, 1) := by decide +kernel
theorem dX10_drawn_11 : decode cX10_drawn 11 = .ok (.sipush 857, 3) := by decide +kernel
theorem dX10_drawn_14 : decode cX10_drawn 14 = .ok (.imul, 1) := by decide +kernel
theorem dX10_drawn_15 : decode cX10_drawn 15 = .ok (.sipush 593, 3) := by decide +kernel
theorem dX10_drawn_18 : decode cX10_drawn 18 = .ok (.iadd, 1) := by decide +kernel
theorem dX10_drawn_19 : decode cX10_drawn 19 = .ok (.sipush 29989, 3) := by decide +kernel
theorem dX10_drawn_22 : decode cX10_drawn 22 = .ok (.irem, 1) := by decide +kernel
theorem dX10_drawn_23 : decode cX10_drawn 23 = .ok (.iastore, 1) := by decide +kernel
theorem dX10_drawn_24 : decode cX10_drawn 24 = .ok (.aload_n 0, 1) := by decide +kernel
theorem dX10_drawn_25 : decode cX10_drawn 25 = .ok (.getfield 7, 3) := by decide +kernel
theorem dX10_drawn_28 : decode cX10_drawn 28 = .ok (.iconst 2, 1) := by decide +kernel
theorem dX10_drawn_29 : decode cX10_drawn 29 = .ok (.iaload, 1) := by decide +kernel
theorem dX10_drawn_30 : decode cX10_drawn 30 = .ok (.ireturn, 1) := by decide +kernel
theorem dX10_walk_0 : decode cX10_walk 0 = .ok (.iload_n 1, 1) := by decide +kernel
theorem dX10_walk_1 : decode cX10_walk 1 = .ok (.invokestatic 84, 3) := by decide +kernel
theorem dX10_walk_4 : decode cX10_walk 4 = .ok (.ifCond .eq 25, 3) := by decide +kernel
theorem dX10_walk_7 : decode cX10_walk 7 = .ok (.iload_n 3, 1) := by decide +kernel
theorem dX10_walk_8 : decode cX10_walk 8 = .ok (.iconst 0, 1) := by decide +kernel
theorem dX10_walk_9 : decode cX10_walk 9 = .ok (.ldc_w 270, 3) := by decide +kernel
theorem dX10_walk_12 : decode cX10_walk 12 = .ok (.invokestatic 65, 3) := by decide +kernel
theorem dX10_walk_15 : decode cX10_walk 15 = .ok (.ifCond .eq 14, 3) := by decide +kernel
theorem dX10_walk_18 : decode cX10_walk 18 = .ok (.iload 4, 2) := by decide +kernel
theorem dX10_walk_20 : decode cX10_walk 20 = .ok (.iconst 1, 1) := by decide +kernel
theorem dX10_walk_21 : decode cX10_walk 21 = .ok (.bipush 48, 2) := by decide +kernel
theorem dX10_walk_23 : decode cX10_walk 23 = .ok (.invokestatic 65, 3) := by decide +kernel
theorem dX10_walk_26 : decode cX10_walk 26 = .ok (.ifCond .ne 5, 3) := by decide +kernel
theorem dX10_walk_29 : decode cX10_walk 29 = .ok (.iconst (-1), 1) := by decide +kernel
theorem dX10_walk_30 : decode cX10_walk 30 = .ok (.ireturn, 1) := by decide +kernel
theorem dX10_walk_31 : decode cX10_walk 31 = .ok (.iload 4, 2) := by decide +kernel
theorem dX10_walk_33 : decode cX10_walk 33 = .ok (.invokestatic 231, 3) := by decide +kernel
theorem dX10_walk_36 : decode cX10_walk 36 = .ok (.istore 5, 2) := by decide +kernel
theorem dX10_walk_38 : decode cX10_walk 38 = .ok (.aload_n 0, 1) := by decide +kernel
theorem dX10_walk_39 : decode cX10_walk 39 = .ok (.iload_n 1, 1) := by decide +kernel
theorem dX10_walk_40 : decode cX10_walk 40 = .ok (.iload 4, 2) := by decide +kernel
theorem dX10_walk_42 : decode cX10_walk 42 = .ok (.iload 5, 2) := by decide +kernel
theorem dX10_walk_44 : decode cX10_walk 44 = .ok (.invokevirtual 194, 3) := by decide +kernel
theorem dX10_walk_47 : decode cX10_walk 47 = .ok (.ifCond .ne 5, 3) := by decide +kernel
theorem dX10_walk_50 : decode cX10_walk 50 = .ok (.iconst (-1), 1) := by decide +kernel
theorem dX10_walk_51 : decode cX10_walk 51 = .ok (.ireturn, 1) := by decide +kernel
theorem dX10_walk_52 : decode cX10_walk 52 = .ok (.aload_n 0, 1) := by decide +kernel
theorem dX10_walk_53 : decode cX10_walk 53 = .ok (.invokevirtual 197, 3) := by decide +kernel
theorem dX10_walk_56 : decode cX10_walk 56 = .ok (.iload_n 2, 1) := by decide +kernel
theorem dX10_walk_57 : decode cX10_walk 57 = .ok (.istore 6, 2) := by decide +kernel
theorem dX10_walk_59 : decode cX10_walk 59 = .ok (.iconst 0, 1) := by decide +kernel
theorem dX10_walk_60 : decode cX10_walk 60 = .ok (.istore 7, 2) := by decide +kernel
theorem dX10_walk_62 : decode cX10_walk 62 = .ok (.iload 7, 2) := by decide +kernel
theorem dX10_walk_64 : decode cX10_walk 64 = .ok (.iload 4, 2) := by decide +kernel
theorem dX10_walk_66 : decode cX10_walk 66 = .ok (.if_icmp .ge 35, 3) := by decide +kernel
theorem dX10_walk_69 : decode cX10_walk 69 = .ok (.iload 6, 2) := by decide +kernel
theorem dX10_walk_71 : decode cX10_walk 71 = .ok (.aload_n 0, 1) := by decide +kernel
theorem dX10_walk_72 : decode cX10_walk 72 = .ok (.invokevirtual 271, 3) := by decide +kernel
theorem dX10_walk_75 : decode cX10_walk 75 = .ok (.iconst 2, 1) := by decide +kernel
theorem dX10_walk_76 : decode cX10_walk 76 = .ok (.iload_n 3, 1) := by decide +kernel
theorem dX10_walk_77 : decode cX10_walk 77 = .ok (.imul, 1) := by decide +kernel
theorem dX10_walk_78 : decode cX10_walk 78 = .ok (.iconst 1, 1) := by decide +kernel
theorem dX10_walk_79 : decode cX10_walk 79 = .ok (.iadd, 1) := by decide +kernel
theorem dX10_walk_80 : decode cX10_walk 80 = .ok (.irem, 1) := by decide +kernel
theorem dX10_walk_81 : decode cX10_walk 81 = .ok (.iload_n 3, 1) := by decide +kernel
theorem dX10_walk_82 : decode cX10_walk 82 = .ok (.isub, 1) := by decide +kernel
theorem dX10_walk_83 : decode cX10_walk 83 = .ok (.iadd, 1) := by decide +kernel
theorem dX10_walk_84 : decode cX10_walk 84 = .ok (.istore 6, 2) := by decide +kernel
theorem dX10_walk_86 : decode cX10_walk 86 = .ok (.aload_n 0, 1) := by decide +kernel
theorem dX10_walk_87 : decode cX10_walk 87 = .ok (.getfield 26, 3) := by decide +kernel
theorem dX10_walk_90 : decode cX10_walk 90 = .ok (.iload 7, 2) := by decide +kernel
theorem dX10_walk_92 : decode cX10_walk 92 = .ok (.iload 6, 2) := by decide +kernel
theorem dX10_walk_94 : decode cX10_walk 94 = .ok (.iastore, 1) := by decide +kernel
theorem dX10_walk_95 : decode cX10_walk 95 = .ok (.iinc 7 1, 3) := by decide +kernel
theorem dX10_walk_98 : decode cX10_walk 98 = .ok (.goto (-36), 3) := by decide +kernel
theorem dX10_walk_101 : decode cX10_walk 101 = .ok (.aload_n 0, 1) := by decide +kernel
theorem dX10_walk_102 : decode cX10_walk 102 = .ok (.iload_n 1, 1) := by decide +kernel
theorem dX10_walk_103 : decode cX10_walk 103 = .ok (.iload 4, 2) := by decide +kernel
theorem dX10_walk_105 : decode cX10_walk 105 = .ok (.invokevirtual 234, 3) := by decide +kernel
theorem dX10_walk_108 : decode cX10_walk 108 = .ok (.iload 5, 2) := by decide +kernel
theorem dX10_walk_110 : decode cX10_walk 110 = .ok (.ireturn, 1) := by decide +kernel
theorem dX10_tell_0 : decode cX10_tell 0 = .ok (.iload_n 1, 1) := by decide +kernel
theorem dX10_tell_1 : decode cX10_tell 1 = .ok (.iconst 0, 1) := by decide +kernel
theorem dX10_tell_2 : decode cX10_tell 2 = .ok (.sipush 29988, 3) := by decide +kernel
theorem dX10_tell_5 : decode cX10_tell 5 = .ok (.invokestatic 65, 3) := by decide +kernel
theorem dX10_tell_8 : decode cX10_tell 8 = .ok (.ifCond .ne 5, 3) := by decide +kernel
theorem dX10_tell_11 : decode cX10_tell 11 = .ok (.iconst 0, 1) := by decide +kernel
theorem dX10_tell_12 : decode cX10_tell 12 = .ok (.ireturn, 1) := by decide +kernel
theorem dX10_tell_13 : decode cX10_tell 13 = .ok (.aload_n 0, 1) := by decide +kernel
theorem dX10_tell_14 : decode cX10_tell 14 = .ok (.getfield 7, 3) := by decide +kernel
theorem dX10_tell_17 : decode cX10_tell 17 = .ok (.iconst 2, 1) := by decide +kernel
theorem dX10_tell_18 : decode cX10_tell 18 = .ok (.iload_n 1, 1) := by decide +kernel
theorem dX10_tell_19 : decode cX10_tell 19 = .ok (.iastore, 1) := by decide +kernel
theorem dX10_tell_20 : decode cX10_tell 20 = .ok (.iconst 1, 1) := by decide +kernel
theorem dX10_tell_21 : decode cX10_tell 21 = .ok (.ireturn, 1) := by decide +kernel
theorem dX10_write_0 : decode cX10_write 0 = .ok (.iconst 0, 1) := by decide +kernel
theorem dX10_write_1 : decode cX10_write 1 = .ok (.istore 4, 2) := by decide +kernel
theorem dX10_write_3 : decode cX10_write 3 = .ok (.iload 4, 2) := by decide +kernel
theorem dX10_write_5 : decode cX10_write 5 = .ok (.iload_n 3, 1) := by decide +kernel
theorem dX10_write_6 : decode cX10_write 6 = .ok (.if_icmp .ge 54, 3) := by decide +kernel
theorem dX10_write_9 : decode cX10_write 9 = .ok (.lload_n 1, 1) := by decide +kernel
theorem dX10_write_10 : decode cX10_write 10 = .ok (.iload 4, 2) := by decide +kernel
theorem dX10_write_12 : decode cX10_write 12 = .ok (.lshr, 1) := by decide +kernel
theorem dX10_write_13 : decode cX10_write 13 = .ok (.lconst 1, 1) := by decide +kernel
theorem dX10_write_14 : decode cX10_write 14 = .ok (.land, 1) := by decide +kernel
theorem dX10_write_15 : decode cX10_write 15 = .ok (.lconst 1, 1) := by decide +kernel
theorem dX10_write_16 : decode cX10_write 16 = .ok (.lcmp, 1) := by decide +kernel
theorem dX10_write_17 : decode cX10_write 17 = .ok (.ifCond .ne 27, 3) := by decide +kernel
theorem dX10_write_20 : decode cX10_write 20 = .ok (.aload_n 0, 1) := by decide +kernel
theorem dX10_write_21 : decode cX10_write 21 = .ok (.getfield 42, 3) := by decide +kernel
theorem dX10_write_24 : decode cX10_write 24 = .ok (.aload_n 0, 1) := by decide +kernel
theorem dX10_write_25 : decode cX10_write 25 = .ok (.getfield 274, 3) := by decide +kernel
theorem dX10_write_28 : decode cX10_write 28 = .ok (.bipush 32, 2) := by decide +kernel
theorem dX10_write_30 : decode cX10_write 30 = .ok (.idiv, 1) := by decide +kernel
theorem dX10_write_31 : decode cX10_write 31 = .ok (.dup2, 1) := by decide +kernel
theorem dX10_write_32 : decode cX10_write 32 = .ok (.iaload, 1) := by decide +kernel
theorem dX10_write_33 : decode cX10_write 33 = .ok (.iconst 1, 1) := by decide +kernel
theorem dX10_write_34 : decode cX10_write 34 = .ok (.aload_n 0, 1) := by decide +kernel
theorem dX10_write_35 : decode cX10_write 35 = .ok (.getfield 274, 3) := by decide +kernel
theorem dX10_write_38 : decode cX10_write 38 = .ok (.bipush 32, 2) := by decide +kernel
theorem dX10_write_40 : decode cX10_write 40 = .ok (.irem, 1) := by decide +kernel
theorem dX10_write_41 : decode cX10_write 41 = .ok (.ishl, 1) := by decide +kernel
theorem dX10_write_42 : decode cX10_write 42 = .ok (.ior, 1) := by decide +kernel
theorem dX10_write_43 : decode cX10_write 43 = .ok (.iastore, 1) := by decide +kernel
theorem dX10_write_44 : decode cX10_write 44 = .ok (.aload_n 0, 1) := by decide +kernel
theorem dX10_write_45 : decode cX10_write 45 = .ok (.dup, 1) := by decide +kernel
theorem dX10_write_46 : decode cX10_write 46 = .ok (.getfield 274, 3) := by decide +kernel
theorem dX10_write_49 : decode cX10_write 49 = .ok (.iconst 1, 1) := by decide +kernel
theorem dX10_write_50 : decode cX10_write 50 = .ok (.iadd, 1) := by decide +kernel
theorem dX10_write_51 : decode cX10_write 51 = .ok (.putfield 274, 3) := by decide +kernel
theorem dX10_write_54 : decode cX10_write 54 = .ok (.iinc 4 1, 3) := by decide +kernel
theorem dX10_write_57 : decode cX10_write 57 = .ok (.goto (-54), 3) := by decide +kernel
theorem dX10_write_60 : decode cX10_write 60 = .ok (.return_, 1) := by decide +kernel
theorem dX10_layWords_0 : decode cX10_layWords 0 = .ok (.aload_n 0, 1) := by decide +kernel
theorem dX10_layWords_1 : decode cX10_layWords 1 = .ok (.iload_n 1, 1) := by decide +kernel
theorem dX10_layWords_2 : decode cX10_layWords 2 = .ok (.iload_n 2, 1) := by decide +kernel
theorem dX10_layWords_3 : decode cX10_layWords 3 = .ok (.iconst 1, 1) := by decide +kernel
theorem dX10_layWords_4 : decode cX10_layWords 4 = .ok (.invokevirtual 73, 3) := by decide +kernel
theorem dX10_layWords_7 : decode cX10_layWords 7 = .ok (.istore_n 3, 1) := by decide +kernel
theorem dX10_layWords_8 : decode cX10_layWords 8 = .ok (.aload_n 0, 1) := by decide +kernel
theorem dX10_layWords_9 : decode cX10_layWords 9 = .ok (.iload_n 1, 1) := by decide +kernel
theorem dX10_layWords_10 : decode cX10_layWords 10 = .ok (.iload_n 2, 1) := by decide +kernel
theorem dX10_layWords_11 : decode cX10_layWords 11 = .ok (.iconst 2, 1) := by decide +kernel
theorem dX10_layWords_12 : decode cX10_layWords 12 = .ok (.invokevirtual 73, 3) := by decide +kernel
theorem dX10_layWords_15 : decode cX10_layWords 15 = .ok (.istore 4, 2) := by decide +kernel
theorem dX10_layWords_17 : decode cX10_layWords 17 = .ok (.aload_n 0, 1) := by decide +kernel
theorem dX10_layWords_18 : decode cX10_layWords 18 = .ok (.iload_n 1, 1) := by decide +kernel
theorem dX10_layWords_19 : decode cX10_layWords 19 = .ok (.iload_n 2, 1) := by decide +kernel
theorem dX10_layWords_20 : decode cX10_layWords 20 = .ok (.invokevirtual 277, 3) := by decide +kernel
theorem dX10_layWords_23 : decode cX10_layWords 23 = .ok (.istore 5, 2) := by decide +kernel
theorem dX10_layWords_25 : decode cX10_layWords 25 = .ok (.aload_n 0, 1) := by decide +kernel
theorem dX10_layWords_26 : decode cX10_layWords 26 = .ok (.iload_n 1, 1) := by decide +kernel
theorem dX10_layWords_27 : decode cX10_layWords 27 = .ok (.iload_n 2, 1) := by decide +kernel
theorem dX10_layWords_28 : decode cX10_layWords 28 = .ok (.invokevirtual 174, 3) := by decide +kernel
theorem dX10_layWords_31 : decode cX10_layWords 31 = .ok (.iconst 0, 1) := by decide +kernel
theorem dX10_layWords_32 : decode cX10_layWords 32 = .ok (.istore 6, 2) := by decide +kernel
theorem dX10_layWords_34 : decode cX10_layWords 34 = .ok (.iload 6, 2) := by decide +kernel
theorem dX10_layWords_36 : decode cX10_layWords 36 = .ok (.bipush 24, 2) := by decide +kernel
theorem dX10_layWords_38 : decode cX10_layWords 38 = .ok (.if_icmp .ge 17, 3) := by decide +kernel
theorem dX10_layWords_41 : decode cX10_layWords 41 = .ok (.aload_n 0, 1) := by decide +kernel
theorem dX10_layWords_42 : decode cX10_layWords 42 = .ok (.getfield 42, 3) := by decide +kernel
theorem dX10_layWords_45 : decode cX10_layWords 45 = .ok (.iload 6, 2) := by decide +kernel
theorem dX10_layWords_47 : decode cX10_layWords 47 = .ok (.iconst 0, 1) := by decide +kernel
theorem dX10_layWords_48 : decode cX10_layWords 48 = .ok (.iastore, 1) := by decide +kernel
theorem dX10_layWords_49 : decode cX10_layWords 49 = .ok (.iinc 6 1, 3) := by decide +kernel
theorem dX10_layWords_52 : decode cX10_layWords 52 = .ok (.goto (-18), 3) := by decide +kernel
theorem dX10_layWords_55 : decode cX10_layWords 55 = .ok (.aload_n 0, 1) := by decide +kernel
theorem dX10_layWords_56 : decode cX10_layWords 56 = .ok (.iconst 0, 1) := by decide +kernel
theorem dX10_layWords_57 : decode cX10_layWords 57 = .ok (.putfield 274, 3) := by decide +kernel
theorem dX10_layWords_60 : decode cX10_layWords 60 = .ok (.aload_n 0, 1) := by decide +kernel
theorem dX10_layWords_61 : decode cX10_layWords 61 = .ok (.aload_n 0, 1) := by decide +kernel
theorem dX10_layWords_62 : decode cX10_layWords 62 = .ok (.getfield 91, 3) := by decide +kernel
theorem dX10_layWords_65 : decode cX10_layWords 65 = .ok (.iconst 1, 1) := by decide +kernel
theorem dX10_layWords_66 : decode cX10_layWords 66 = .ok (.isub, 1) := by decide +kernel
theorem dX10_layWords_67 : decode cX10_layWords 67 = .ok (.i2l, 1) := by decide +kernel

