theorem dX10_init_0 : decode cX10_init 0 = .ok (.aload_n 0, 1) := by decide +kernel
theorem dX10_init_1 : decode cX10_init 1 = .ok (.invokespecial 1, 3) := by decide +kernel
theorem dX10_init_4 : decode cX10_init 4 = .ok (.aload_n 0, 1) := by decide +kernel
theorem dX10_init_5 : decode cX10_init 5 = .ok (.sipush 22955, 3) := by decide +kernel
theorem dX10_init_8 : decode cX10_init 8 = .ok (.newarray .int, 2) := by decide +kernel
theorem dX10_init_10 : decode cX10_init 10 = .ok (.putfield 7, 3) := by decide +kernel
theorem dX10_init_13 : decode cX10_init 13 = .ok (.aload_n 0, 1) := by decide +kernel
theorem dX10_init_14 : decode cX10_init 14 = .ok (.sipush 22955, 3) := by decide +kernel
theorem dX10_init_17 : decode cX10_init 17 = .ok (.newarray .int, 2) := by decide +kernel
theorem dX10_init_19 : decode cX10_init 19 = .ok (.putfield 13, 3) := by decide +kernel
theorem dX10_init_22 : decode cX10_init 22 = .ok (.aload_n 0, 1) := by decide +kernel
theorem dX10_init_23 : decode cX10_init 23 = .ok (.bipush 16, 2) := by decide +kernel
theorem dX10_init_25 : decode cX10_init 25 = .ok (.newarray .int, 2) := by decide +kernel
theorem dX10_init_27 : decode cX10_init 27 = .ok (.putfield 16, 3) := by decide +kernel
theorem dX10_init_30 : decode cX10_init 30 = .ok (.aload_n 0, 1) := by decide +kernel
theorem dX10_init_31 : decode cX10_init 31 = .ok (.bipush 16, 2) := by decide +kernel
theorem dX10_init_33 : decode cX10_init 33 = .ok (.newarray .long, 2) := by decide +kernel
theorem dX10_init_35 : decode cX10_init 35 = .ok (.putfield 19, 3) := by decide +kernel
theorem dX10_init_38 : decode cX10_init 38 = .ok (.aload_n 0, 1) := by decide +kernel
theorem dX10_init_39 : decode cX10_init 39 = .ok (.sipush 1093, 3) := by decide +kernel
theorem dX10_init_42 : decode cX10_init 42 = .ok (.newarray .int, 2) := by decide +kernel
theorem dX10_init_44 : decode cX10_init 44 = .ok (.putfield 23, 3) := by decide +kernel
theorem dX10_init_47 : decode cX10_init 47 = .ok (.aload_n 0, 1) := by decide +kernel
theorem dX10_init_48 : decode cX10_init 48 = .ok (.sipush 256, 3) := by decide +kernel
theorem dX10_init_51 : decode cX10_init 51 = .ok (.newarray .int, 2) := by decide +kernel
theorem dX10_init_53 : decode cX10_init 53 = .ok (.putfield 26, 3) := by decide +kernel
theorem dX10_init_56 : decode cX10_init 56 = .ok (.aload_n 0, 1) := by decide +kernel
theorem dX10_init_57 : decode cX10_init 57 = .ok (.sipush 256, 3) := by decide +kernel
theorem dX10_init_60 : decode cX10_init 60 = .ok (.newarray .boolean, 2) := by decide +kernel
theorem dX10_init_62 : decode cX10_init 62 = .ok (.putfield 29, 3) := by decide +kernel
theorem dX10_init_65 : decode cX10_init 65 = .ok (.aload_n 0, 1) := by decide +kernel
theorem dX10_init_66 : decode cX10_init 66 = .ok (.sipush 2176, 3) := by decide +kernel
theorem dX10_init_69 : decode cX10_init 69 = .ok (.newarray .int, 2) := by decide +kernel
theorem dX10_init_71 : decode cX10_init 71 = .ok (.putfield 33, 3) := by decide +kernel
theorem dX10_init_74 : decode cX10_init 74 = .ok (.aload_n 0, 1) := by decide +kernel
theorem dX10_init_75 : decode cX10_init 75 = .ok (.sipush 3225, 3) := by decide +kernel
theorem dX10_init_78 : decode cX10_init 78 = .ok (.newarray .int, 2) := by decide +kernel
theorem dX10_init_80 : decode cX10_init 80 = .ok (.putfield 36, 3) := by decide +kernel
theorem dX10_init_83 : decode cX10_init 83 = .ok (.aload_n 0, 1) := by decide +kernel
theorem dX10_init_84 : decode cX10_init 84 = .ok (.bipush 24, 2) := by decide +kernel
theorem dX10_init_86 : decode cX10_init 86 = .ok (.newarray .int, 2) := by decide +kernel
theorem dX10_init_88 : decode cX10_init 88 = .ok (.putfield 39, 3) := by decide +kernel
theorem dX10_init_91 : decode cX10_init 91 = .ok (.aload_n 0, 1) := by decide +kernel
theorem dX10_init_92 : decode cX10_init 92 = .ok (.bipush 24, 2) := by decide +kernel
theorem dX10_init_94 : decode cX10_init 94 = .ok (.newarray .int, 2) := by decide +kernel
theorem dX10_init_96 : decode cX10_init 96 = .ok (.putfield 42, 3) := by decide +kernel
theorem dX10_init_99 : decode cX10_init 99 = .ok (.aload_n 0, 1) := by decide +kernel
theorem dX10_init_100 : decode cX10_init 100 = .ok (.sipush 400, 3) := by decide +kernel
theorem dX10_init_103 : decode cX10_init 103 = .ok (.newarray .int, 2) := by decide +kernel
theorem dX10_init_105 : decode cX10_init 105 = .ok (.putfield 45, 3) := by decide +kernel
theorem dX10_init_108 : decode cX10_init 108 = .ok (.aload_n 0, 1) := by decide +kernel
theorem dX10_init_109 : decode cX10_init 109 = .ok (.sipush 353, 3) := by decide +kernel
theorem dX10_init_112 : decode cX10_init 112 = .ok (.newarray .int, 2) := by decide +kernel
theorem dX10_init_114 : decode cX10_init 114 = .ok (.putfield 48, 3) := by decide +kernel
theorem dX10_init_117 : decode cX10_init 117 = .ok (.aload_n 0, 1) := by decide +kernel
theorem dX10_init_118 : decode cX10_init 118 = .ok (.iconst (-1), 1) := by decide +kernel
theorem dX10_init_119 : decode cX10_init 119 = .ok (.putfield 51, 3) := by decide +kernel
theorem dX10_init_122 : decode cX10_init 122 = .ok (.aload_n 0, 1) := by decide +kernel
theorem dX10_init_123 : decode cX10_init 123 = .ok (.iconst (-1), 1) := by decide +kernel
theorem dX10_init_124 : decode cX10_init 124 = .ok (.putfield 55, 3) := by decide +kernel
theorem dX10_init_127 : decode cX10_init 127 = .ok (.aload_n 0, 1) := by decide +kernel
theorem dX10_init_128 : decode cX10_init 128 = .ok (.bipush 24, 2) := by decide +kernel
theorem dX10_init_130 : decode cX10_init 130 = .ok (.newarray .int, 2) := by decide +kernel
theorem dX10_init_132 : decode cX10_init 132 = .ok (.putfield 58, 3) := by decide +kernel
theorem dX10_init_135 : decode cX10_init 135 = .ok (.aload_n 0, 1) := by decide +kernel
theorem dX10_init_136 : decode cX10_init 136 = .ok (.getfield 7, 3) := by decide +kernel
theorem dX10_init_139 : decode cX10_init 139 = .ok (.iconst 2, 1) := by decide +kernel
theorem dX10_init_140 : decode cX10_init 140 = .ok (.sipush 647, 3) := by decide +kernel
theorem dX10_init_143 : decode cX10_init 143 = .ok (.iastore, 1) := by decide +kernel
theorem dX10_init_144 : decode cX10_init 144 = .ok (.aload_n 0, 1) := by decide +kernel
theorem dX10_init_145 : decode cX10_init 145 = .ok (.getfield 7, 3) := by decide +kernel
theorem dX10_init_148 : decode cX10_init 148 = .ok (.aload_n 0, 1) := by decide +kernel
theorem dX10_init_149 : decode cX10_init 149 = .ok (.getfield 13, 3) := by decide +kernel
theorem dX10_init_152 : decode cX10_init 152 = .ok (.invokestatic 61, 3) := by decide +kernel
theorem dX10_init_155 : decode cX10_init 155 = .ok (.return_, 1) := by decide +kernel
theorem dX10_copyAll_0 : decode cX10_copyAll 0 = .ok (.iconst 0, 1) := by decide +kernel
theorem dX10_copyAll_1 : decode cX10_copyAll 1 = .ok (.istore_n 2, 1) := by decide +kernel
theorem dX10_copyAll_2 : decode cX10_copyAll 2 = .ok (.iload_n 2, 1) := by decide +kernel
theorem dX10_copyAll_3 : decode cX10_copyAll 3 = .ok (.sipush 22955, 3) := by decide +kernel
theorem dX10_copyAll_6 : decode cX10_copyAll 6 = .ok (.if_icmp .ge 15, 3) := by decide +kernel
theorem dX10_copyAll_9 : decode cX10_copyAll 9 = .ok (.aload_n 1, 1) := by decide +kernel
theorem dX10_copyAll_10 : decode cX10_copyAll 10 = .ok (.iload_n 2, 1) := by decide +kernel
theorem dX10_copyAll_11 : decode cX10_copyAll 11 = .ok (.aload_n 0, 1) := by decide +kernel
theorem dX10_copyAll_12 : decode cX10_copyAll 12 = .ok (.iload_n 2, 1) := by decide +kernel
theorem dX10_copyAll_13 : decode cX10_copyAll 13 = .ok (.iaload, 1) := by decide +kernel
theorem dX10_copyAll_14 : decode cX10_copyAll 14 = .ok (.iastore, 1) := by decide +kernel
theorem dX10_copyAll_15 : decode cX10_copyAll 15 = .ok (.iinc 2 1, 3) := by decide +kernel
theorem dX10_copyAll_18 : decode cX10_copyAll 18 = .ok (.goto (-16), 3) := by decide +kernel
theorem dX10_copyAll_21 : decode cX10_copyAll 21 = .ok (.return_, 1) := by decide +kernel
theorem dX10_isIn_0 : decode cX10_isIn 0 = .ok (.iload_n 0, 1) := by decide +kernel
theorem dX10_isIn_1 : decode cX10_isIn 1 = .ok (.iload_n 1, 1) := by decide +kernel
theorem dX10_isIn_2 : decode cX10_isIn 2 = .ok (.if_icmp .lt 12, 3) := by decide +kernel
theorem dX10_isIn_5 : decode cX10_isIn 5 = .ok (.iload_n 0, 1) := by decide +kernel
theorem dX10_isIn_6 : decode cX10_isIn 6 = .ok (.iload_n 2, 1) := by decide +kernel
theorem dX10_isIn_7 : decode cX10_isIn 7 = .ok (.if_icmp .gt 7, 3) := by decide +kernel
theorem dX10_isIn_10 : decode cX10_isIn 10 = .ok (.iconst 1, 1) := by decide +kernel
theorem dX10_isIn_11 : decode cX10_isIn 11 = .ok (.goto 4, 3) := by decide +kernel
theorem dX10_isIn_14 : decode cX10_isIn 14 = .ok (.iconst 0, 1) := by decide +kernel
theorem dX10_isIn_15 : decode cX10_isIn 15 = .ok (.ireturn, 1) := by decide +kernel
theorem dX10_isColumn_0 : decode cX10_isColumn 0 = .ok (.iload_n 0, 1) := by decide +kernel
theorem dX10_isColumn_1 : decode cX10_isColumn 1 = .ok (.iconst 0, 1) := by decide +kernel
theorem dX10_isColumn_2 : decode cX10_isColumn 2 = .ok (.iconst 2, 1) := by decide +kernel
theorem dX10_isColumn_3 : decode cX10_isColumn 3 = .ok (.invokestatic 65, 3) := by decide +kernel
theorem dX10_isColumn_6 : decode cX10_isColumn 6 = .ok (.ireturn, 1) := by decide +kernel
theorem dX10_at_0 : decode cX10_at 0 = .ok (.bipush 36, 2) := by decide +kernel
theorem dX10_at_2 : decode cX10_at 2 = .ok (.sipush 353, 3) := by decide +kernel
theorem dX10_at_5 : decode cX10_at 5 = .ok (.iload_n 0, 1) := by decide +kernel
theorem dX10_at_6 : decode cX10_at 6 = .ok (.imul, 1) := by decide +kernel
theorem dX10_at_7 : decode cX10_at 7 = .ok (.iadd, 1) := by decide +kernel
theorem dX10_at_8 : decode cX10_at 8 = .ok (.ireturn, 1) := by decide +kernel
theorem dX10_blocks_0 : decode cX10_blocks 0 = .ok (.aload_n 0, 1) := by decide +kernel
theorem dX10_blocks_1 : decode cX10_blocks 1 = .ok (.getfield 7, 3) := by decide +kernel
theorem dX10_blocks_4 : decode cX10_blocks 4 = .ok (.iload_n 1, 1) := by decide +kernel
theorem dX10_blocks_5 : decode cX10_blocks 5 = .ok (.invokestatic 69, 3) := by decide +kernel
theorem dX10_blocks_8 : decode cX10_blocks 8 = .ok (.iaload, 1) := by decide +kernel
theorem dX10_blocks_9 : decode cX10_blocks 9 = .ok (.ireturn, 1) := by decide +kernel
theorem dX10_ofBlock_0 : decode cX10_ofBlock 0 = .ok (.aload_n 0, 1) := by decide +kernel
theorem dX10_ofBlock_1 : decode cX10_ofBlock 1 = .ok (.getfield 7, 3) := by decide +kernel
theorem dX10_ofBlock_4 : decode cX10_ofBlock 4 = .ok (.iload_n 1, 1) := by decide +kernel
theorem dX10_ofBlock_5 : decode cX10_ofBlock 5 = .ok (.invokestatic 69, 3) := by decide +kernel
theorem dX10_ofBlock_8 : decode cX10_ofBlock 8 = .ok (.iconst 1, 1) := by decide +kernel
theorem dX10_ofBlock_9 : decode cX10_ofBlock 9 = .ok (.iadd, 1) := by decide +kernel
theorem dX10_ofBlock_10 : decode cX10_ofBlock 10 = .ok (.iconst 4, 1) := by decide +kernel
theorem dX10_ofBlock_11 : decode cX10_ofBlock 11 = .ok (.iload_n 2, 1) := by decide +kernel
theorem dX10_ofBlock_12 : decode cX10_ofBlock 12 = .ok (.imul, 1) := by decide +kernel
theorem dX10_ofBlock_13 : decode cX10_ofBlock 13 = .ok (.iadd, 1) := by decide +kernel
theorem dX10_ofBlock_14 : decode cX10_ofBlock 14 = .ok (.iload_n 3, 1) := by decide +kernel
theorem dX10_ofBlock_15 : decode cX10_ofBlock 15 = .ok (.iadd, 1) := by decide +kernel
theorem dX10_ofBlock_16 : decode cX10_ofBlock 16 = .ok (.iaload, 1) := by decide +kernel
theorem dX10_ofBlock_17 : decode cX10_ofBlock 17 = .ok (.ireturn, 1) := by decide +kernel
theorem dX10_putBlock_0 : decode cX10_putBlock 0 = .ok (.aload_n 0, 1) := by decide +kernel
theorem dX10_putBlock_1 : decode cX10_putBlock 1 = .ok (.getfield 7, 3) := by decide +kernel
theorem dX10_putBlock_4 : decode cX10_putBlock 4 = .ok (.iload_n 1, 1) := by decide +kernel
theorem dX10_putBlock_5 : decode cX10_putBlock 5 = .ok (.invokestatic 69, 3) := by decide +kernel
theorem dX10_putBlock_8 : decode cX10_putBlock 8 = .ok (.iconst 1, 1) := by decide +kernel
theorem dX10_putBlock_9 : decode cX10_putBlock 9 = .ok (.iadd, 1) := by decide +kernel
theorem dX10_putBlock_10 : decode cX10_putBlock 10 = .ok (.iconst 4, 1) := by decide +kernel
theorem dX10_putBlock_11 : decode cX10_putBlock 11 = .ok (.iload_n 2, 1) := by decide +kernel
theorem dX10_putBlock_12 : decode cX10_putBlock 12 = .ok (.imul, 1) := by decide +kernel
theorem dX10_putBlock_13 : decode cX10_putBlock 13 = .ok (.iadd, 1) := by decide +kernel
theorem dX10_putBlock_14 : decode cX10_putBlock 14 = .ok (.iload_n 3, 1) := by decide +kernel
theorem dX10_putBlock_15 : decode cX10_putBlock 15 = .ok (.iadd, 1) := by decide +kernel
theorem dX10_putBlock_16 : decode cX10_putBlock 16 = .ok (.iload 4, 2) := by decide +kernel
theorem dX10_putBlock_18 : decode cX10_putBlock 18 = .ok (.iastore, 1) := by decide +kernel
theorem dX10_putBlock_19 : decode cX10_putBlock 19 = .ok (.return_, 1) := by decide +kernel
theorem dX10_firstOf_0 : decode cX10_firstOf 0 = .ok (.iconst 0, 1) := by decide +kernel
theorem dX10_firstOf_1 : decode cX10_firstOf 1 = .ok (.istore_n 3, 1) := by decide +kernel
theorem dX10_firstOf_2 : decode cX10_firstOf 2 = .ok (.iconst 0, 1) := by decide +kernel
theorem dX10_firstOf_3 : decode cX10_firstOf 3 = .ok (.istore 4, 2) := by decide +kernel
theorem dX10_firstOf_5 : decode cX10_firstOf 5 = .ok (.iload 4, 2) := by decide +kernel
theorem dX10_firstOf_7 : decode cX10_firstOf 7 = .ok (.iload_n 2, 1) := by decide +kernel
theorem dX10_firstOf_8 : decode cX10_firstOf 8 = .ok (.if_icmp .ge 20, 3) := by decide +kernel
theorem dX10_firstOf_11 : decode cX10_firstOf 11 = .ok (.iload_n 3, 1) := by decide +kernel
theorem dX10_firstOf_12 : decode cX10_firstOf 12 = .ok (.aload_n 0, 1) := by decide +kernel
theorem dX10_firstOf_13 : decode cX10_firstOf 13 = .ok (.iload_n 1, 1) := by decide +kernel
theorem dX10_firstOf_14 : decode cX10_firstOf 14 = .ok (.iload 4, 2) := by decide +kernel
theorem dX10_firstOf_16 : decode cX10_firstOf 16 = .ok (.iconst 0, 1) := by decide +kernel
theorem dX10_firstOf_17 : decode cX10_firstOf 17 = .ok (.invokevirtual 73, 3) := by decide +kernel
theorem dX10_firstOf_20 : decode cX10_firstOf 20 = .ok (.iadd, 1) := by decide +kernel
theorem dX10_firstOf_21 : decode cX10_firstOf 21 = .ok (.istore_n 3, 1) := by decide +kernel
theorem dX10_firstOf_22 : decode cX10_firstOf 22 = .ok (.iinc 4 1, 3) := by decide +kernel
theorem dX10_firstOf_25 : decode cX10_firstOf 25 = .ok (.goto (-20), 3) := by decide +kernel
theorem dX10_firstOf_28 : decode cX10_firstOf 28 = .ok (.iload_n 3, 1) := by decide +kernel
theorem dX10_firstOf_29 : decode cX10_firstOf 29 = .ok (.ireturn, 1) := by decide +kernel
theorem dX10_places_0 : decode cX10_places 0 = .ok (.aload_n 0, 1) := by decide +kernel
theorem dX10_places_1 : decode cX10_places 1 = .ok (.iload_n 1, 1) := by decide +kernel
theorem dX10_places_2 : decode cX10_places 2 = .ok (.aload_n 0, 1) := by decide +kernel
theorem dX10_places_3 : decode cX10_places 3 = .ok (.iload_n 1, 1) := by decide +kernel
theorem dX10_places_4 : decode cX10_places 4 = .ok (.invokevirtual 77, 3) := by decide +kernel
theorem dX10_places_7 : decode cX10_places 7 = .ok (.invokevirtual 80, 3) := by decide +kernel
theorem dX10_places_10 : decode cX10_places 10 = .ok (.ireturn, 1) := by decide +kernel
theorem dX10_isPlace_0 : decode cX10_isPlace 0 = .ok (.iload_n 1, 1) := by decide +kernel
theorem dX10_isPlace_1 : decode cX10_isPlace 1 = .ok (.invokestatic 84, 3) := by decide +kernel
theorem dX10_isPlace_4 : decode cX10_isPlace 4 = .ok (.ifCond .eq 22, 3) := by decide +kernel
theorem dX10_isPlace_7 : decode cX10_isPlace 7 = .ok (.iload_n 2, 1) := by decide +kernel
theorem dX10_isPlace_8 : decode cX10_isPlace 8 = .ok (.iconst 0, 1) := by decide +kernel
theorem dX10_isPlace_9 : decode cX10_isPlace 9 = .ok (.aload_n 0, 1) := by decide +kernel
theorem dX10_isPlace_10 : decode cX10_isPlace 10 = .ok (.iload_n 1, 1) := by decide +kernel
theorem dX10_isPlace_11 : decode cX10_isPlace 11 = .ok (.invokevirtual 88, 3) := by decide +kernel
theorem dX10_isPlace_14 : decode cX10_isPlace 14 = .ok (.iconst 1, 1) := by decide +kernel
theorem dX10_isPlace_15 : decode cX10_isPlace 15 = .ok (.isub, 1) := by decide +kernel
theorem dX10_isPlace_16 : decode cX10_isPlace 16 = .ok (.invokestatic 65, 3) := by decide +kernel
theorem dX10_isPlace_19 : decode cX10_isPlace 19 = .ok (.ifCond .eq 7, 3) := by decide +kernel
theorem dX10_isPlace_22 : decode cX10_isPlace 22 = .ok (.iconst 1, 1) := by decide +kernel
theorem dX10_isPlace_23 : decode cX10_isPlace 23 = .ok (.goto 4, 3) := by decide +kernel
theorem dX10_isPlace_26 : decode cX10_isPlace 26 = .ok (.iconst 0, 1) := by decide +kernel
theorem dX10_isPlace_27 : decode cX10_isPlace 27 = .ok (.ireturn, 1) := by decide +kernel
theorem dX10_isBlock_0 : decode cX10_isBlock 0 = .ok (.iload_n 1, 1) := by decide +kernel
theorem dX10_isBlock_1 : decode cX10_isBlock 1 = .ok (.invokestatic 84, 3) := by decide +kernel
theorem dX10_isBlock_4 : decode cX10_isBlock 4 = .ok (.ifCond .eq 22, 3) := by decide +kernel
theorem dX10_isBlock_7 : decode cX10_isBlock 7 = .ok (.iload_n 2, 1) := by decide +kernel
theorem dX10_isBlock_8 : decode cX10_isBlock 8 = .ok (.iconst 0, 1) := by decide +kernel
theorem dX10_isBlock_9 : decode cX10_isBlock 9 = .ok (.aload_n 0, 1) := by decide +kernel
theorem dX10_isBlock_10 : decode cX10_isBlock 10 = .ok (.iload_n 1, 1) := by decide +kernel
theorem dX10_isBlock_11 : decode cX10_isBlock 11 = .ok (.invokevirtual 77, 3) := by decide +kernel
theorem dX10_isBlock_14 : decode cX10_isBlock 14 = .ok (.iconst 1, 1) := by decide +kernel
theorem dX10_isBlock_15 : decode cX10_isBlock 15 = .ok (.isub, 1) := by decide +kernel
theorem dX10_isBlock_16 : decode cX10_isBlock 16 = .ok (.invokestatic 65, 3) := by decide +kernel
theorem dX10_isBlock_19 : decode cX10_isBlock 19 = .ok (.ifCond .eq 7, 3) := by decide +kernel
theorem dX10_isBlock_22 : decode cX10_isBlock 22 = .ok (.iconst 1, 1) := by decide +kernel
theorem dX10_isBlock_23 : decode cX10_isBlock 23 = .ok (.goto 4, 3) := by decide +kernel
theorem dX10_isBlock_26 : decode cX10_isBlock 26 = .ok (.iconst 0, 1) := by decide +kernel
theorem dX10_isBlock_27 : decode cX10_isBlock 27 = .ok (.ireturn, 1) := by decide +kernel
theorem dX10_valueAt_0 : decode cX10_valueAt 0 = .ok (.aload_n 0, 1) := by decide +kernel
theorem dX10_valueAt_1 : decode cX10_valueAt 1 = .ok (.getfield 7, 3) := by decide +kernel
theorem dX10_valueAt_4 : decode cX10_valueAt 4 = .ok (.iload_n 1, 1) := by decide +kernel
theorem dX10_valueAt_5 : decode cX10_valueAt 5 = .ok (.invokestatic 69, 3) := by decide +kernel
theorem dX10_valueAt_8 : decode cX10_valueAt 8 = .ok (.bipush 97, 2) := by decide +kernel
theorem dX10_valueAt_10 : decode cX10_valueAt 10 = .ok (.iadd, 1) := by decide +kernel
theorem dX10_valueAt_11 : decode cX10_valueAt 11 = .ok (.iload_n 2, 1) := by decide +kernel
theorem dX10_valueAt_12 : decode cX10_valueAt 12 = .ok (.iadd, 1) := by decide +kernel
theorem dX10_valueAt_13 : decode cX10_valueAt 13 = .ok (.iaload, 1) := by decide +kernel
theorem dX10_valueAt_14 : decode cX10_valueAt 14 = .ok (.ireturn, 1) := by decide +kernel
theorem dX10_isEmpty_0 : decode cX10_isEmpty 0 = .ok (.aload_n 0, 1) := by decide +kernel
theorem dX10_isEmpty_1 : decode cX10_isEmpty 1 = .ok (.getfield 7, 3) := by decide +kernel
theorem dX10_isEmpty_4 : decode cX10_isEmpty 4 = .ok (.iload_n 1, 1) := by decide +kernel
theorem dX10_isEmpty_5 : decode cX10_isEmpty 5 = .ok (.invokestatic 69, 3) := by decide +kernel
theorem dX10_isEmpty_8 : decode cX10_isEmpty 8 = .ok (.sipush 225, 3) := by decide +kernel
theorem dX10_isEmpty_11 : decode cX10_isEmpty 11 = .ok (.iadd, 1) := by decide +kernel
theorem dX10_isEmpty_12 : decode cX10_isEmpty 12 = .ok (.iload_n 2, 1) := by decide +kernel
theorem dX10_isEmpty_13 : decode cX10_isEmpty 13 = .ok (.iadd, 1) := by decide +kernel
theorem dX10_isEmpty_14 : decode cX10_isEmpty 14 = .ok (.iaload, 1) := by decide +kernel
theorem dX10_isEmpty_15 : decode cX10_isEmpty 15 = .ok (.iconst 1, 1) := by decide +kernel
theorem dX10_isEmpty_16 : decode cX10_isEmpty 16 = .ok (.if_icmp .ne 7, 3) := by decide +kernel
theorem dX10_isEmpty_19 : decode cX10_isEmpty 19 = .ok (.iconst 1, 1) := by decide +kernel
theorem dX10_isEmpty_20 : decode cX10_isEmpty 20 = .ok (.goto 4, 3) := by decide +kernel
theorem dX10_isEmpty_23 : decode cX10_isEmpty 23 = .ok (.iconst 0, 1) := by decide +kernel
theorem dX10_isEmpty_24 : decode cX10_isEmpty 24 = .ok (.ireturn, 1) := by decide +kernel
theorem dX10_putPlace_0 : decode cX10_putPlace 0 = .ok (.aload_n 0, 1) := by decide +kernel
theorem dX10_putPlace_1 : decode cX10_putPlace 1 = .ok (.getfield 7, 3) := by decide +kernel
theorem dX10_putPlace_4 : decode cX10_putPlace 4 = .ok (.iload_n 1, 1) := by decide +kernel
theorem dX10_putPlace_5 : decode cX10_putPlace 5 = .ok (.invokestatic 69, 3) := by decide +kernel
theorem dX10_putPlace_8 : decode cX10_putPlace 8 = .ok (.bipush 97, 2) := by decide +kernel
theorem dX10_putPlace_10 : decode cX10_putPlace 10 = .ok (.iadd, 1) := by decide +kernel
theorem dX10_putPlace_11 : decode cX10_putPlace 11 = .ok (.iload_n 2, 1) := by decide +kernel
theorem dX10_putPlace_12 : decode cX10_putPlace 12 = .ok (.iadd, 1) := by decide +kernel
theorem dX10_putPlace_13 : decode cX10_putPlace 13 = .ok (.iload 4, 2) := by decide +kernel
theorem dX10_putPlace_15 : decode cX10_putPlace 15 = .ok (.ifCond .eq 7, 3) := by decide +kernel
theorem dX10_putPlace_18 : decode cX10_putPlace 18 = .ok (.iconst 0, 1) := by decide +kernel
theorem dX10_putPlace_19 : decode cX10_putPlace 19 = .ok (.goto 4, 3) := by decide +kernel
theorem dX10_putPlace_22 : decode cX10_putPlace 22 = .ok (.iload_n 3, 1) := by decide +kernel
theorem dX10_putPlace_23 : decode cX10_putPlace 23 = .ok (.iastore, 1) := by decide +kernel
theorem dX10_putPlace_24 : decode cX10_putPlace 24 = .ok (.aload_n 0, 1) := by decide +kernel
theorem dX10_putPlace_25 : decode cX10_putPlace 25 = .ok (.getfield 7, 3) := by decide +kernel
theorem dX10_putPlace_28 : decode cX10_putPlace 28 = .ok (.iload_n 1, 1) := by decide +kernel
theorem dX10_putPlace_29 : decode cX10_putPlace 29 = .ok (.invokestatic 69, 3) := by decide +kernel
theorem dX10_putPlace_32 : decode cX10_putPlace 32 = .ok (.sipush 225, 3) := by decide +kernel
theorem dX10_putPlace_35 : decode cX10_putPlace 35 = .ok (.iadd, 1) := by decide +kernel
theorem dX10_putPlace_36 : decode cX10_putPlace 36 = .ok (.iload_n 2, 1) := by decide +kernel
theorem dX10_putPlace_37 : decode cX10_putPlace 37 = .ok (.iadd, 1) := by decide +kernel
theorem dX10_putPlace_38 : decode cX10_putPlace 38 = .ok (.iload 4, 2) := by decide +kernel
theorem dX10_putPlace_40 : decode cX10_putPlace 40 = .ok (.ifCond .eq 7, 3) := by decide +kernel
theorem dX10_putPlace_43 : decode cX10_putPlace 43 = .ok (.iconst 1, 1) := by decide +kernel
theorem dX10_putPlace_44 : decode cX10_putPlace 44 = .ok (.goto 4, 3) := by decide +kernel
theorem dX10_putPlace_47 : decode cX10_putPlace 47 = .ok (.iconst 0, 1) := by decide +kernel
theorem dX10_putPlace_48 : decode cX10_putPlace 48 = .ok (.iastore, 1) := by decide +kernel
theorem dX10_putPlace_49 : decode cX10_putPlace 49 = .ok (.return_, 1) := by decide +kernel
theorem dX10_blockWith_0 : decode cX10_blockWith 0 = .ok (.iconst 0, 1) := by decide +kernel
theorem dX10_blockWith_1 : decode cX10_blockWith 1 = .ok (.istore_n 3, 1) := by decide +kernel
theorem dX10_blockWith_2 : decode cX10_blockWith 2 = .ok (.aload_n 0, 1) := by decide +kernel
theorem dX10_blockWith_3 : decode cX10_blockWith 3 = .ok (.iload_n 1, 1) := by decide +kernel
theorem dX10_blockWith_4 : decode cX10_blockWith 4 = .ok (.iload_n 3, 1) := by decide +kernel
theorem dX10_blockWith_5 : decode cX10_blockWith 5 = .ok (.iconst 1, 1) := by decide +kernel
theorem dX10_blockWith_6 : decode cX10_blockWith 6 = .ok (.iadd, 1) := by decide +kernel
theorem dX10_blockWith_7 : decode cX10_blockWith 7 = .ok (.invokevirtual 80, 3) := by decide +kernel
theorem dX10_blockWith_10 : decode cX10_blockWith 10 = .ok (.iload_n 2, 1) := by decide +kernel
theorem dX10_blockWith_11 : decode cX10_blockWith 11 = .ok (.if_icmp .gt 9, 3) := by decide +kernel
theorem dX10_blockWith_14 : decode cX10_blockWith 14 = .ok (.iinc 3 1, 3) := by decide +kernel
theorem dX10_blockWith_17 : decode cX10_blockWith 17 = .ok (.goto (-15), 3) := by decide +kernel
theorem dX10_blockWith_20 : decode cX10_blockWith 20 = .ok (.iload_n 3, 1) := by decide +kernel
theorem dX10_blockWith_21 : decode cX10_blockWith 21 = .ok (.ireturn, 1) := by decide +kernel
theorem dX10_take_0 : decode cX10_take 0 = .ok (.aload_n 0, 1) := by decide +kernel
theorem dX10_take_1 : decode cX10_take 1 = .ok (.iload_n 3, 1) := by decide +kernel
theorem dX10_take_2 : decode cX10_take 2 = .ok (.putfield 91, 3) := by decide +kernel
theorem dX10_take_5 : decode cX10_take 5 = .ok (.aload_n 0, 1) := by decide +kernel
theorem dX10_take_6 : decode cX10_take 6 = .ok (.iconst 0, 1) := by decide +kernel
theorem dX10_take_7 : decode cX10_take 7 = .ok (.putfield 94, 3) := by decide +kernel
theorem dX10_take_10 : decode cX10_take 10 = .ok (.iload_n 2, 1) := by decide +kernel
theorem dX10_take_11 : decode cX10_take 11 = .ok (.istore 4, 2) := by decide +kernel
theorem dX10_take_13 : decode cX10_take 13 = .ok (.iload 4, 2) := by decide +kernel
theorem dX10_take_15 : decode cX10_take 15 = .ok (.iload_n 2, 1) := by decide +kernel
theorem dX10_take_16 : decode cX10_take 16 = .ok (.iload_n 3, 1) := by decide +kernel
theorem dX10_take_17 : decode cX10_take 17 = .ok (.iadd, 1) := by decide +kernel
theorem dX10_take_18 : decode cX10_take 18 = .ok (.if_icmp .ge 48, 3) := by decide +kernel
theorem dX10_take_21 : decode cX10_take 21 = .ok (.aload_n 0, 1) := by decide +kernel
theorem dX10_take_22 : decode cX10_take 22 = .ok (.iload_n 1, 1) := by decide +kernel
theorem dX10_take_23 : decode cX10_take 23 = .ok (.iload 4, 2) := by decide +kernel
theorem dX10_take_25 : decode cX10_take 25 = .ok (.invokevirtual 97, 3) := by decide +kernel
theorem dX10_take_28 : decode cX10_take 28 = .ok (.ifCond .eq 6, 3) := by decide +kernel
theorem dX10_take_31 : decode cX10_take 31 = .ok (.goto 29, 3) := by decide +kernel
theorem dX10_take_34 : decode cX10_take 34 = .ok (.aload_n 0, 1) := by decide +kernel
theorem dX10_take_35 : decode cX10_take 35 = .ok (.getfield 16, 3) := by decide +kernel
theorem dX10_take_38 : decode cX10_take 38 = .ok (.aload_n 0, 1) := by decide +kernel
theorem dX10_take_39 : decode cX10_take 39 = .ok (.getfield 94, 3) := by decide +kernel
theorem dX10_take_42 : decode cX10_take 42 = .ok (.aload_n 0, 1) := by decide +kernel
theorem dX10_take_43 : decode cX10_take 43 = .ok (.iload_n 1, 1) := by decide +kernel
theorem dX10_take_44 : decode cX10_take 44 = .ok (.iload 4, 2) := by decide +kernel
theorem dX10_take_46 : decode cX10_take 46 = .ok (.invokevirtual 101, 3) := by decide +kernel
theorem dX10_take_49 : decode cX10_take 49 = .ok (.iastore, 1) := by decide +kernel
theorem dX10_take_50 : decode cX10_take 50 = .ok (.aload_n 0, 1) := by decide +kernel
theorem dX10_take_51 : decode cX10_take 51 = .ok (.dup, 1) := by decide +kernel
theorem dX10_take_52 : decode cX10_take 52 = .ok (.getfield 94, 3) := by decide +kernel
theorem dX10_take_55 : decode cX10_take 55 = .ok (.iconst 1, 1) := by decide +kernel
theorem dX10_take_56 : decode cX10_take 56 = .ok (.iadd, 1) := by decide +kernel
theorem dX10_take_57 : decode cX10_take 57 = .ok (.putfield 94, 3) := by decide +kernel
theorem dX10_take_60 : decode cX10_take 60 = .ok (.iinc 4 1, 3) := by decide +kernel
theorem dX10_take_63 : decode cX10_take 63 = .ok (.goto (-50), 3) := by decide +kernel
theorem dX10_take_66 : decode cX10_take 66 = .ok (.return_, 1) := by decide +kernel
theorem dX10_takePending_0 : decode cX10_takePending 0 = .ok (.aload_n 0, 1) := by decide +kernel
theorem dX10_takePending_1 : decode cX10_takePending 1 = .ok (.aload_n 0, 1) := by decide +kernel
theorem dX10_takePending_2 : decode cX10_takePending 2 = .ok (.getfield 7, 3) := by decide +kernel
theorem dX10_takePending_5 : decode cX10_takePending 5 = .ok (.iconst 3, 1) := by decide +kernel
theorem dX10_takePending_6 : decode cX10_takePending 6 = .ok (.iaload, 1) := by decide +kernel
theorem dX10_takePending_7 : decode cX10_takePending 7 = .ok (.putfield 91, 3) := by decide +kernel
theorem dX10_takePending_10 : decode cX10_takePending 10 = .ok (.aload_n 0, 1) := by decide +kernel
theorem dX10_takePending_11 : decode cX10_takePending 11 = .ok (.iconst 0, 1) := by decide +kernel
theorem dX10_takePending_12 : decode cX10_takePending 12 = .ok (.putfield 94, 3) := by decide +kernel
theorem dX10_takePending_15 : decode cX10_takePending 15 = .ok (.iconst 0, 1) := by decide +kernel
theorem dX10_takePending_16 : decode cX10_takePending 16 = .ok (.istore_n 1, 1) := by decide +kernel
theorem dX10_takePending_17 : decode cX10_takePending 17 = .ok (.iload_n 1, 1) := by decide +kernel
theorem dX10_takePending_18 : decode cX10_takePending 18 = .ok (.aload_n 0, 1) := by decide +kernel
theorem dX10_takePending_19 : decode cX10_takePending 19 = .ok (.getfield 91, 3) := by decide +kernel
theorem dX10_takePending_22 : decode cX10_takePending 22 = .ok (.if_icmp .ge 52, 3) := by decide +kernel
theorem dX10_takePending_25 : decode cX10_takePending 25 = .ok (.aload_n 0, 1) := by decide +kernel
theorem dX10_takePending_26 : decode cX10_takePending 26 = .ok (.getfield 7, 3) := by decide +kernel
theorem dX10_takePending_29 : decode cX10_takePending 29 = .ok (.bipush 20, 2) := by decide +kernel
theorem dX10_takePending_31 : decode cX10_takePending 31 = .ok (.iload_n 1, 1) := by decide +kernel
theorem dX10_takePending_32 : decode cX10_takePending 32 = .ok (.iadd, 1) := by decide +kernel
theorem dX10_takePending_33 : decode cX10_takePending 33 = .ok (.iaload, 1) := by decide +kernel
theorem dX10_takePending_34 : decode cX10_takePending 34 = .ok (.iconst 1, 1) := by decide +kernel
theorem dX10_takePending_35 : decode cX10_takePending 35 = .ok (.if_icmp .ne 6, 3) := by decide +kernel
theorem dX10_takePending_38 : decode cX10_takePending 38 = .ok (.goto 30, 3) := by decide +kernel
theorem dX10_takePending_41 : decode cX10_takePending 41 = .ok (.aload_n 0, 1) := by decide +kernel
theorem dX10_takePending_42 : decode cX10_takePending 42 = .ok (.getfield 16, 3) := by decide +kernel
theorem dX10_takePending_45 : decode cX10_takePending 45 = .ok (.aload_n 0, 1) := by decide +kernel
theorem dX10_takePending_46 : decode cX10_takePending 46 = .ok (.getfield 94, 3) := by decide +kernel
theorem dX10_takePending_49 : decode cX10_takePending 49 = .ok (.aload_n 0, 1) := by decide +kernel
theorem dX10_takePending_50 : decode cX10_takePending 50 = .ok (.getfield 7, 3) := by decide +kernel
theorem dX10_takePending_53 : decode cX10_takePending 53 = .ok (.iconst 4, 1) := by decide +kernel
theorem dX10_takePending_54 : decode cX10_takePending 54 = .ok (.iload_n 1, 1) := by decide +kernel
theorem dX10_takePending_55 : decode cX10_takePending 55 = .ok (.iadd, 1) := by decide +kernel
theorem dX10_takePending_56 : decode cX10_takePending 56 = .ok (.iaload, 1) := by decide +kernel
theorem dX10_takePending_57 : decode cX10_takePending 57 = .ok (.iastore, 1) := by decide +kernel
theorem dX10_takePending_58 : decode cX10_takePending 58 = .ok (.aload_n 0, 1) := by decide +kernel
theorem dX10_takePending_59 : decode cX10_takePending 59 = .ok (.dup, 1) := by decide +kernel
theorem dX10_takePending_60 : decode cX10_takePending 60 = .ok (.getfield 94, 3) := by decide +kernel
theorem dX10_takePending_63 : decode cX10_takePending 63 = .ok (.iconst 1, 1) := by decide +kernel
theorem dX10_takePending_64 : decode cX10_takePending 64 = .ok (.iadd, 1) := by decide +kernel
theorem dX10_takePending_65 : decode cX10_takePending 65 = .ok (.putfield 94, 3) := by decide +kernel
theorem dX10_takePending_68 : decode cX10_takePending 68 = .ok (.iinc 1 1, 3) := by decide +kernel
theorem dX10_takePending_71 : decode cX10_takePending 71 = .ok (.goto (-54), 3) := by decide +kernel
theorem dX10_takePending_74 : decode cX10_takePending 74 = .ok (.return_, 1) := by decide +kernel
theorem dX10_takeBlock_0 : decode cX10_takeBlock 0 = .ok (.aload_n 0, 1) := by decide +kernel
theorem dX10_takeBlock_1 : decode cX10_takeBlock 1 = .ok (.iload_n 1, 1) := by decide +kernel
theorem dX10_takeBlock_2 : decode cX10_takeBlock 2 = .ok (.aload_n 0, 1) := by decide +kernel
theorem dX10_takeBlock_3 : decode cX10_takeBlock 3 = .ok (.iload_n 1, 1) := by decide +kernel
theorem dX10_takeBlock_4 : decode cX10_takeBlock 4 = .ok (.iload_n 2, 1) := by decide +kernel
theorem dX10_takeBlock_5 : decode cX10_takeBlock 5 = .ok (.invokevirtual 80, 3) := by decide +kernel
theorem dX10_takeBlock_8 : decode cX10_takeBlock 8 = .ok (.aload_n 0, 1) := by decide +kernel
theorem dX10_takeBlock_9 : decode cX10_takeBlock 9 = .ok (.iload_n 1, 1) := by decide +kernel
theorem dX10_takeBlock_10 : decode cX10_takeBlock 10 = .ok (.iload_n 2, 1) := by decide +kernel
theorem dX10_takeBlock_11 : decode cX10_takeBlock 11 = .ok (.iconst 0, 1) := by decide +kernel
theorem dX10_takeBlock_12 : decode cX10_takeBlock 12 = .ok (.invokevirtual 73, 3) := by decide +kernel
theorem dX10_takeBlock_15 : decode cX10_takeBlock 15 = .ok (.invokevirtual 104, 3) := by decide +kernel
theorem dX10_takeBlock_18 : decode cX10_takeBlock 18 = .ok (.return_, 1) := by decide +kernel
theorem dX10_canBe_0 : decode cX10_canBe 0 = .ok (.iload_n 1, 1) := by decide +kernel
theorem dX10_canBe_1 : decode cX10_canBe 1 = .ok (.ifCond .eq 20, 3) := by decide +kernel
theorem dX10_canBe_4 : decode cX10_canBe 4 = .ok (.iload_n 1, 1) := by decide +kernel
theorem dX10_canBe_5 : decode cX10_canBe 5 = .ok (.iconst 1, 1) := by decide +kernel
theorem dX10_canBe_6 : decode cX10_canBe 6 = .ok (.iconst 2, 1) := by decide +kernel
theorem dX10_canBe_7 : decode cX10_canBe 7 = .ok (.invokestatic 65, 3) := by decide +kernel
theorem dX10_canBe_10 : decode cX10_canBe 10 = .ok (.ifCond .eq 15, 3) := by decide +kernel
theorem dX10_canBe_13 : decode cX10_canBe 13 = .ok (.aload_n 0, 1) := by decide +kernel
theorem dX10_canBe_14 : decode cX10_canBe 14 = .ok (.getfield 94, 3) := by decide +kernel
theorem dX10_canBe_17 : decode cX10_canBe 17 = .ok (.iconst 1, 1) := by decide +kernel
theorem dX10_canBe_18 : decode cX10_canBe 18 = .ok (.if_icmp .le 7, 3) := by decide +kernel
theorem dX10_canBe_21 : decode cX10_canBe 21 = .ok (.iconst 1, 1) := by decide +kernel
theorem dX10_canBe_22 : decode cX10_canBe 22 = .ok (.goto 4, 3) := by decide +kernel
theorem dX10_canBe_25 : decode cX10_canBe 25 = .ok (.iconst 0, 1) := by decide +kernel
theorem dX10_canBe_26 : decode cX10_canBe 26 = .ok (.ireturn, 1) := by decide +kernel
theorem dX10_leastValue_0 : decode cX10_leastValue 0 = .ok (.aload_n 0, 1) := by decide +kernel
theorem dX10_leastValue_1 : decode cX10_leastValue 1 = .ok (.getfield 94, 3) := by decide +kernel
theorem dX10_leastValue_4 : decode cX10_leastValue 4 = .ok (.ifCond .ne 7, 3) := by decide +kernel
theorem dX10_leastValue_7 : decode cX10_leastValue 7 = .ok (.iconst 0, 1) := by decide +kernel
theorem dX10_leastValue_8 : decode cX10_leastValue 8 = .ok (.goto 9, 3) := by decide +kernel
theorem dX10_leastValue_11 : decode cX10_leastValue 11 = .ok (.aload_n 0, 1) := by decide +kernel
theorem dX10_leastValue_12 : decode cX10_leastValue 12 = .ok (.getfield 16, 3) := by decide +kernel
theorem dX10_leastValue_15 : decode cX10_leastValue 15 = .ok (.iconst 0, 1) := by decide +kernel
theorem dX10_leastValue_16 : decode cX10_leastValue 16 = .ok (.iaload, 1) := by decide +kernel
theorem dX10_leastValue_17 : decode cX10_leastValue 17 = .ok (.istore_n 1, 1) := by decide +kernel
theorem dX10_leastValue_18 : decode cX10_leastValue 18 = .ok (.iconst 1, 1) := by decide +kernel
theorem dX10_leastValue_19 : decode cX10_leastValue 19 = .ok (.istore_n 2, 1) := by decide +kernel
theorem dX10_leastValue_20 : decode cX10_leastValue 20 = .ok (.iload_n 2, 1) := by decide +kernel
theorem dX10_leastValue_21 : decode cX10_leastValue 21 = .ok (.aload_n 0, 1) := by decide +kernel
theorem dX10_leastValue_22 : decode cX10_leastValue 22 = .ok (.getfield 94, 3) := by decide +kernel
theorem dX10_leastValue_25 : decode cX10_leastValue 25 = .ok (.if_icmp .ge 30, 3) := by decide +kernel
theorem dX10_leastValue_28 : decode cX10_leastValue 28 = .ok (.aload_n 0, 1) := by decide +kernel
theorem dX10_leastValue_29 : decode cX10_leastValue 29 = .ok (.getfield 16, 3) := by decide +kernel
theorem dX10_leastValue_32 : decode cX10_leastValue 32 = .ok (.iload_n 2, 1) := by decide +kernel
theorem dX10_leastValue_33 : decode cX10_leastValue 33 = .ok (.iaload, 1) := by decide +kernel
theorem dX10_leastValue_34 : decode cX10_leastValue 34 = .ok (.iload_n 1, 1) := by decide +kernel
theorem dX10_leastValue_35 : decode cX10_leastValue 35 = .ok (.if_icmp .ge 12, 3) := by decide +kernel
theorem dX10_leastValue_38 : decode cX10_leastValue 38 = .ok (.aload_n 0, 1) := by decide +kernel
theorem dX10_leastValue_39 : decode cX10_leastValue 39 = .ok (.getfield 16, 3) := by decide +kernel
theorem dX10_leastValue_42 : decode cX10_leastValue 42 = .ok (.iload_n 2, 1) := by decide +kernel
theorem dX10_leastValue_43 : decode cX10_leastValue 43 = .ok (.iaload, 1) := by decide +kernel
theorem dX10_leastValue_44 : decode cX10_leastValue 44 = .ok (.goto 4, 3) := by decide +kernel
theorem dX10_leastValue_47 : decode cX10_leastValue 47 = .ok (.iload_n 1, 1) := by decide +kernel
theorem dX10_leastValue_48 : decode cX10_leastValue 48 = .ok (.istore_n 1, 1) := by decide +kernel
theorem dX10_leastValue_49 : decode cX10_leastValue 49 = .ok (.iinc 2 1, 3) := by decide +kernel
theorem dX10_leastValue_52 : decode cX10_leastValue 52 = .ok (.goto (-32), 3) := by decide +kernel
theorem dX10_leastValue_55 : decode cX10_leastValue 55 = .ok (.iload_n 1, 1) := by decide +kernel
theorem dX10_leastValue_56 : decode cX10_leastValue 56 = .ok (.ireturn, 1) := by decide +kernel
theorem dX10_leastStep_0 : decode cX10_leastStep 0 = .ok (.aload_n 0, 1) := by decide +kernel
theorem dX10_leastStep_1 : decode cX10_leastStep 1 = .ok (.getfield 16, 3) := by decide +kernel
theorem dX10_leastStep_4 : decode cX10_leastStep 4 = .ok (.iconst 1, 1) := by decide +kernel
theorem dX10_leastStep_5 : decode cX10_leastStep 5 = .ok (.iaload, 1) := by decide +kernel
theorem dX10_leastStep_6 : decode cX10_leastStep 6 = .ok (.aload_n 0, 1) := by decide +kernel
theorem dX10_leastStep_7 : decode cX10_leastStep 7 = .ok (.getfield 16, 3) := by decide +kernel
theorem dX10_leastStep_10 : decode cX10_leastStep 10 = .ok (.iconst 0, 1) := by decide +kernel
theorem dX10_leastStep_11 : decode cX10_leastStep 11 = .ok (.iaload, 1) := by decide +kernel
theorem dX10_leastStep_12 : decode cX10_leastStep 12 = .ok (.isub, 1) := by decide +kernel
theorem dX10_leastStep_13 : decode cX10_leastStep 13 = .ok (.istore_n 1, 1) := by decide +kernel
theorem dX10_leastStep_14 : decode cX10_leastStep 14 = .ok (.iconst 2, 1) := by decide +kernel
theorem dX10_leastStep_15 : decode cX10_leastStep 15 = .ok (.istore_n 2, 1) := by decide +kernel
theorem dX10_leastStep_16 : decode cX10_leastStep 16 = .ok (.iload_n 2, 1) := by decide +kernel
theorem dX10_leastStep_17 : decode cX10_leastStep 17 = .ok (.aload_n 0, 1) := by decide +kernel
theorem dX10_leastStep_18 : decode cX10_leastStep 18 = .ok (.getfield 94, 3) := by decide +kernel
theorem dX10_leastStep_21 : decode cX10_leastStep 21 = .ok (.if_icmp .ge 48, 3) := by decide +kernel
theorem dX10_leastStep_24 : decode cX10_leastStep 24 = .ok (.aload_n 0, 1) := by decide +kernel
theorem dX10_leastStep_25 : decode cX10_leastStep 25 = .ok (.getfield 16, 3) := by decide +kernel
theorem dX10_leastStep_28 : decode cX10_leastStep 28 = .ok (.iload_n 2, 1) := by decide +kernel
theorem dX10_leastStep_29 : decode cX10_leastStep 29 = .ok (.iaload, 1) := by decide +kernel
theorem dX10_leastStep_30 : decode cX10_leastStep 30 = .ok (.aload_n 0, 1) := by decide +kernel
theorem dX10_leastStep_31 : decode cX10_leastStep 31 = .ok (.getfield 16, 3) := by decide +kernel
theorem dX10_leastStep_34 : decode cX10_leastStep 34 = .ok (.iload_n 2, 1) := by decide +kernel
theorem dX10_leastStep_35 : decode cX10_leastStep 35 = .ok (.iconst 1, 1) := by decide +kernel
theorem dX10_leastStep_36 : decode cX10_leastStep 36 = .ok (.isub, 1) := by decide +kernel
theorem dX10_leastStep_37 : decode cX10_leastStep 37 = .ok (.iaload, 1) := by decide +kernel
theorem dX10_leastStep_38 : decode cX10_leastStep 38 = .ok (.isub, 1) := by decide +kernel
theorem dX10_leastStep_39 : decode cX10_leastStep 39 = .ok (.iload_n 1, 1) := by decide +kernel
theorem dX10_leastStep_40 : decode cX10_leastStep 40 = .ok (.if_icmp .ge 21, 3) := by decide +kernel
theorem dX10_leastStep_43 : decode cX10_leastStep 43 = .ok (.aload_n 0, 1) := by decide +kernel
theorem dX10_leastStep_44 : decode cX10_leastStep 44 = .ok (.getfield 16, 3) := by decide +kernel
theorem dX10_leastStep_47 : decode cX10_leastStep 47 = .ok (.iload_n 2, 1) := by decide +kernel
theorem dX10_leastStep_48 : decode cX10_leastStep 48 = .ok (.iaload, 1) := by decide +kernel
theorem dX10_leastStep_49 : decode cX10_leastStep 49 = .ok (.aload_n 0, 1) := by decide +kernel
theorem dX10_leastStep_50 : decode cX10_leastStep 50 = .ok (.getfield 16, 3) := by decide +kernel
theorem dX10_leastStep_53 : decode cX10_leastStep 53 = .ok (.iload_n 2, 1) := by decide +kernel
theorem dX10_leastStep_54 : decode cX10_leastStep 54 = .ok (.iconst 1, 1) := by decide +kernel
theorem dX10_leastStep_55 : decode cX10_leastStep 55 = .ok (.isub, 1) := by decide +kernel
theorem dX10_leastStep_56 : decode cX10_leastStep 56 = .ok (.iaload, 1) := by decide +kernel
theorem dX10_leastStep_57 : decode cX10_leastStep 57 = .ok (.isub, 1) := by decide +kernel
theorem dX10_leastStep_58 : decode cX10_leastStep 58 = .ok (.goto 4, 3) := by decide +kernel
theorem dX10_leastStep_61 : decode cX10_leastStep 61 = .ok (.iload_n 1, 1) := by decide +kernel
theorem dX10_leastStep_62 : decode cX10_leastStep 62 = .ok (.istore_n 1, 1) := by decide +kernel
theorem dX10_leastStep_63 : decode cX10_leastStep 63 = .ok (.iinc 2 1, 3) := by decide +kernel
theorem dX10_leastStep_66 : decode cX10_leastStep 66 = .ok (.goto (-50), 3) := by decide +kernel
theorem dX10_leastStep_69 : decode cX10_leastStep 69 = .ok (.iload_n 1, 1) := by decide +kernel
theorem dX10_leastStep_70 : decode cX10_leastStep 70 = .ok (.ireturn, 1) := by decide +kernel
theorem dX10_folded_0 : decode cX10_folded 0 = .ok (.iload_n 1, 1) := by decide +kernel
theorem dX10_folded_1 : decode cX10_folded 1 = .ok (.ifCond .ge 14, 3) := by decide +kernel
theorem dX10_folded_4 : decode cX10_folded 4 = .ok (.ldc2_w 108, 3) := by decide +kernel
theorem dX10_folded_7 : decode cX10_folded 7 = .ok (.iload_n 1, 1) := by decide +kernel
theorem dX10_folded_8 : decode cX10_folded 8 = .ok (.i2l, 1) := by decide +kernel
theorem dX10_folded_9 : decode cX10_folded 9 = .ok (.lmul, 1) := by decide +kernel
theorem dX10_folded_10 : decode cX10_folded 10 = .ok (.lconst 1, 1) := by decide +kernel
theorem dX10_folded_11 : decode cX10_folded 11 = .ok (.lsub, 1) := by decide +kernel
theorem dX10_folded_12 : decode cX10_folded 12 = .ok (.goto 9, 3) := by decide +kernel
theorem dX10_folded_15 : decode cX10_folded 15 = .ok (.ldc2_w 110, 3) := by decide +kernel
theorem dX10_folded_18 : decode cX10_folded 18 = .ok (.iload_n 1, 1) := by decide +kernel
theorem dX10_folded_19 : decode cX10_folded 19 = .ok (.i2l, 1) := by decide +kernel
theorem dX10_folded_20 : decode cX10_folded 20 = .ok (.lmul, 1) := by decide +kernel
theorem dX10_folded_21 : decode cX10_folded 21 = .ok (.lreturn, 1) := by decide +kernel
theorem dX10_layParts_0 : decode cX10_layParts 0 = .ok (.aload_n 0, 1) := by decide +kernel
theorem dX10_layParts_1 : decode cX10_layParts 1 = .ok (.iconst 0, 1) := by decide +kernel
theorem dX10_layParts_2 : decode cX10_layParts 2 = .ok (.putfield 112, 3) := by decide +kernel
theorem dX10_layParts_5 : decode cX10_layParts 5 = .ok (.iload_n 1, 1) := by decide +kernel
theorem dX10_layParts_6 : decode cX10_layParts 6 = .ok (.ifCond .ne 53, 3) := by decide +kernel
theorem dX10_layParts_9 : decode cX10_layParts 9 = .ok (.aload_n 0, 1) := by decide +kernel
theorem dX10_layParts_10 : decode cX10_layParts 10 = .ok (.invokevirtual 115, 3) := by decide +kernel
theorem dX10_layParts_13 : decode cX10_layParts 13 = .ok (.i2l, 1) := by decide +kernel
theorem dX10_layParts_14 : decode cX10_layParts 14 = .ok (.lstore_n 2, 1) := by decide +kernel
theorem dX10_layParts_15 : decode cX10_layParts 15 = .ok (.iconst 0, 1) := by decide +kernel
theorem dX10_layParts_16 : decode cX10_layParts 16 = .ok (.istore 4, 2) := by decide +kernel
theorem dX10_layParts_18 : decode cX10_layParts 18 = .ok (.iload 4, 2) := by decide +kernel
theorem dX10_layParts_20 : decode cX10_layParts 20 = .ok (.aload_n 0, 1) := by decide +kernel
theorem dX10_layParts_21 : decode cX10_layParts 21 = .ok (.getfield 94, 3) := by decide +kernel
theorem dX10_layParts_24 : decode cX10_layParts 24 = .ok (.if_icmp .ge 26, 3) := by decide +kernel
theorem dX10_layParts_27 : decode cX10_layParts 27 = .ok (.aload_n 0, 1) := by decide +kernel
theorem dX10_layParts_28 : decode cX10_layParts 28 = .ok (.getfield 19, 3) := by decide +kernel
theorem dX10_layParts_31 : decode cX10_layParts 31 = .ok (.iload 4, 2) := by decide +kernel
theorem dX10_layParts_33 : decode cX10_layParts 33 = .ok (.aload_n 0, 1) := by decide +kernel
theorem dX10_layParts_34 : decode cX10_layParts 34 = .ok (.getfield 16, 3) := by decide +kernel
theorem dX10_layParts_37 : decode cX10_layParts 37 = .ok (.iload 4, 2) := by decide +kernel
theorem dX10_layParts_39 : decode cX10_layParts 39 = .ok (.iaload, 1) := by decide +kernel
theorem dX10_layParts_40 : decode cX10_layParts 40 = .ok (.i2l, 1) := by decide +kernel
theorem dX10_layParts_41 : decode cX10_layParts 41 = .ok (.lload_n 2, 1) := by decide +kernel
theorem dX10_layParts_42 : decode cX10_layParts 42 = .ok (.lsub, 1) := by decide +kernel
theorem dX10_layParts_43 : decode cX10_layParts 43 = .ok (.lastore, 1) := by decide +kernel
theorem dX10_layParts_44 : decode cX10_layParts 44 = .ok (.iinc 4 1, 3) := by decide +kernel
theorem dX10_layParts_47 : decode cX10_layParts 47 = .ok (.goto (-29), 3) := by decide +kernel
theorem dX10_layParts_50 : decode cX10_layParts 50 = .ok (.aload_n 0, 1) := by decide +kernel
theorem dX10_layParts_51 : decode cX10_layParts 51 = .ok (.aload_n 0, 1) := by decide +kernel
theorem dX10_layParts_52 : decode cX10_layParts 52 = .ok (.getfield 94, 3) := by decide +kernel
theorem dX10_layParts_55 : decode cX10_layParts 55 = .ok (.putfield 112, 3) := by decide +kernel
theorem dX10_layParts_58 : decode cX10_layParts 58 = .ok (.return_, 1) := by decide +kernel
theorem dX10_layParts_59 : decode cX10_layParts 59 = .ok (.iconst 1, 1) := by decide +kernel
theorem dX10_layParts_60 : decode cX10_layParts 60 = .ok (.istore_n 2, 1) := by decide +kernel
theorem dX10_layParts_61 : decode cX10_layParts 61 = .ok (.iload_n 2, 1) := by decide +kernel
theorem dX10_layParts_62 : decode cX10_layParts 62 = .ok (.aload_n 0, 1) := by decide +kernel
theorem dX10_layParts_63 : decode cX10_layParts 63 = .ok (.getfield 94, 3) := by decide +kernel
theorem dX10_layParts_66 : decode cX10_layParts 66 = .ok (.if_icmp .ge 68, 3) := by decide +kernel
theorem dX10_layParts_69 : decode cX10_layParts 69 = .ok (.aload_n 0, 1) := by decide +kernel
theorem dX10_layParts_70 : decode cX10_layParts 70 = .ok (.getfield 16, 3) := by decide +kernel
theorem dX10_layParts_73 : decode cX10_layParts 73 = .ok (.iload_n 2, 1) := by decide +kernel
theorem dX10_layParts_74 : decode cX10_layParts 74 = .ok (.iaload, 1) := by decide +kernel
theorem dX10_layParts_75 : decode cX10_layParts 75 = .ok (.aload_n 0, 1) := by decide +kernel
theorem dX10_layParts_76 : decode cX10_layParts 76 = .ok (.getfield 16, 3) := by decide +kernel
theorem dX10_layParts_79 : decode cX10_layParts 79 = .ok (.iload_n 2, 1) := by decide +kernel
theorem dX10_layParts_80 : decode cX10_layParts 80 = .ok (.iconst 1, 1) := by decide +kernel
theorem dX10_layParts_81 : decode cX10_layParts 81 = .ok (.isub, 1) := by decide +kernel
theorem dX10_layParts_82 : decode cX10_layParts 82 = .ok (.iaload, 1) := by decide +kernel
theorem dX10_layParts_83 : decode cX10_layParts 83 = .ok (.isub, 1) := by decide +kernel
theorem dX10_layParts_84 : decode cX10_layParts 84 = .ok (.istore_n 3, 1) := by decide +kernel
theorem dX10_layParts_85 : decode cX10_layParts 85 = .ok (.aload_n 0, 1) := by decide +kernel
theorem dX10_layParts_86 : decode cX10_layParts 86 = .ok (.getfield 19, 3) := by decide +kernel
theorem dX10_layParts_89 : decode cX10_layParts 89 = .ok (.aload_n 0, 1) := by decide +kernel
theorem dX10_layParts_90 : decode cX10_layParts 90 = .ok (.getfield 112, 3) := by decide +kernel
theorem dX10_layParts_93 : decode cX10_layParts 93 = .ok (.iload_n 1, 1) := by decide +kernel
theorem dX10_layParts_94 : decode cX10_layParts 94 = .ok (.iconst 1, 1) := by decide +kernel
theorem dX10_layParts_95 : decode cX10_layParts 95 = .ok (.if_icmp .ne 11, 3) := by decide +kernel
theorem dX10_layParts_98 : decode cX10_layParts 98 = .ok (.aload_n 0, 1) := by decide +kernel
theorem dX10_layParts_99 : decode cX10_layParts 99 = .ok (.iload_n 3, 1) := by decide +kernel
theorem dX10_layParts_100 : decode cX10_layParts 100 = .ok (.invokevirtual 119, 3) := by decide +kernel
theorem dX10_layParts_103 : decode cX10_layParts 103 = .ok (.goto 14, 3) := by decide +kernel
theorem dX10_layParts_106 : decode cX10_layParts 106 = .ok (.iload_n 3, 1) := by decide +kernel
theorem dX10_layParts_107 : decode cX10_layParts 107 = .ok (.aload_n 0, 1) := by decide +kernel
theorem dX10_layParts_108 : decode cX10_layParts 108 = .ok (.getfield 123, 3) := by decide +kernel
theorem dX10_layParts_111 : decode cX10_layParts 111 = .ok (.isub, 1) := by decide +kernel
theorem dX10_layParts_112 : decode cX10_layParts 112 = .ok (.i2l, 1) := by decide +kernel
theorem dX10_layParts_113 : decode cX10_layParts 113 = .ok (.ldc2_w 126, 3) := by decide +kernel
theorem dX10_layParts_116 : decode cX10_layParts 116 = .ok (.land, 1) := by decide +kernel
theorem dX10_layParts_117 : decode cX10_layParts 117 = .ok (.lastore, 1) := by decide +kernel
theorem dX10_layParts_118 : decode cX10_layParts 118 = .ok (.aload_n 0, 1) := by decide +kernel
theorem dX10_layParts_119 : decode cX10_layParts 119 = .ok (.dup, 1) := by decide +kernel
theorem dX10_layParts_120 : decode cX10_layParts 120 = .ok (.getfield 112, 3) := by decide +kernel
theorem dX10_layParts_123 : decode cX10_layParts 123 = .ok (.iconst 1, 1) := by decide +kernel
theorem dX10_layParts_124 : decode cX10_layParts 124 = .ok (.iadd, 1) := by decide +kernel
theorem dX10_layParts_125 : decode cX10_layParts 125 = .ok (.putfield 112, 3) := by decide +kernel
theorem dX10_layParts_128 : decode cX10_layParts 128 = .ok (.iinc 2 1, 3) := by decide +kernel
theorem dX10_layParts_131 : decode cX10_layParts 131 = .ok (.goto (-70), 3) := by decide +kernel
theorem dX10_layParts_134 : decode cX10_layParts 134 = .ok (.return_, 1) := by decide +kernel
theorem dX10_bitsOf_0 : decode cX10_bitsOf 0 = .ok (.iconst 0, 1) := by decide +kernel
theorem dX10_bitsOf_1 : decode cX10_bitsOf 1 = .ok (.istore_n 2, 1) := by decide +kernel
theorem dX10_bitsOf_2 : decode cX10_bitsOf 2 = .ok (.lload_n 0, 1) := by decide +kernel
theorem dX10_bitsOf_3 : decode cX10_bitsOf 3 = .ok (.lstore_n 3, 1) := by decide +kernel
theorem dX10_bitsOf_4 : decode cX10_bitsOf 4 = .ok (.lload_n 3, 1) := by decide +kernel
theorem dX10_bitsOf_5 : decode cX10_bitsOf 5 = .ok (.lconst 0, 1) := by decide +kernel
theorem dX10_bitsOf_6 : decode cX10_bitsOf 6 = .ok (.lcmp, 1) := by decide +kernel
theorem dX10_bitsOf_7 : decode cX10_bitsOf 7 = .ok (.ifCond .eq 13, 3) := by decide +kernel
theorem dX10_bitsOf_10 : decode cX10_bitsOf 10 = .ok (.iinc 2 1, 3) := by decide +kernel
theorem dX10_bitsOf_13 : decode cX10_bitsOf 13 = .ok (.lload_n 3, 1) := by decide +kernel
theorem dX10_bitsOf_14 : decode cX10_bitsOf 14 = .ok (.iconst 1, 1) := by decide +kernel
theorem dX10_bitsOf_15 : decode cX10_bitsOf 15 = .ok (.lshr, 1) := by decide +kernel
theorem dX10_bitsOf_16 : decode cX10_bitsOf 16 = .ok (.lstore_n 3, 1) := by decide +kernel
theorem dX10_bitsOf_17 : decode cX10_bitsOf 17 = .ok (.goto (-13), 3) := by decide +kernel
theorem dX10_bitsOf_20 : decode cX10_bitsOf 20 = .ok (.iload_n 2, 1) := by decide +kernel
theorem dX10_bitsOf_21 : decode cX10_bitsOf 21 = .ok (.ireturn, 1) := by decide +kernel
theorem dX10_exceptionsBy_0 : decode cX10_exceptionsBy 0 = .ok (.iconst 0, 1) := by decide +kernel
theorem dX10_exceptionsBy_1 : decode cX10_exceptionsBy 1 = .ok (.istore_n 2, 1) := by decide +kernel
theorem dX10_exceptionsBy_2 : decode cX10_exceptionsBy 2 = .ok (.iconst 0, 1) := by decide +kernel
theorem dX10_exceptionsBy_3 : decode cX10_exceptionsBy 3 = .ok (.istore_n 3, 1) := by decide +kernel
theorem dX10_exceptionsBy_4 : decode cX10_exceptionsBy 4 = .ok (.iload_n 3, 1) := by decide +kernel
theorem dX10_exceptionsBy_5 : decode cX10_exceptionsBy 5 = .ok (.aload_n 0, 1) := by decide +kernel
theorem dX10_exceptionsBy_6 : decode cX10_exceptionsBy 6 = .ok (.getfield 112, 3) := by decide +kernel
theorem dX10_exceptionsBy_9 : decode cX10_exceptionsBy 9 = .ok (.if_icmp .ge 30, 3) := by decide +kernel
theorem dX10_exceptionsBy_12 : decode cX10_exceptionsBy 12 = .ok (.iload_n 2, 1) := by decide +kernel
theorem dX10_exceptionsBy_13 : decode cX10_exceptionsBy 13 = .ok (.aload_n 0, 1) := by decide +kernel
theorem dX10_exceptionsBy_14 : decode cX10_exceptionsBy 14 = .ok (.getfield 19, 3) := by decide +kernel
theorem dX10_exceptionsBy_17 : decode cX10_exceptionsBy 17 = .ok (.iload_n 3, 1) := by decide +kernel
theorem dX10_exceptionsBy_18 : decode cX10_exceptionsBy 18 = .ok (.laload, 1) := by decide +kernel
theorem dX10_exceptionsBy_19 : decode cX10_exceptionsBy 19 = .ok (.invokestatic 128, 3) := by decide +kernel
theorem dX10_exceptionsBy_22 : decode cX10_exceptionsBy 22 = .ok (.iload_n 1, 1) := by decide +kernel
theorem dX10_exceptionsBy_23 : decode cX10_exceptionsBy 23 = .ok (.if_icmp .le 7, 3) := by decide +kernel
theorem dX10_exceptionsBy_26 : decode cX10_exceptionsBy 26 = .ok (.iconst 1, 1) := by decide +kernel
theorem dX10_exceptionsBy_27 : decode cX10_exceptionsBy 27 = .ok (.goto 4, 3) := by decide +kernel
theorem dX10_exceptionsBy_30 : decode cX10_exceptionsBy 30 = .ok (.iconst 0, 1) := by decide +kernel
theorem dX10_exceptionsBy_31 : decode cX10_exceptionsBy 31 = .ok (.iadd, 1) := by decide +kernel
theorem dX10_exceptionsBy_32 : decode cX10_exceptionsBy 32 = .ok (.istore_n 2, 1) := by decide +kernel
theorem dX10_exceptionsBy_33 : decode cX10_exceptionsBy 33 = .ok (.iinc 3 1, 3) := by decide +kernel
theorem dX10_exceptionsBy_36 : decode cX10_exceptionsBy 36 = .ok (.goto (-32), 3) := by decide +kernel
theorem dX10_exceptionsBy_39 : decode cX10_exceptionsBy 39 = .ok (.iload_n 2, 1) := by decide +kernel
theorem dX10_exceptionsBy_40 : decode cX10_exceptionsBy 40 = .ok (.ireturn, 1) := by decide +kernel
theorem dX10_totalBy_0 : decode cX10_totalBy 0 = .ok (.aload_n 0, 1) := by decide +kernel
theorem dX10_totalBy_1 : decode cX10_totalBy 1 = .ok (.iload_n 2, 1) := by decide +kernel
theorem dX10_totalBy_2 : decode cX10_totalBy 2 = .ok (.invokevirtual 132, 3) := by decide +kernel
theorem dX10_totalBy_5 : decode cX10_totalBy 5 = .ok (.istore_n 3, 1) := by decide +kernel
theorem dX10_totalBy_6 : decode cX10_totalBy 6 = .ok (.iload_n 3, 1) := by decide +kernel
theorem dX10_totalBy_7 : decode cX10_totalBy 7 = .ok (.bipush 15, 2) := by decide +kernel
theorem dX10_totalBy_9 : decode cX10_totalBy 9 = .ok (.if_icmp .le 5, 3) := by decide +kernel
theorem dX10_totalBy_12 : decode cX10_totalBy 12 = .ok (.iconst (-1), 1) := by decide +kernel
theorem dX10_totalBy_13 : decode cX10_totalBy 13 = .ok (.ireturn, 1) := by decide +kernel
theorem dX10_totalBy_14 : decode cX10_totalBy 14 = .ok (.aload_n 0, 1) := by decide +kernel
theorem dX10_totalBy_15 : decode cX10_totalBy 15 = .ok (.getfield 94, 3) := by decide +kernel
theorem dX10_totalBy_18 : decode cX10_totalBy 18 = .ok (.aload_n 0, 1) := by decide +kernel
theorem dX10_totalBy_19 : decode cX10_totalBy 19 = .ok (.getfield 91, 3) := by decide +kernel
theorem dX10_totalBy_22 : decode cX10_totalBy 22 = .ok (.if_icmp .ge 10, 3) := by decide +kernel
theorem dX10_totalBy_25 : decode cX10_totalBy 25 = .ok (.aload_n 0, 1) := by decide +kernel
theorem dX10_totalBy_26 : decode cX10_totalBy 26 = .ok (.getfield 91, 3) := by decide +kernel
theorem dX10_totalBy_29 : decode cX10_totalBy 29 = .ok (.goto 4, 3) := by decide +kernel
theorem dX10_totalBy_32 : decode cX10_totalBy 32 = .ok (.iconst 0, 1) := by decide +kernel
theorem dX10_totalBy_33 : decode cX10_totalBy 33 = .ok (.istore 4, 2) := by decide +kernel
theorem dX10_totalBy_35 : decode cX10_totalBy 35 = .ok (.iconst 5, 1) := by decide +kernel
theorem dX10_totalBy_36 : decode cX10_totalBy 36 = .ok (.iload 4, 2) := by decide +kernel
theorem dX10_totalBy_38 : decode cX10_totalBy 38 = .ok (.iadd, 1) := by decide +kernel
theorem dX10_totalBy_39 : decode cX10_totalBy 39 = .ok (.iconst 2, 1) := by decide +kernel
theorem dX10_totalBy_40 : decode cX10_totalBy 40 = .ok (.iadd, 1) := by decide +kernel
theorem dX10_totalBy_41 : decode cX10_totalBy 41 = .ok (.bipush 6, 2) := by decide +kernel
theorem dX10_totalBy_43 : decode cX10_totalBy 43 = .ok (.iadd, 1) := by decide +kernel
theorem dX10_totalBy_44 : decode cX10_totalBy 44 = .ok (.iconst 4, 1) := by decide +kernel
theorem dX10_totalBy_45 : decode cX10_totalBy 45 = .ok (.iadd, 1) := by decide +kernel
theorem dX10_totalBy_46 : decode cX10_totalBy 46 = .ok (.bipush 32, 2) := by decide +kernel
theorem dX10_totalBy_48 : decode cX10_totalBy 48 = .ok (.iadd, 1) := by decide +kernel
theorem dX10_totalBy_49 : decode cX10_totalBy 49 = .ok (.iload_n 1, 1) := by decide +kernel
theorem dX10_totalBy_50 : decode cX10_totalBy 50 = .ok (.iconst 2, 1) := by decide +kernel
theorem dX10_totalBy_51 : decode cX10_totalBy 51 = .ok (.if_icmp .ne 8, 3) := by decide +kernel
theorem dX10_totalBy_54 : decode cX10_totalBy 54 = .ok (.bipush 32, 2) := by decide +kernel
theorem dX10_totalBy_56 : decode cX10_totalBy 56 = .ok (.goto 4, 3) := by decide +kernel
theorem dX10_totalBy_59 : decode cX10_totalBy 59 = .ok (.iconst 0, 1) := by decide +kernel
theorem dX10_totalBy_60 : decode cX10_totalBy 60 = .ok (.iadd, 1) := by decide +kernel
theorem dX10_totalBy_61 : decode cX10_totalBy 61 = .ok (.iload_n 2, 1) := by decide +kernel
theorem dX10_totalBy_62 : decode cX10_totalBy 62 = .ok (.aload_n 0, 1) := by decide +kernel
theorem dX10_totalBy_63 : decode cX10_totalBy 63 = .ok (.getfield 112, 3) := by decide +kernel
theorem dX10_totalBy_66 : decode cX10_totalBy 66 = .ok (.imul, 1) := by decide +kernel
theorem dX10_totalBy_67 : decode cX10_totalBy 67 = .ok (.iadd, 1) := by decide +kernel
theorem dX10_totalBy_68 : decode cX10_totalBy 68 = .ok (.iload_n 3, 1) := by decide +kernel
theorem dX10_totalBy_69 : decode cX10_totalBy 69 = .ok (.bipush 36, 2) := by decide +kernel
theorem dX10_totalBy_71 : decode cX10_totalBy 71 = .ok (.iload_n 2, 1) := by decide +kernel
theorem dX10_totalBy_72 : decode cX10_totalBy 72 = .ok (.isub, 1) := by decide +kernel
theorem dX10_totalBy_73 : decode cX10_totalBy 73 = .ok (.imul, 1) := by decide +kernel
theorem dX10_totalBy_74 : decode cX10_totalBy 74 = .ok (.iadd, 1) := by decide +kernel
theorem dX10_totalBy_75 : decode cX10_totalBy 75 = .ok (.ireturn, 1) := by decide +kernel
theorem dX10_findBest_0 : decode cX10_findBest 0 = .ok (.aload_n 0, 1) := by decide +kernel
theorem dX10_findBest_1 : decode cX10_findBest 1 = .ok (.iconst (-1), 1) := by decide +kernel
theorem dX10_findBest_2 : decode cX10_findBest 2 = .ok (.putfield 135, 3) := by decide +kernel
theorem dX10_findBest_5 : decode cX10_findBest 5 = .ok (.aload_n 0, 1) := by decide +kernel
theorem dX10_findBest_6 : decode cX10_findBest 6 = .ok (.aload_n 0, 1) := by decide +kernel
theorem dX10_findBest_7 : decode cX10_findBest 7 = .ok (.getfield 94, 3) := by decide +kernel
theorem dX10_findBest_10 : decode cX10_findBest 10 = .ok (.iconst 1, 1) := by decide +kernel
theorem dX10_findBest_11 : decode cX10_findBest 11 = .ok (.if_icmp .le 10, 3) := by decide +kernel
theorem dX10_findBest_14 : decode cX10_findBest 14 = .ok (.aload_n 0, 1) := by decide +kernel
theorem dX10_findBest_15 : decode cX10_findBest 15 = .ok (.invokevirtual 138, 3) := by decide +kernel
theorem dX10_findBest_18 : decode cX10_findBest 18 = .ok (.goto 4, 3) := by decide +kernel
theorem dX10_findBest_21 : decode cX10_findBest 21 = .ok (.iconst 0, 1) := by decide +kernel
theorem dX10_findBest_22 : decode cX10_findBest 22 = .ok (.putfield 141, 3) := by decide +kernel
theorem dX10_findBest_25 : decode cX10_findBest 25 = .ok (.iconst 0, 1) := by decide +kernel
theorem dX10_findBest_26 : decode cX10_findBest 26 = .ok (.istore_n 1, 1) := by decide +kernel
theorem dX10_findBest_27 : decode cX10_findBest 27 = .ok (.iload_n 1, 1) := by decide +kernel
theorem dX10_findBest_28 : decode cX10_findBest 28 = .ok (.iconst 3, 1) := by decide +kernel
theorem dX10_findBest_29 : decode cX10_findBest 29 = .ok (.if_icmp .ge 93, 3) := by decide +kernel
theorem dX10_findBest_32 : decode cX10_findBest 32 = .ok (.aload_n 0, 1) := by decide +kernel
theorem dX10_findBest_33 : decode cX10_findBest 33 = .ok (.iload_n 1, 1) := by decide +kernel
theorem dX10_findBest_34 : decode cX10_findBest 34 = .ok (.invokevirtual 144, 3) := by decide +kernel
theorem dX10_findBest_37 : decode cX10_findBest 37 = .ok (.ifCond .ne 6, 3) := by decide +kernel
theorem dX10_findBest_40 : decode cX10_findBest 40 = .ok (.goto 76, 3) := by decide +kernel
theorem dX10_findBest_43 : decode cX10_findBest 43 = .ok (.aload_n 0, 1) := by decide +kernel
theorem dX10_findBest_44 : decode cX10_findBest 44 = .ok (.aload_n 0, 1) := by decide +kernel
theorem dX10_findBest_45 : decode cX10_findBest 45 = .ok (.getfield 141, 3) := by decide +kernel
theorem dX10_findBest_48 : decode cX10_findBest 48 = .ok (.putfield 123, 3) := by decide +kernel
theorem dX10_findBest_51 : decode cX10_findBest 51 = .ok (.aload_n 0, 1) := by decide +kernel
theorem dX10_findBest_52 : decode cX10_findBest 52 = .ok (.iload_n 1, 1) := by decide +kernel
theorem dX10_findBest_53 : decode cX10_findBest 53 = .ok (.invokevirtual 147, 3) := by decide +kernel
theorem dX10_findBest_56 : decode cX10_findBest 56 = .ok (.iconst 0, 1) := by decide +kernel
theorem dX10_findBest_57 : decode cX10_findBest 57 = .ok (.istore_n 2, 1) := by decide +kernel
theorem dX10_findBest_58 : decode cX10_findBest 58 = .ok (.iload_n 2, 1) := by decide +kernel
theorem dX10_findBest_59 : decode cX10_findBest 59 = .ok (.bipush 32, 2) := by decide +kernel
theorem dX10_findBest_61 : decode cX10_findBest 61 = .ok (.if_icmp .gt 55, 3) := by decide +kernel
theorem dX10_findBest_64 : decode cX10_findBest 64 = .ok (.aload_n 0, 1) := by decide +kernel
theorem dX10_findBest_65 : decode cX10_findBest 65 = .ok (.iload_n 1, 1) := by decide +kernel
theorem dX10_findBest_66 : decode cX10_findBest 66 = .ok (.iload_n 2, 1) := by decide +kernel
theorem dX10_findBest_67 : decode cX10_findBest 67 = .ok (.invokevirtual 151, 3) := by decide +kernel
theorem dX10_findBest_70 : decode cX10_findBest 70 = .ok (.istore_n 3, 1) := by decide +kernel
theorem dX10_findBest_71 : decode cX10_findBest 71 = .ok (.iload_n 3, 1) := by decide +kernel
theorem dX10_findBest_72 : decode cX10_findBest 72 = .ok (.iconst (-1), 1) := by decide +kernel
theorem dX10_findBest_73 : decode cX10_findBest 73 = .ok (.if_icmp .eq 37, 3) := by decide +kernel
theorem dX10_findBest_76 : decode cX10_findBest 76 = .ok (.aload_n 0, 1) := by decide +kernel
theorem dX10_findBest_77 : decode cX10_findBest 77 = .ok (.getfield 135, 3) := by decide +kernel
theorem dX10_findBest_80 : decode cX10_findBest 80 = .ok (.iconst (-1), 1) := by decide +kernel
theorem dX10_findBest_81 : decode cX10_findBest 81 = .ok (.if_icmp .eq 14, 3) := by decide +kernel
theorem dX10_findBest_84 : decode cX10_findBest 84 = .ok (.iload_n 3, 1) := by decide +kernel
theorem dX10_findBest_85 : decode cX10_findBest 85 = .ok (.aload_n 0, 1) := by decide +kernel
theorem dX10_findBest_86 : decode cX10_findBest 86 = .ok (.getfield 135, 3) := by decide +kernel
theorem dX10_findBest_89 : decode cX10_findBest 89 = .ok (.if_icmp .lt 6, 3) := by decide +kernel
theorem dX10_findBest_92 : decode cX10_findBest 92 = .ok (.goto 18, 3) := by decide +kernel
theorem dX10_findBest_95 : decode cX10_findBest 95 = .ok (.aload_n 0, 1) := by decide +kernel
theorem dX10_findBest_96 : decode cX10_findBest 96 = .ok (.iload_n 1, 1) := by decide +kernel
theorem dX10_findBest_97 : decode cX10_findBest 97 = .ok (.putfield 154, 3) := by decide +kernel
theorem dX10_findBest_100 : decode cX10_findBest 100 = .ok (.aload_n 0, 1) := by decide +kernel
theorem dX10_findBest_101 : decode cX10_findBest 101 = .ok (.iload_n 2, 1) := by decide +kernel
theorem dX10_findBest_102 : decode cX10_findBest 102 = .ok (.putfield 157, 3) := by decide +kernel
theorem dX10_findBest_105 : decode cX10_findBest 105 = .ok (.aload_n 0, 1) := by decide +kernel
theorem dX10_findBest_106 : decode cX10_findBest 106 = .ok (.iload_n 3, 1) := by decide +kernel
theorem dX10_findBest_107 : decode cX10_findBest 107 = .ok (.putfield 135, 3) := by decide +kernel
theorem dX10_findBest_110 : decode cX10_findBest 110 = .ok (.iinc 2 1, 3) := by decide +kernel
theorem dX10_findBest_113 : decode cX10_findBest 113 = .ok (.goto (-55), 3) := by decide +kernel
theorem dX10_findBest_116 : decode cX10_findBest 116 = .ok (.iinc 1 1, 3) := by decide +kernel
theorem dX10_findBest_119 : decode cX10_findBest 119 = .ok (.goto (-92), 3) := by decide +kernel
theorem dX10_findBest_122 : decode cX10_findBest 122 = .ok (.return_, 1) := by decide +kernel
theorem dX10_tellBlock_0 : decode cX10_tellBlock 0 = .ok (.aload_n 0, 1) := by decide +kernel
theorem dX10_tellBlock_1 : decode cX10_tellBlock 1 = .ok (.iload_n 1, 1) := by decide +kernel
theorem dX10_tellBlock_2 : decode cX10_tellBlock 2 = .ok (.iload_n 2, 1) := by decide +kernel
theorem dX10_tellBlock_3 : decode cX10_tellBlock 3 = .ok (.invokevirtual 160, 3) := by decide +kernel
theorem dX10_tellBlock_6 : decode cX10_tellBlock 6 = .ok (.aload_n 0, 1) := by decide +kernel
theorem dX10_tellBlock_7 : decode cX10_tellBlock 7 = .ok (.invokevirtual 164, 3) := by decide +kernel
theorem dX10_tellBlock_10 : decode cX10_tellBlock 10 = .ok (.aload_n 0, 1) := by decide +kernel
theorem dX10_tellBlock_11 : decode cX10_tellBlock 11 = .ok (.iload_n 1, 1) := by decide +kernel
theorem dX10_tellBlock_12 : decode cX10_tellBlock 12 = .ok (.iload_n 2, 1) := by decide +kernel
theorem dX10_tellBlock_13 : decode cX10_tellBlock 13 = .ok (.iconst 1, 1) := by decide +kernel
theorem dX10_tellBlock_14 : decode cX10_tellBlock 14 = .ok (.aload_n 0, 1) := by decide +kernel
theorem dX10_tellBlock_15 : decode cX10_tellBlock 15 = .ok (.getfield 154, 3) := by decide +kernel
theorem dX10_tellBlock_18 : decode cX10_tellBlock 18 = .ok (.invokevirtual 167, 3) := by decide +kernel
theorem dX10_tellBlock_21 : decode cX10_tellBlock 21 = .ok (.aload_n 0, 1) := by decide +kernel
theorem dX10_tellBlock_22 : decode cX10_tellBlock 22 = .ok (.iload_n 1, 1) := by decide +kernel
theorem dX10_tellBlock_23 : decode cX10_tellBlock 23 = .ok (.iload_n 2, 1) := by decide +kernel
theorem dX10_tellBlock_24 : decode cX10_tellBlock 24 = .ok (.iconst 2, 1) := by decide +kernel
theorem dX10_tellBlock_25 : decode cX10_tellBlock 25 = .ok (.aload_n 0, 1) := by decide +kernel
theorem dX10_tellBlock_26 : decode cX10_tellBlock 26 = .ok (.getfield 157, 3) := by decide +kernel
theorem dX10_tellBlock_29 : decode cX10_tellBlock 29 = .ok (.invokevirtual 167, 3) := by decide +kernel
theorem dX10_tellBlock_32 : decode cX10_tellBlock 32 = .ok (.aload_n 0, 1) := by decide +kernel
theorem dX10_tellBlock_33 : decode cX10_tellBlock 33 = .ok (.iload_n 1, 1) := by decide +kernel
theorem dX10_tellBlock_34 : decode cX10_tellBlock 34 = .ok (.iload_n 2, 1) := by decide +kernel
theorem dX10_tellBlock_35 : decode cX10_tellBlock 35 = .ok (.iconst 3, 1) := by decide +kernel
theorem dX10_tellBlock_36 : decode cX10_tellBlock 36 = .ok (.aload_n 0, 1) := by decide +kernel
theorem dX10_tellBlock_37 : decode cX10_tellBlock 37 = .ok (.getfield 154, 3) := by decide +kernel
theorem dX10_tellBlock_40 : decode cX10_tellBlock 40 = .ok (.iconst 2, 1) := by decide +kernel
theorem dX10_tellBlock_41 : decode cX10_tellBlock 41 = .ok (.if_icmp .ne 10, 3) := by decide +kernel
theorem dX10_tellBlock_44 : decode cX10_tellBlock 44 = .ok (.aload_n 0, 1) := by decide +kernel
theorem dX10_tellBlock_45 : decode cX10_tellBlock 45 = .ok (.getfield 141, 3) := by decide +kernel
theorem dX10_tellBlock_48 : decode cX10_tellBlock 48 = .ok (.goto 4, 3) := by decide +kernel
theorem dX10_tellBlock_51 : decode cX10_tellBlock 51 = .ok (.iconst 0, 1) := by decide +kernel
theorem dX10_tellBlock_52 : decode cX10_tellBlock 52 = .ok (.invokevirtual 167, 3) := by decide +kernel
theorem dX10_tellBlock_55 : decode cX10_tellBlock 55 = .ok (.return_, 1) := by decide +kernel
theorem dX10_tellAll_0 : decode cX10_tellAll 0 = .ok (.iconst 0, 1) := by decide +kernel
theorem dX10_tellAll_1 : decode cX10_tellAll 1 = .ok (.istore_n 2, 1) := by decide +kernel
theorem dX10_tellAll_2 : decode cX10_tellAll 2 = .ok (.iload_n 2, 1) := by decide +kernel
theorem dX10_tellAll_3 : decode cX10_tellAll 3 = .ok (.aload_n 0, 1) := by decide +kernel
theorem dX10_tellAll_4 : decode cX10_tellAll 4 = .ok (.iload_n 1, 1) := by decide +kernel
theorem dX10_tellAll_5 : decode cX10_tellAll 5 = .ok (.invokevirtual 77, 3) := by decide +kernel
theorem dX10_tellAll_8 : decode cX10_tellAll 8 = .ok (.if_icmp .ge 15, 3) := by decide +kernel
theorem dX10_tellAll_11 : decode cX10_tellAll 11 = .ok (.aload_n 0, 1) := by decide +kernel
theorem dX10_tellAll_12 : decode cX10_tellAll 12 = .ok (.iload_n 1, 1) := by decide +kernel
theorem dX10_tellAll_13 : decode cX10_tellAll 13 = .ok (.iload_n 2, 1) := by decide +kernel
theorem dX10_tellAll_14 : decode cX10_tellAll 14 = .ok (.invokevirtual 171, 3) := by decide +kernel
theorem dX10_tellAll_17 : decode cX10_tellAll 17 = .ok (.iinc 2 1, 3) := by decide +kernel
theorem dX10_tellAll_20 : decode cX10_tellAll 20 = .ok (.goto (-18), 3) := by decide +kernel
theorem dX10_tellAll_23 : decode cX10_tellAll 23 = .ok (.return_, 1) := by decide +kernel
theorem dX10_layBlock_0 : decode cX10_layBlock 0 = .ok (.aload_n 0, 1) := by decide +kernel
theorem dX10_layBlock_1 : decode cX10_layBlock 1 = .ok (.iload_n 1, 1) := by decide +kernel
theorem dX10_layBlock_2 : decode cX10_layBlock 2 = .ok (.iload_n 2, 1) := by decide +kernel
theorem dX10_layBlock_3 : decode cX10_layBlock 3 = .ok (.invokevirtual 160, 3) := by decide +kernel
theorem dX10_layBlock_6 : decode cX10_layBlock 6 = .ok (.aload_n 0, 1) := by decide +kernel
theorem dX10_layBlock_7 : decode cX10_layBlock 7 = .ok (.aload_n 0, 1) := by decide +kernel
theorem dX10_layBlock_8 : decode cX10_layBlock 8 = .ok (.iload_n 1, 1) := by decide +kernel
theorem dX10_layBlock_9 : decode cX10_layBlock 9 = .ok (.iload_n 2, 1) := by decide +kernel
theorem dX10_layBlock_10 : decode cX10_layBlock 10 = .ok (.iconst 3, 1) := by decide +kernel
theorem dX10_layBlock_11 : decode cX10_layBlock 11 = .ok (.invokevirtual 73, 3) := by decide +kernel
theorem dX10_layBlock_14 : decode cX10_layBlock 14 = .ok (.putfield 123, 3) := by decide +kernel
theorem dX10_layBlock_17 : decode cX10_layBlock 17 = .ok (.aload_n 0, 1) := by decide +kernel
theorem dX10_layBlock_18 : decode cX10_layBlock 18 = .ok (.aload_n 0, 1) := by decide +kernel
theorem dX10_layBlock_19 : decode cX10_layBlock 19 = .ok (.iload_n 1, 1) := by decide +kernel
theorem dX10_layBlock_20 : decode cX10_layBlock 20 = .ok (.iload_n 2, 1) := by decide +kernel
theorem dX10_layBlock_21 : decode cX10_layBlock 21 = .ok (.iconst 1, 1) := by decide +kernel
theorem dX10_layBlock_22 : decode cX10_layBlock 22 = .ok (.invokevirtual 73, 3) := by decide +kernel
theorem dX10_layBlock_25 : decode cX10_layBlock 25 = .ok (.invokevirtual 147, 3) := by decide +kernel
theorem dX10_layBlock_28 : decode cX10_layBlock 28 = .ok (.return_, 1) := by decide +kernel
theorem dX10_bitsOfBlock_0 : decode cX10_bitsOfBlock 0 = .ok (.aload_n 0, 1) := by decide +kernel
theorem dX10_bitsOfBlock_1 : decode cX10_bitsOfBlock 1 = .ok (.iload_n 1, 1) := by decide +kernel
theorem dX10_bitsOfBlock_2 : decode cX10_bitsOfBlock 2 = .ok (.iload_n 2, 1) := by decide +kernel
theorem dX10_bitsOfBlock_3 : decode cX10_bitsOfBlock 3 = .ok (.invokevirtual 174, 3) := by decide +kernel
theorem dX10_bitsOfBlock_6 : decode cX10_bitsOfBlock 6 = .ok (.aload_n 0, 1) := by decide +kernel
theorem dX10_bitsOfBlock_7 : decode cX10_bitsOfBlock 7 = .ok (.aload_n 0, 1) := by decide +kernel
theorem dX10_bitsOfBlock_8 : decode cX10_bitsOfBlock 8 = .ok (.iload_n 1, 1) := by decide +kernel
theorem dX10_bitsOfBlock_9 : decode cX10_bitsOfBlock 9 = .ok (.iload_n 2, 1) := by decide +kernel
theorem dX10_bitsOfBlock_10 : decode cX10_bitsOfBlock 10 = .ok (.iconst 1, 1) := by decide +kernel
theorem dX10_bitsOfBlock_11 : decode cX10_bitsOfBlock 11 = .ok (.invokevirtual 73, 3) := by decide +kernel
theorem dX10_bitsOfBlock_14 : decode cX10_bitsOfBlock 14 = .ok (.aload_n 0, 1) := by decide +kernel
theorem dX10_bitsOfBlock_15 : decode cX10_bitsOfBlock 15 = .ok (.iload_n 1, 1) := by decide +kernel
theorem dX10_bitsOfBlock_16 : decode cX10_bitsOfBlock 16 = .ok (.iload_n 2, 1) := by decide +kernel
theorem dX10_bitsOfBlock_17 : decode cX10_bitsOfBlock 17 = .ok (.iconst 2, 1) := by decide +kernel
theorem dX10_bitsOfBlock_18 : decode cX10_bitsOfBlock 18 = .ok (.invokevirtual 73, 3) := by decide +kernel
theorem dX10_bitsOfBlock_21 : decode cX10_bitsOfBlock 21 = .ok (.invokevirtual 151, 3) := by decide +kernel
theorem dX10_bitsOfBlock_24 : decode cX10_bitsOfBlock 24 = .ok (.ireturn, 1) := by decide +kernel
theorem dX10_bitsOfColumn_0 : decode cX10_bitsOfColumn 0 = .ok (.iconst 0, 1) := by decide +kernel
theorem dX10_bitsOfColumn_1 : decode cX10_bitsOfColumn 1 = .ok (.istore_n 2, 1) := by decide +kernel
theorem dX10_bitsOfColumn_2 : decode cX10_bitsOfColumn 2 = .ok (.iconst 0, 1) := by decide +kernel
theorem dX10_bitsOfColumn_3 : decode cX10_bitsOfColumn 3 = .ok (.istore_n 3, 1) := by decide +kernel
theorem dX10_bitsOfColumn_4 : decode cX10_bitsOfColumn 4 = .ok (.iload_n 3, 1) := by decide +kernel
theorem dX10_bitsOfColumn_5 : decode cX10_bitsOfColumn 5 = .ok (.aload_n 0, 1) := by decide +kernel
theorem dX10_bitsOfColumn_6 : decode cX10_bitsOfColumn 6 = .ok (.iload_n 1, 1) := by decide +kernel
theorem dX10_bitsOfColumn_7 : decode cX10_bitsOfColumn 7 = .ok (.invokevirtual 77, 3) := by decide +kernel
theorem dX10_bitsOfColumn_10 : decode cX10_bitsOfColumn 10 = .ok (.if_icmp .ge 18, 3) := by decide +kernel
theorem dX10_bitsOfColumn_13 : decode cX10_bitsOfColumn 13 = .ok (.iload_n 2, 1) := by decide +kernel
theorem dX10_bitsOfColumn_14 : decode cX10_bitsOfColumn 14 = .ok (.aload_n 0, 1) := by decide +kernel
theorem dX10_bitsOfColumn_15 : decode cX10_bitsOfColumn 15 = .ok (.iload_n 1, 1) := by decide +kernel
theorem dX10_bitsOfColumn_16 : decode cX10_bitsOfColumn 16 = .ok (.iload_n 3, 1) := by decide +kernel
theorem dX10_bitsOfColumn_17 : decode cX10_bitsOfColumn 17 = .ok (.invokevirtual 177, 3) := by decide +kernel
theorem dX10_bitsOfColumn_20 : decode cX10_bitsOfColumn 20 = .ok (.iadd, 1) := by decide +kernel
theorem dX10_bitsOfColumn_21 : decode cX10_bitsOfColumn 21 = .ok (.istore_n 2, 1) := by decide +kernel
theorem dX10_bitsOfColumn_22 : decode cX10_bitsOfColumn 22 = .ok (.iinc 3 1, 3) := by decide +kernel
theorem dX10_bitsOfColumn_25 : decode cX10_bitsOfColumn 25 = .ok (.goto (-21), 3) := by decide +kernel
theorem dX10_bitsOfColumn_28 : decode cX10_bitsOfColumn 28 = .ok (.iload_n 2, 1) := by decide +kernel
theorem dX10_bitsOfColumn_29 : decode cX10_bitsOfColumn 29 = .ok (.ireturn, 1) := by decide +kernel
theorem dX10_baseOf_0 : decode cX10_baseOf 0 = .ok (.aload_n 0, 1) := by decide +kernel
theorem dX10_baseOf_1 : decode cX10_baseOf 1 = .ok (.iload_n 1, 1) := by decide +kernel
theorem dX10_baseOf_2 : decode cX10_baseOf 2 = .ok (.iload_n 2, 1) := by decide +kernel
theorem dX10_baseOf_3 : decode cX10_baseOf 3 = .ok (.invokevirtual 160, 3) := by decide +kernel
theorem dX10_baseOf_6 : decode cX10_baseOf 6 = .ok (.aload_n 0, 1) := by decide +kernel
theorem dX10_baseOf_7 : decode cX10_baseOf 7 = .ok (.iload_n 1, 1) := by decide +kernel
theorem dX10_baseOf_8 : decode cX10_baseOf 8 = .ok (.iload_n 2, 1) := by decide +kernel
theorem dX10_baseOf_9 : decode cX10_baseOf 9 = .ok (.iconst 1, 1) := by decide +kernel
theorem dX10_baseOf_10 : decode cX10_baseOf 10 = .ok (.invokevirtual 73, 3) := by decide +kernel
theorem dX10_baseOf_13 : decode cX10_baseOf 13 = .ok (.ifCond .ne 10, 3) := by decide +kernel
theorem dX10_baseOf_16 : decode cX10_baseOf 16 = .ok (.aload_n 0, 1) := by decide +kernel
theorem dX10_baseOf_17 : decode cX10_baseOf 17 = .ok (.invokevirtual 115, 3) := by decide +kernel
theorem dX10_baseOf_20 : decode cX10_baseOf 20 = .ok (.goto 9, 3) := by decide +kernel
theorem dX10_baseOf_23 : decode cX10_baseOf 23 = .ok (.aload_n 0, 1) := by decide +kernel
theorem dX10_baseOf_24 : decode cX10_baseOf 24 = .ok (.getfield 16, 3) := by decide +kernel
theorem dX10_baseOf_27 : decode cX10_baseOf 27 = .ok (.iconst 0, 1) := by decide +kernel
theorem dX10_baseOf_28 : decode cX10_baseOf 28 = .ok (.iaload, 1) := by decide +kernel
theorem dX10_baseOf_29 : decode cX10_baseOf 29 = .ok (.ireturn, 1) := by decide +kernel
theorem dX10_putAside_0 : decode cX10_putAside 0 = .ok (.iconst 0, 1) := by decide +kernel
theorem dX10_putAside_1 : decode cX10_putAside 1 = .ok (.istore_n 1, 1) := by decide +kernel
theorem dX10_putAside_2 : decode cX10_putAside 2 = .ok (.iload_n 1, 1) := by decide +kernel
theorem dX10_putAside_3 : decode cX10_putAside 3 = .ok (.sipush 1093, 3) := by decide +kernel
theorem dX10_putAside_6 : decode cX10_putAside 6 = .ok (.if_icmp .ge 23, 3) := by decide +kernel
theorem dX10_putAside_9 : decode cX10_putAside 9 = .ok (.aload_n 0, 1) := by decide +kernel
theorem dX10_putAside_10 : decode cX10_putAside 10 = .ok (.getfield 23, 3) := by decide +kernel
theorem dX10_putAside_13 : decode cX10_putAside 13 = .ok (.iload_n 1, 1) := by decide +kernel
theorem dX10_putAside_14 : decode cX10_putAside 14 = .ok (.aload_n 0, 1) := by decide +kernel
theorem dX10_putAside_15 : decode cX10_putAside 15 = .ok (.getfield 7, 3) := by decide +kernel
theorem dX10_putAside_18 : decode cX10_putAside 18 = .ok (.iconst 2, 1) := by decide +kernel
theorem dX10_putAside_19 : decode cX10_putAside 19 = .ok (.iload_n 1, 1) := by decide +kernel
theorem dX10_putAside_20 : decode cX10_putAside 20 = .ok (.iadd, 1) := by decide +kernel
theorem dX10_putAside_21 : decode cX10_putAside 21 = .ok (.iaload, 1) := by decide +kernel
theorem dX10_putAside_22 : decode cX10_putAside 22 = .ok (.iastore, 1) := by decide +kernel
theorem dX10_putAside_23 : decode cX10_putAside 23 = .ok (.iinc 1 1, 3) := by decide +kernel
theorem dX10_putAside_26 : decode cX10_putAside 26 = .ok (.goto (-24), 3) := by decide +kernel
theorem dX10_putAside_29 : decode cX10_putAside 29 = .ok (.return_, 1) := by decide +kernel
theorem dX10_bringBack_0 : decode cX10_bringBack 0 = .ok (.iconst 0, 1) := by decide +kernel
theorem dX10_bringBack_1 : decode cX10_bringBack 1 = .ok (.istore_n 1, 1) := by decide +kernel
theorem dX10_bringBack_2 : decode cX10_bringBack 2 = .ok (.iload_n 1, 1) := by decide +kernel
theorem dX10_bringBack_3 : decode cX10_bringBack 3 = .ok (.sipush 1093, 3) := by decide +kernel
theorem dX10_bringBack_6 : decode cX10_bringBack 6 = .ok (.if_icmp .ge 23, 3) := by decide +kernel
theorem dX10_bringBack_9 : decode cX10_bringBack 9 = .ok (.aload_n 0, 1) := by decide +kernel
theorem dX10_bringBack_10 : decode cX10_bringBack 10 = .ok (.getfield 7, 3) := by decide +kernel
theorem dX10_bringBack_13 : decode cX10_bringBack 13 = .ok (.iconst 2, 1) := by decide +kernel
theorem dX10_bringBack_14 : decode cX10_bringBack 14 = .ok (.iload_n 1, 1) := by decide +kernel
theorem dX10_bringBack_15 : decode cX10_bringBack 15 = .ok (.iadd, 1) := by decide +kernel
theorem dX10_bringBack_16 : decode cX10_bringBack 16 = .ok (.aload_n 0, 1) := by decide +kernel
theorem dX10_bringBack_17 : decode cX10_bringBack 17 = .ok (.getfield 23, 3) := by decide +kernel
theorem dX10_bringBack_20 : decode cX10_bringBack 20 = .ok (.iload_n 1, 1) := by decide +kernel
theorem dX10_bringBack_21 : decode cX10_bringBack 21 = .ok (.iaload, 1) := by decide +kernel
theorem dX10_bringBack_22 : decode cX10_bringBack 22 = .ok (.iastore, 1) := by decide +kernel
theorem dX10_bringBack_23 : decode cX10_bringBack 23 = .ok (.iinc 1 1, 3) := by decide +kernel
theorem dX10_bringBack_26 : decode cX10_bringBack 26 = .ok (.goto (-24), 3) := by decide +kernel
theorem dX10_bringBack_29 : decode cX10_bringBack 29 = .ok (.return_, 1) := by decide +kernel
theorem dX10_stepAt_0 : decode cX10_stepAt 0 = .ok (.sipush 1095, 3) := by decide +kernel
theorem dX10_stepAt_3 : decode cX10_stepAt 3 = .ok (.sipush 1093, 3) := by decide +kernel
theorem dX10_stepAt_6 : decode cX10_stepAt 6 = .ok (.iload_n 0, 1) := by decide +kernel
theorem dX10_stepAt_7 : decode cX10_stepAt 7 = .ok (.iload_n 1, 1) := by decide +kernel
theorem dX10_stepAt_8 : decode cX10_stepAt 8 = .ok (.iadd, 1) := by decide +kernel
theorem dX10_stepAt_9 : decode cX10_stepAt 9 = .ok (.bipush 20, 2) := by decide +kernel
theorem dX10_stepAt_11 : decode cX10_stepAt 11 = .ok (.irem, 1) := by decide +kernel
theorem dX10_stepAt_12 : decode cX10_stepAt 12 = .ok (.imul, 1) := by decide +kernel
theorem dX10_stepAt_13 : decode cX10_stepAt 13 = .ok (.iadd, 1) := by decide +kernel
theorem dX10_stepAt_14 : decode cX10_stepAt 14 = .ok (.ireturn, 1) := by decide +kernel
theorem dX10_keep_0 : decode cX10_keep 0 = .ok (.aload_n 0, 1) := by decide +kernel
theorem dX10_keep_1 : decode cX10_keep 1 = .ok (.getfield 7, 3) := by decide +kernel
theorem dX10_keep_4 : decode cX10_keep 4 = .ok (.iconst 0, 1) := by decide +kernel
theorem dX10_keep_5 : decode cX10_keep 5 = .ok (.iaload, 1) := by decide +kernel
theorem dX10_keep_6 : decode cX10_keep 6 = .ok (.bipush 20, 2) := by decide +kernel
theorem dX10_keep_8 : decode cX10_keep 8 = .ok (.if_icmp .ne 30, 3) := by decide +kernel
theorem dX10_keep_11 : decode cX10_keep 11 = .ok (.aload_n 0, 1) := by decide +kernel
theorem dX10_keep_12 : decode cX10_keep 12 = .ok (.getfield 7, 3) := by decide +kernel
theorem dX10_keep_15 : decode cX10_keep 15 = .ok (.iconst 1, 1) := by decide +kernel
theorem dX10_keep_16 : decode cX10_keep 16 = .ok (.aload_n 0, 1) := by decide +kernel
theorem dX10_keep_17 : decode cX10_keep 17 = .ok (.getfield 7, 3) := by decide +kernel
theorem dX10_keep_20 : decode cX10_keep 20 = .ok (.iconst 1, 1) := by decide +kernel
theorem dX10_keep_21 : decode cX10_keep 21 = .ok (.iaload, 1) := by decide +kernel
theorem dX10_keep_22 : decode cX10_keep 22 = .ok (.iconst 1, 1) := by decide +kernel
theorem dX10_keep_23 : decode cX10_keep 23 = .ok (.iadd, 1) := by decide +kernel
theorem dX10_keep_24 : decode cX10_keep 24 = .ok (.bipush 20, 2) := by decide +kernel
theorem dX10_keep_26 : decode cX10_keep 26 = .ok (.irem, 1) := by decide +kernel
theorem dX10_keep_27 : decode cX10_keep 27 = .ok (.iastore, 1) := by decide +kernel
theorem dX10_keep_28 : decode cX10_keep 28 = .ok (.aload_n 0, 1) := by decide +kernel
theorem dX10_keep_29 : decode cX10_keep 29 = .ok (.getfield 7, 3) := by decide +kernel
theorem dX10_keep_32 : decode cX10_keep 32 = .ok (.iconst 0, 1) := by decide +kernel
theorem dX10_keep_33 : decode cX10_keep 33 = .ok (.dup2, 1) := by decide +kernel
theorem dX10_keep_34 : decode cX10_keep 34 = .ok (.iaload, 1) := by decide +kernel
theorem dX10_keep_35 : decode cX10_keep 35 = .ok (.iconst 1, 1) := by decide +kernel
theorem dX10_keep_36 : decode cX10_keep 36 = .ok (.isub, 1) := by decide +kernel
theorem dX10_keep_37 : decode cX10_keep 37 = .ok (.iastore, 1) := by decide +kernel
theorem dX10_keep_38 : decode cX10_keep 38 = .ok (.aload_n 0, 1) := by decide +kernel
theorem dX10_keep_39 : decode cX10_keep 39 = .ok (.getfield 7, 3) := by decide +kernel
theorem dX10_keep_42 : decode cX10_keep 42 = .ok (.iconst 1, 1) := by decide +kernel
theorem dX10_keep_43 : decode cX10_keep 43 = .ok (.iaload, 1) := by decide +kernel
theorem dX10_keep_44 : decode cX10_keep 44 = .ok (.aload_n 0, 1) := by decide +kernel
theorem dX10_keep_45 : decode cX10_keep 45 = .ok (.getfield 7, 3) := by decide +kernel
theorem dX10_keep_48 : decode cX10_keep 48 = .ok (.iconst 0, 1) := by decide +kernel
theorem dX10_keep_49 : decode cX10_keep 49 = .ok (.iaload, 1) := by decide +kernel
theorem dX10_keep_50 : decode cX10_keep 50 = .ok (.invokestatic 180, 3) := by decide +kernel
theorem dX10_keep_53 : decode cX10_keep 53 = .ok (.istore_n 1, 1) := by decide +kernel
theorem dX10_keep_54 : decode cX10_keep 54 = .ok (.iconst 0, 1) := by decide +kernel
theorem dX10_keep_55 : decode cX10_keep 55 = .ok (.istore_n 2, 1) := by decide +kernel
theorem dX10_keep_56 : decode cX10_keep 56 = .ok (.iload_n 2, 1) := by decide +kernel
theorem dX10_keep_57 : decode cX10_keep 57 = .ok (.sipush 1093, 3) := by decide +kernel
theorem dX10_keep_60 : decode cX10_keep 60 = .ok (.if_icmp .ge 25, 3) := by decide +kernel
theorem dX10_keep_63 : decode cX10_keep 63 = .ok (.aload_n 0, 1) := by decide +kernel
theorem dX10_keep_64 : decode cX10_keep 64 = .ok (.getfield 7, 3) := by decide +kernel
theorem dX10_keep_67 : decode cX10_keep 67 = .ok (.iload_n 1, 1) := by decide +kernel
theorem dX10_keep_68 : decode cX10_keep 68 = .ok (.iload_n 2, 1) := by decide +kernel
theorem dX10_keep_69 : decode cX10_keep 69 = .ok (.iadd, 1) := by decide +kernel
theorem dX10_keep_70 : decode cX10_keep 70 = .ok (.aload_n 0, 1) := by decide +kernel
theorem dX10_keep_71 : decode cX10_keep 71 = .ok (.getfield 7, 3) := by decide +kernel
theorem dX10_keep_74 : decode cX10_keep 74 = .ok (.iconst 2, 1) := by decide +kernel
theorem dX10_keep_75 : decode cX10_keep 75 = .ok (.iload_n 2, 1) := by decide +kernel
theorem dX10_keep_76 : decode cX10_keep 76 = .ok (.iadd, 1) := by decide +kernel
theorem dX10_keep_77 : decode cX10_keep 77 = .ok (.iaload, 1) := by decide +kernel
theorem dX10_keep_78 : decode cX10_keep 78 = .ok (.iastore, 1) := by decide +kernel
theorem dX10_keep_79 : decode cX10_keep 79 = .ok (.iinc 2 1, 3) := by decide +kernel
theorem dX10_keep_82 : decode cX10_keep 82 = .ok (.goto (-26), 3) := by decide +kernel
theorem dX10_keep_85 : decode cX10_keep 85 = .ok (.aload_n 0, 1) := by decide +kernel
theorem dX10_keep_86 : decode cX10_keep 86 = .ok (.getfield 7, 3) := by decide +kernel
theorem dX10_keep_89 : decode cX10_keep 89 = .ok (.iconst 0, 1) := by decide +kernel
theorem dX10_keep_90 : decode cX10_keep 90 = .ok (.dup2, 1) := by decide +kernel
theorem dX10_keep_91 : decode cX10_keep 91 = .ok (.iaload, 1) := by decide +kernel
theorem dX10_keep_92 : decode cX10_keep 92 = .ok (.iconst 1, 1) := by decide +kernel
theorem dX10_keep_93 : decode cX10_keep 93 = .ok (.iadd, 1) := by decide +kernel
theorem dX10_keep_94 : decode cX10_keep 94 = .ok (.iastore, 1) := by decide +kernel
theorem dX10_keep_95 : decode cX10_keep 95 = .ok (.return_, 1) := by decide +kernel
theorem dX10_undo_0 : decode cX10_undo 0 = .ok (.aload_n 0, 1) := by decide +kernel
theorem dX10_undo_1 : decode cX10_undo 1 = .ok (.getfield 7, 3) := by decide +kernel
theorem dX10_undo_4 : decode cX10_undo 4 = .ok (.iconst 0, 1) := by decide +kernel
theorem dX10_undo_5 : decode cX10_undo 5 = .ok (.iaload, 1) := by decide +kernel
theorem dX10_undo_6 : decode cX10_undo 6 = .ok (.ifCond .ne 5, 3) := by decide +kernel
theorem dX10_undo_9 : decode cX10_undo 9 = .ok (.iconst (-1), 1) := by decide +kernel
theorem dX10_undo_10 : decode cX10_undo 10 = .ok (.ireturn, 1) := by decide +kernel
theorem dX10_undo_11 : decode cX10_undo 11 = .ok (.aload_n 0, 1) := by decide +kernel
theorem dX10_undo_12 : decode cX10_undo 12 = .ok (.getfield 7, 3) := by decide +kernel
theorem dX10_undo_15 : decode cX10_undo 15 = .ok (.iconst 0, 1) := by decide +kernel
theorem dX10_undo_16 : decode cX10_undo 16 = .ok (.dup2, 1) := by decide +kernel
theorem dX10_undo_17 : decode cX10_undo 17 = .ok (.iaload, 1) := by decide +kernel
theorem dX10_undo_18 : decode cX10_undo 18 = .ok (.iconst 1, 1) := by decide +kernel
theorem dX10_undo_19 : decode cX10_undo 19 = .ok (.isub, 1) := by decide +kernel
theorem dX10_undo_20 : decode cX10_undo 20 = .ok (.iastore, 1) := by decide +kernel
theorem dX10_undo_21 : decode cX10_undo 21 = .ok (.aload_n 0, 1) := by decide +kernel
theorem dX10_undo_22 : decode cX10_undo 22 = .ok (.getfield 7, 3) := by decide +kernel
theorem dX10_undo_25 : decode cX10_undo 25 = .ok (.iconst 1, 1) := by decide +kernel
theorem dX10_undo_26 : decode cX10_undo 26 = .ok (.iaload, 1) := by decide +kernel
theorem dX10_undo_27 : decode cX10_undo 27 = .ok (.aload_n 0, 1) := by decide +kernel
theorem dX10_undo_28 : decode cX10_undo 28 = .ok (.getfield 7, 3) := by decide +kernel
theorem dX10_undo_31 : decode cX10_undo 31 = .ok (.iconst 0, 1) := by decide +kernel
theorem dX10_undo_32 : decode cX10_undo 32 = .ok (.iaload, 1) := by decide +kernel
theorem dX10_undo_33 : decode cX10_undo 33 = .ok (.invokestatic 180, 3) := by decide +kernel
theorem dX10_undo_36 : decode cX10_undo 36 = .ok (.istore_n 1, 1) := by decide +kernel
theorem dX10_undo_37 : decode cX10_undo 37 = .ok (.iconst 0, 1) := by decide +kernel
theorem dX10_undo_38 : decode cX10_undo 38 = .ok (.istore_n 2, 1) := by decide +kernel
theorem dX10_undo_39 : decode cX10_undo 39 = .ok (.iload_n 2, 1) := by decide +kernel
theorem dX10_undo_40 : decode cX10_undo 40 = .ok (.sipush 1093, 3) := by decide +kernel
theorem dX10_undo_43 : decode cX10_undo 43 = .ok (.if_icmp .ge 25, 3) := by decide +kernel
theorem dX10_undo_46 : decode cX10_undo 46 = .ok (.aload_n 0, 1) := by decide +kernel
theorem dX10_undo_47 : decode cX10_undo 47 = .ok (.getfield 7, 3) := by decide +kernel
theorem dX10_undo_50 : decode cX10_undo 50 = .ok (.iconst 2, 1) := by decide +kernel
theorem dX10_undo_51 : decode cX10_undo 51 = .ok (.iload_n 2, 1) := by decide +kernel
theorem dX10_undo_52 : decode cX10_undo 52 = .ok (.iadd, 1) := by decide +kernel
theorem dX10_undo_53 : decode cX10_undo 53 = .ok (.aload_n 0, 1) := by decide +kernel
theorem dX10_undo_54 : decode cX10_undo 54 = .ok (.getfield 7, 3) := by decide +kernel
theorem dX10_undo_57 : decode cX10_undo 57 = .ok (.iload_n 1, 1) := by decide +kernel
theorem dX10_undo_58 : decode cX10_undo 58 = .ok (.iload_n 2, 1) := by decide +kernel
theorem dX10_undo_59 : decode cX10_undo 59 = .ok (.iadd, 1) := by decide +kernel
theorem dX10_undo_60 : decode cX10_undo 60 = .ok (.iaload, 1) := by decide +kernel
theorem dX10_undo_61 : decode cX10_undo 61 = .ok (.iastore, 1) := by decide +kernel
theorem dX10_undo_62 : decode cX10_undo 62 = .ok (.iinc 2 1, 3) := by decide +kernel
theorem dX10_undo_65 : decode cX10_undo 65 = .ok (.goto (-26), 3) := by decide +kernel
theorem dX10_undo_68 : decode cX10_undo 68 = .ok (.aload_n 0, 1) := by decide +kernel
theorem dX10_undo_69 : decode cX10_undo 69 = .ok (.getfield 7, 3) := by decide +kernel
theorem dX10_undo_72 : decode cX10_undo 72 = .ok (.iconst 0, 1) := by decide +kernel
theorem dX10_undo_73 : decode cX10_undo 73 = .ok (.iaload, 1) := by decide +kernel
theorem dX10_undo_74 : decode cX10_undo 74 = .ok (.ireturn, 1) := by decide +kernel
theorem dX10_openPlaces_0 : decode cX10_openPlaces 0 = .ok (.aload_n 0, 1) := by decide +kernel
theorem dX10_openPlaces_1 : decode cX10_openPlaces 1 = .ok (.iload_n 1, 1) := by decide +kernel
theorem dX10_openPlaces_2 : decode cX10_openPlaces 2 = .ok (.invokevirtual 88, 3) := by decide +kernel
theorem dX10_openPlaces_5 : decode cX10_openPlaces 5 = .ok (.iconst 1, 1) := by decide +kernel
theorem dX10_openPlaces_6 : decode cX10_openPlaces 6 = .ok (.isub, 1) := by decide +kernel
theorem dX10_openPlaces_7 : decode cX10_openPlaces 7 = .ok (.istore 4, 2) := by decide +kernel
theorem dX10_openPlaces_9 : decode cX10_openPlaces 9 = .ok (.iload 4, 2) := by decide +kernel
theorem dX10_openPlaces_11 : decode cX10_openPlaces 11 = .ok (.iload_n 2, 1) := by decide +kernel
theorem dX10_openPlaces_12 : decode cX10_openPlaces 12 = .ok (.if_icmp .lt 32, 3) := by decide +kernel
theorem dX10_openPlaces_15 : decode cX10_openPlaces 15 = .ok (.aload_n 0, 1) := by decide +kernel
theorem dX10_openPlaces_16 : decode cX10_openPlaces 16 = .ok (.iload_n 1, 1) := by decide +kernel
theorem dX10_openPlaces_17 : decode cX10_openPlaces 17 = .ok (.iload 4, 2) := by decide +kernel
theorem dX10_openPlaces_19 : decode cX10_openPlaces 19 = .ok (.iload_n 3, 1) := by decide +kernel
theorem dX10_openPlaces_20 : decode cX10_openPlaces 20 = .ok (.iadd, 1) := by decide +kernel
theorem dX10_openPlaces_21 : decode cX10_openPlaces 21 = .ok (.aload_n 0, 1) := by decide +kernel
theorem dX10_openPlaces_22 : decode cX10_openPlaces 22 = .ok (.iload_n 1, 1) := by decide +kernel
theorem dX10_openPlaces_23 : decode cX10_openPlaces 23 = .ok (.iload 4, 2) := by decide +kernel
theorem dX10_openPlaces_25 : decode cX10_openPlaces 25 = .ok (.invokevirtual 101, 3) := by decide +kernel
theorem dX10_openPlaces_28 : decode cX10_openPlaces 28 = .ok (.aload_n 0, 1) := by decide +kernel
theorem dX10_openPlaces_29 : decode cX10_openPlaces 29 = .ok (.iload_n 1, 1) := by decide +kernel
theorem dX10_openPlaces_30 : decode cX10_openPlaces 30 = .ok (.iload 4, 2) := by decide +kernel
theorem dX10_openPlaces_32 : decode cX10_openPlaces 32 = .ok (.invokevirtual 97, 3) := by decide +kernel
theorem dX10_openPlaces_35 : decode cX10_openPlaces 35 = .ok (.invokevirtual 183, 3) := by decide +kernel
theorem dX10_openPlaces_38 : decode cX10_openPlaces 38 = .ok (.iinc 4 (-1), 3) := by decide +kernel
theorem dX10_openPlaces_41 : decode cX10_openPlaces 41 = .ok (.goto (-32), 3) := by decide +kernel
theorem dX10_openPlaces_44 : decode cX10_openPlaces 44 = .ok (.return_, 1) := by decide +kernel
theorem dX10_shutPlaces_0 : decode cX10_shutPlaces 0 = .ok (.aload_n 0, 1) := by decide +kernel
theorem dX10_shutPlaces_1 : decode cX10_shutPlaces 1 = .ok (.iload_n 1, 1) := by decide +kernel
theorem dX10_shutPlaces_2 : decode cX10_shutPlaces 2 = .ok (.invokevirtual 88, 3) := by decide +kernel
theorem dX10_shutPlaces_5 : decode cX10_shutPlaces 5 = .ok (.istore 4, 2) := by decide +kernel
theorem dX10_shutPlaces_7 : decode cX10_shutPlaces 7 = .ok (.iload_n 2, 1) := by decide +kernel
theorem dX10_shutPlaces_8 : decode cX10_shutPlaces 8 = .ok (.iload_n 3, 1) := by decide +kernel
theorem dX10_shutPlaces_9 : decode cX10_shutPlaces 9 = .ok (.iadd, 1) := by decide +kernel
theorem dX10_shutPlaces_10 : decode cX10_shutPlaces 10 = .ok (.istore 5, 2) := by decide +kernel
theorem dX10_shutPlaces_12 : decode cX10_shutPlaces 12 = .ok (.iload 5, 2) := by decide +kernel
theorem dX10_shutPlaces_14 : decode cX10_shutPlaces 14 = .ok (.iload 4, 2) := by decide +kernel
theorem dX10_shutPlaces_16 : decode cX10_shutPlaces 16 = .ok (.if_icmp .ge 32, 3) := by decide +kernel
theorem dX10_shutPlaces_19 : decode cX10_shutPlaces 19 = .ok (.aload_n 0, 1) := by decide +kernel
theorem dX10_shutPlaces_20 : decode cX10_shutPlaces 20 = .ok (.iload_n 1, 1) := by decide +kernel
theorem dX10_shutPlaces_21 : decode cX10_shutPlaces 21 = .ok (.iload 5, 2) := by decide +kernel
theorem dX10_shutPlaces_23 : decode cX10_shutPlaces 23 = .ok (.iload_n 3, 1) := by decide +kernel
theorem dX10_shutPlaces_24 : decode cX10_shutPlaces 24 = .ok (.isub, 1) := by decide +kernel
theorem dX10_shutPlaces_25 : decode cX10_shutPlaces 25 = .ok (.aload_n 0, 1) := by decide +kernel
theorem dX10_shutPlaces_26 : decode cX10_shutPlaces 26 = .ok (.iload_n 1, 1) := by decide +kernel
theorem dX10_shutPlaces_27 : decode cX10_shutPlaces 27 = .ok (.iload 5, 2) := by decide +kernel
theorem dX10_shutPlaces_29 : decode cX10_shutPlaces 29 = .ok (.invokevirtual 101, 3) := by decide +kernel
theorem dX10_shutPlaces_32 : decode cX10_shutPlaces 32 = .ok (.aload_n 0, 1) := by decide +kernel
theorem dX10_shutPlaces_33 : decode cX10_shutPlaces 33 = .ok (.iload_n 1, 1) := by decide +kernel
theorem dX10_shutPlaces_34 : decode cX10_shutPlaces 34 = .ok (.iload 5, 2) := by decide +kernel
theorem dX10_shutPlaces_36 : decode cX10_shutPlaces 36 = .ok (.invokevirtual 97, 3) := by decide +kernel
theorem dX10_shutPlaces_39 : decode cX10_shutPlaces 39 = .ok (.invokevirtual 183, 3) := by decide +kernel
theorem dX10_shutPlaces_42 : decode cX10_shutPlaces 42 = .ok (.iinc 5 1, 3) := by decide +kernel
theorem dX10_shutPlaces_45 : decode cX10_shutPlaces 45 = .ok (.goto (-33), 3) := by decide +kernel
theorem dX10_shutPlaces_48 : decode cX10_shutPlaces 48 = .ok (.iload 4, 2) := by decide +kernel
theorem dX10_shutPlaces_50 : decode cX10_shutPlaces 50 = .ok (.iload_n 3, 1) := by decide +kernel
theorem dX10_shutPlaces_51 : decode cX10_shutPlaces 51 = .ok (.isub, 1) := by decide +kernel
theorem dX10_shutPlaces_52 : decode cX10_shutPlaces 52 = .ok (.istore 5, 2) := by decide +kernel
theorem dX10_shutPlaces_54 : decode cX10_shutPlaces 54 = .ok (.iload 5, 2) := by decide +kernel
theorem dX10_shutPlaces_56 : decode cX10_shutPlaces 56 = .ok (.iload 4, 2) := by decide +kernel
theorem dX10_shutPlaces_58 : decode cX10_shutPlaces 58 = .ok (.if_icmp .ge 18, 3) := by decide +kernel
theorem dX10_shutPlaces_61 : decode cX10_shutPlaces 61 = .ok (.aload_n 0, 1) := by decide +kernel
theorem dX10_shutPlaces_62 : decode cX10_shutPlaces 62 = .ok (.iload_n 1, 1) := by decide +kernel
theorem dX10_shutPlaces_63 : decode cX10_shutPlaces 63 = .ok (.iload 5, 2) := by decide +kernel
theorem dX10_shutPlaces_65 : decode cX10_shutPlaces 65 = .ok (.iconst 0, 1) := by decide +kernel
theorem dX10_shutPlaces_66 : decode cX10_shutPlaces 66 = .ok (.iconst 0, 1) := by decide +kernel
theorem dX10_shutPlaces_67 : decode cX10_shutPlaces 67 = .ok (.invokevirtual 183, 3) := by decide +kernel
theorem dX10_shutPlaces_70 : decode cX10_shutPlaces 70 = .ok (.iinc 5 1, 3) := by decide +kernel
theorem dX10_shutPlaces_73 : decode cX10_shutPlaces 73 = .ok (.goto (-19), 3) := by decide +kernel
theorem dX10_shutPlaces_76 : decode cX10_shutPlaces 76 = .ok (.return_, 1) := by decide +kernel
theorem dX10_openBlock_0 : decode cX10_openBlock 0 = .ok (.iload_n 1, 1) := by decide +kernel
theorem dX10_openBlock_1 : decode cX10_openBlock 1 = .ok (.invokestatic 69, 3) := by decide +kernel
theorem dX10_openBlock_4 : decode cX10_openBlock 4 = .ok (.iconst 1, 1) := by decide +kernel
theorem dX10_openBlock_5 : decode cX10_openBlock 5 = .ok (.iadd, 1) := by decide +kernel
theorem dX10_openBlock_6 : decode cX10_openBlock 6 = .ok (.istore 4, 2) := by decide +kernel
theorem dX10_openBlock_8 : decode cX10_openBlock 8 = .ok (.iconst 4, 1) := by decide +kernel
theorem dX10_openBlock_9 : decode cX10_openBlock 9 = .ok (.aload_n 0, 1) := by decide +kernel
theorem dX10_openBlock_10 : decode cX10_openBlock 10 = .ok (.iload_n 1, 1) := by decide +kernel
theorem dX10_openBlock_11 : decode cX10_openBlock 11 = .ok (.invokevirtual 77, 3) := by decide +kernel
theorem dX10_openBlock_14 : decode cX10_openBlock 14 = .ok (.imul, 1) := by decide +kernel
theorem dX10_openBlock_15 : decode cX10_openBlock 15 = .ok (.iconst 1, 1) := by decide +kernel
theorem dX10_openBlock_16 : decode cX10_openBlock 16 = .ok (.isub, 1) := by decide +kernel
theorem dX10_openBlock_17 : decode cX10_openBlock 17 = .ok (.istore 5, 2) := by decide +kernel
theorem dX10_openBlock_19 : decode cX10_openBlock 19 = .ok (.iload 5, 2) := by decide +kernel
theorem dX10_openBlock_21 : decode cX10_openBlock 21 = .ok (.iconst 4, 1) := by decide +kernel
theorem dX10_openBlock_22 : decode cX10_openBlock 22 = .ok (.iload_n 2, 1) := by decide +kernel
theorem dX10_openBlock_23 : decode cX10_openBlock 23 = .ok (.imul, 1) := by decide +kernel
theorem dX10_openBlock_24 : decode cX10_openBlock 24 = .ok (.if_icmp .lt 31, 3) := by decide +kernel
theorem dX10_openBlock_27 : decode cX10_openBlock 27 = .ok (.aload_n 0, 1) := by decide +kernel
theorem dX10_openBlock_28 : decode cX10_openBlock 28 = .ok (.getfield 7, 3) := by decide +kernel
theorem dX10_openBlock_31 : decode cX10_openBlock 31 = .ok (.iload 4, 2) := by decide +kernel
theorem dX10_openBlock_33 : decode cX10_openBlock 33 = .ok (.iload 5, 2) := by decide +kernel
theorem dX10_openBlock_35 : decode cX10_openBlock 35 = .ok (.iadd, 1) := by decide +kernel
theorem dX10_openBlock_36 : decode cX10_openBlock 36 = .ok (.iconst 4, 1) := by decide +kernel
theorem dX10_openBlock_37 : decode cX10_openBlock 37 = .ok (.iadd, 1) := by decide +kernel
theorem dX10_openBlock_38 : decode cX10_openBlock 38 = .ok (.aload_n 0, 1) := by decide +kernel
theorem dX10_openBlock_39 : decode cX10_openBlock 39 = .ok (.getfield 7, 3) := by decide +kernel
theorem dX10_openBlock_42 : decode cX10_openBlock 42 = .ok (.iload 4, 2) := by decide +kernel
theorem dX10_openBlock_44 : decode cX10_openBlock 44 = .ok (.iload 5, 2) := by decide +kernel
theorem dX10_openBlock_46 : decode cX10_openBlock 46 = .ok (.iadd, 1) := by decide +kernel
theorem dX10_openBlock_47 : decode cX10_openBlock 47 = .ok (.iaload, 1) := by decide +kernel
theorem dX10_openBlock_48 : decode cX10_openBlock 48 = .ok (.iastore, 1) := by decide +kernel
theorem dX10_openBlock_49 : decode cX10_openBlock 49 = .ok (.iinc 5 (-1), 3) := by decide +kernel
theorem dX10_openBlock_52 : decode cX10_openBlock 52 = .ok (.goto (-33), 3) := by decide +kernel
theorem dX10_openBlock_55 : decode cX10_openBlock 55 = .ok (.aload_n 0, 1) := by decide +kernel
theorem dX10_openBlock_56 : decode cX10_openBlock 56 = .ok (.getfield 7, 3) := by decide +kernel
theorem dX10_openBlock_59 : decode cX10_openBlock 59 = .ok (.iload_n 1, 1) := by decide +kernel
theorem dX10_openBlock_60 : decode cX10_openBlock 60 = .ok (.invokestatic 69, 3) := by decide +kernel
theorem dX10_openBlock_63 : decode cX10_openBlock 63 = .ok (.dup2, 1) := by decide +kernel
theorem dX10_openBlock_64 : decode cX10_openBlock 64 = .ok (.iaload, 1) := by decide +kernel
theorem dX10_openBlock_65 : decode cX10_openBlock 65 = .ok (.iconst 1, 1) := by decide +kernel
theorem dX10_openBlock_66 : decode cX10_openBlock 66 = .ok (.iadd, 1) := by decide +kernel
theorem dX10_openBlock_67 : decode cX10_openBlock 67 = .ok (.iastore, 1) := by decide +kernel
theorem dX10_openBlock_68 : decode cX10_openBlock 68 = .ok (.aload_n 0, 1) := by decide +kernel
theorem dX10_openBlock_69 : decode cX10_openBlock 69 = .ok (.iload_n 1, 1) := by decide +kernel
theorem dX10_openBlock_70 : decode cX10_openBlock 70 = .ok (.iload_n 2, 1) := by decide +kernel
theorem dX10_openBlock_71 : decode cX10_openBlock 71 = .ok (.iconst 0, 1) := by decide +kernel
theorem dX10_openBlock_72 : decode cX10_openBlock 72 = .ok (.iload_n 3, 1) := by decide +kernel
theorem dX10_openBlock_73 : decode cX10_openBlock 73 = .ok (.invokevirtual 167, 3) := by decide +kernel
theorem dX10_openBlock_76 : decode cX10_openBlock 76 = .ok (.return_, 1) := by decide +kernel
theorem dX10_shutBlock_0 : decode cX10_shutBlock 0 = .ok (.iload_n 1, 1) := by decide +kernel
theorem dX10_shutBlock_1 : decode cX10_shutBlock 1 = .ok (.invokestatic 69, 3) := by decide +kernel
theorem dX10_shutBlock_4 : decode cX10_shutBlock 4 = .ok (.iconst 1, 1) := by decide +kernel
theorem dX10_shutBlock_5 : decode cX10_shutBlock 5 = .ok (.iadd, 1) := by decide +kernel
theorem dX10_shutBlock_6 : decode cX10_shutBlock 6 = .ok (.istore_n 3, 1) := by decide +kernel
theorem dX10_shutBlock_7 : decode cX10_shutBlock 7 = .ok (.iconst 4, 1) := by decide +kernel
theorem dX10_shutBlock_8 : decode cX10_shutBlock 8 = .ok (.iload_n 2, 1) := by decide +kernel
theorem dX10_shutBlock_9 : decode cX10_shutBlock 9 = .ok (.imul, 1) := by decide +kernel
theorem dX10_shutBlock_10 : decode cX10_shutBlock 10 = .ok (.istore 4, 2) := by decide +kernel
theorem dX10_shutBlock_12 : decode cX10_shutBlock 12 = .ok (.iload 4, 2) := by decide +kernel
theorem dX10_shutBlock_14 : decode cX10_shutBlock 14 = .ok (.iconst 4, 1) := by decide +kernel
theorem dX10_shutBlock_15 : decode cX10_shutBlock 15 = .ok (.aload_n 0, 1) := by decide +kernel
theorem dX10_shutBlock_16 : decode cX10_shutBlock 16 = .ok (.iload_n 1, 1) := by decide +kernel
theorem dX10_shutBlock_17 : decode cX10_shutBlock 17 = .ok (.invokevirtual 77, 3) := by decide +kernel
theorem dX10_shutBlock_20 : decode cX10_shutBlock 20 = .ok (.imul, 1) := by decide +kernel
theorem dX10_shutBlock_21 : decode cX10_shutBlock 21 = .ok (.iconst 4, 1) := by decide +kernel
theorem dX10_shutBlock_22 : decode cX10_shutBlock 22 = .ok (.isub, 1) := by decide +kernel
theorem dX10_shutBlock_23 : decode cX10_shutBlock 23 = .ok (.if_icmp .ge 29, 3) := by decide +kernel
theorem dX10_shutBlock_26 : decode cX10_shutBlock 26 = .ok (.aload_n 0, 1) := by decide +kernel
theorem dX10_shutBlock_27 : decode cX10_shutBlock 27 = .ok (.getfield 7, 3) := by decide +kernel
theorem dX10_shutBlock_30 : decode cX10_shutBlock 30 = .ok (.iload_n 3, 1) := by decide +kernel
theorem dX10_shutBlock_31 : decode cX10_shutBlock 31 = .ok (.iload 4, 2) := by decide +kernel
theorem dX10_shutBlock_33 : decode cX10_shutBlock 33 = .ok (.iadd, 1) := by decide +kernel
theorem dX10_shutBlock_34 : decode cX10_shutBlock 34 = .ok (.aload_n 0, 1) := by decide +kernel
theorem dX10_shutBlock_35 : decode cX10_shutBlock 35 = .ok (.getfield 7, 3) := by decide +kernel
theorem dX10_shutBlock_38 : decode cX10_shutBlock 38 = .ok (.iload_n 3, 1) := by decide +kernel
theorem dX10_shutBlock_39 : decode cX10_shutBlock 39 = .ok (.iload 4, 2) := by decide +kernel
theorem dX10_shutBlock_41 : decode cX10_shutBlock 41 = .ok (.iadd, 1) := by decide +kernel
theorem dX10_shutBlock_42 : decode cX10_shutBlock 42 = .ok (.iconst 4, 1) := by decide +kernel
theorem dX10_shutBlock_43 : decode cX10_shutBlock 43 = .ok (.iadd, 1) := by decide +kernel
theorem dX10_shutBlock_44 : decode cX10_shutBlock 44 = .ok (.iaload, 1) := by decide +kernel
theorem dX10_shutBlock_45 : decode cX10_shutBlock 45 = .ok (.iastore, 1) := by decide +kernel
theorem dX10_shutBlock_46 : decode cX10_shutBlock 46 = .ok (.iinc 4 1, 3) := by decide +kernel
theorem dX10_shutBlock_49 : decode cX10_shutBlock 49 = .ok (.goto (-37), 3) := by decide +kernel
theorem dX10_shutBlock_52 : decode cX10_shutBlock 52 = .ok (.aload_n 0, 1) := by decide +kernel
theorem dX10_shutBlock_53 : decode cX10_shutBlock 53 = .ok (.getfield 7, 3) := by decide +kernel
theorem dX10_shutBlock_56 : decode cX10_shutBlock 56 = .ok (.iload_n 1, 1) := by decide +kernel
theorem dX10_shutBlock_57 : decode cX10_shutBlock 57 = .ok (.invokestatic 69, 3) := by decide +kernel
theorem dX10_shutBlock_60 : decode cX10_shutBlock 60 = .ok (.dup2, 1) := by decide +kernel
theorem dX10_shutBlock_61 : decode cX10_shutBlock 61 = .ok (.iaload, 1) := by decide +kernel
theorem dX10_shutBlock_62 : decode cX10_shutBlock 62 = .ok (.iconst 1, 1) := by decide +kernel
theorem dX10_shutBlock_63 : decode cX10_shutBlock 63 = .ok (.isub, 1) := by decide +kernel
theorem dX10_shutBlock_64 : decode cX10_shutBlock 64 = .ok (.iastore, 1) := by decide +kernel
theorem dX10_shutBlock_65 : decode cX10_shutBlock 65 = .ok (.iconst 0, 1) := by decide +kernel
theorem dX10_shutBlock_66 : decode cX10_shutBlock 66 = .ok (.istore 4, 2) := by decide +kernel
theorem dX10_shutBlock_68 : decode cX10_shutBlock 68 = .ok (.iload 4, 2) := by decide +kernel
theorem dX10_shutBlock_70 : decode cX10_shutBlock 70 = .ok (.iconst 4, 1) := by decide +kernel
theorem dX10_shutBlock_71 : decode cX10_shutBlock 71 = .ok (.if_icmp .ge 22, 3) := by decide +kernel
theorem dX10_shutBlock_74 : decode cX10_shutBlock 74 = .ok (.aload_n 0, 1) := by decide +kernel
theorem dX10_shutBlock_75 : decode cX10_shutBlock 75 = .ok (.iload_n 1, 1) := by decide +kernel
theorem dX10_shutBlock_76 : decode cX10_shutBlock 76 = .ok (.aload_n 0, 1) := by decide +kernel
theorem dX10_shutBlock_77 : decode cX10_shutBlock 77 = .ok (.iload_n 1, 1) := by decide +kernel
theorem dX10_shutBlock_78 : decode cX10_shutBlock 78 = .ok (.invokevirtual 77, 3) := by decide +kernel
theorem dX10_shutBlock_81 : decode cX10_shutBlock 81 = .ok (.iload 4, 2) := by decide +kernel
theorem dX10_shutBlock_83 : decode cX10_shutBlock 83 = .ok (.iconst 0, 1) := by decide +kernel
theorem dX10_shutBlock_84 : decode cX10_shutBlock 84 = .ok (.invokevirtual 167, 3) := by decide +kernel
theorem dX10_shutBlock_87 : decode cX10_shutBlock 87 = .ok (.iinc 4 1, 3) := by decide +kernel
theorem dX10_shutBlock_90 : decode cX10_shutBlock 90 = .ok (.goto (-22), 3) := by decide +kernel
theorem dX10_shutBlock_93 : decode cX10_shutBlock 93 = .ok (.return_, 1) := by decide +kernel
theorem dX10_hasRoom_0 : decode cX10_hasRoom 0 = .ok (.aload_n 0, 1) := by decide +kernel
theorem dX10_hasRoom_1 : decode cX10_hasRoom 1 = .ok (.iload_n 1, 1) := by decide +kernel
theorem dX10_hasRoom_2 : decode cX10_hasRoom 2 = .ok (.invokevirtual 88, 3) := by decide +kernel
theorem dX10_hasRoom_5 : decode cX10_hasRoom 5 = .ok (.iload_n 2, 1) := by decide +kernel
theorem dX10_hasRoom_6 : decode cX10_hasRoom 6 = .ok (.iadd, 1) := by decide +kernel
theorem dX10_hasRoom_7 : decode cX10_hasRoom 7 = .ok (.sipush 128, 3) := by decide +kernel
theorem dX10_hasRoom_10 : decode cX10_hasRoom 10 = .ok (.if_icmp .gt 19, 3) := by decide +kernel
theorem dX10_hasRoom_13 : decode cX10_hasRoom 13 = .ok (.aload_n 0, 1) := by decide +kernel
theorem dX10_hasRoom_14 : decode cX10_hasRoom 14 = .ok (.iload_n 1, 1) := by decide +kernel
theorem dX10_hasRoom_15 : decode cX10_hasRoom 15 = .ok (.invokevirtual 77, 3) := by decide +kernel
theorem dX10_hasRoom_18 : decode cX10_hasRoom 18 = .ok (.iload_n 3, 1) := by decide +kernel
theorem dX10_hasRoom_19 : decode cX10_hasRoom 19 = .ok (.iadd, 1) := by decide +kernel
theorem dX10_hasRoom_20 : decode cX10_hasRoom 20 = .ok (.bipush 24, 2) := by decide +kernel
theorem dX10_hasRoom_22 : decode cX10_hasRoom 22 = .ok (.if_icmp .gt 7, 3) := by decide +kernel
theorem dX10_hasRoom_25 : decode cX10_hasRoom 25 = .ok (.iconst 1, 1) := by decide +kernel
theorem dX10_hasRoom_26 : decode cX10_hasRoom 26 = .ok (.goto 4, 3) := by decide +kernel
theorem dX10_hasRoom_29 : decode cX10_hasRoom 29 = .ok (.iconst 0, 1) := by decide +kernel
theorem dX10_hasRoom_30 : decode cX10_hasRoom 30 = .ok (.ireturn, 1) := by decide +kernel
theorem dX10_pend_0 : decode cX10_pend 0 = .ok (.aload_n 0, 1) := by decide +kernel
theorem dX10_pend_1 : decode cX10_pend 1 = .ok (.getfield 7, 3) := by decide +kernel
theorem dX10_pend_4 : decode cX10_pend 4 = .ok (.iconst 3, 1) := by decide +kernel
theorem dX10_pend_5 : decode cX10_pend 5 = .ok (.iaload, 1) := by decide +kernel
theorem dX10_pend_6 : decode cX10_pend 6 = .ok (.bipush 16, 2) := by decide +kernel
theorem dX10_pend_8 : decode cX10_pend 8 = .ok (.if_icmp .ne 5, 3) := by decide +kernel
theorem dX10_pend_11 : decode cX10_pend 11 = .ok (.iconst (-1), 1) := by decide +kernel
theorem dX10_pend_12 : decode cX10_pend 12 = .ok (.ireturn, 1) := by decide +kernel
theorem dX10_pend_13 : decode cX10_pend 13 = .ok (.aload_n 0, 1) := by decide +kernel
theorem dX10_pend_14 : decode cX10_pend 14 = .ok (.getfield 7, 3) := by decide +kernel
theorem dX10_pend_17 : decode cX10_pend 17 = .ok (.iconst 4, 1) := by decide +kernel
theorem dX10_pend_18 : decode cX10_pend 18 = .ok (.aload_n 0, 1) := by decide +kernel
theorem dX10_pend_19 : decode cX10_pend 19 = .ok (.getfield 7, 3) := by decide +kernel
theorem dX10_pend_22 : decode cX10_pend 22 = .ok (.iconst 3, 1) := by decide +kernel
theorem dX10_pend_23 : decode cX10_pend 23 = .ok (.iaload, 1) := by decide +kernel
theorem dX10_pend_24 : decode cX10_pend 24 = .ok (.iadd, 1) := by decide +kernel
theorem dX10_pend_25 : decode cX10_pend 25 = .ok (.iload_n 1, 1) := by decide +kernel
theorem dX10_pend_26 : decode cX10_pend 26 = .ok (.iastore, 1) := by decide +kernel
theorem dX10_pend_27 : decode cX10_pend 27 = .ok (.aload_n 0, 1) := by decide +kernel
theorem dX10_pend_28 : decode cX10_pend 28 = .ok (.getfield 7, 3) := by decide +kernel
theorem dX10_pend_31 : decode cX10_pend 31 = .ok (.bipush 20, 2) := by decide +kernel
theorem dX10_pend_33 : decode cX10_pend 33 = .ok (.aload_n 0, 1) := by decide +kernel
theorem dX10_pend_34 : decode cX10_pend 34 = .ok (.getfield 7, 3) := by decide +kernel
theorem dX10_pend_37 : decode cX10_pend 37 = .ok (.iconst 3, 1) := by decide +kernel
theorem dX10_pend_38 : decode cX10_pend 38 = .ok (.iaload, 1) := by decide +kernel
theorem dX10_pend_39 : decode cX10_pend 39 = .ok (.iadd, 1) := by decide +kernel
theorem dX10_pend_40 : decode cX10_pend 40 = .ok (.iload_n 2, 1) := by decide +kernel
theorem dX10_pend_41 : decode cX10_pend 41 = .ok (.ifCond .eq 7, 3) := by decide +kernel
theorem dX10_pend_44 : decode cX10_pend 44 = .ok (.iconst 1, 1) := by decide +kernel
theorem dX10_pend_45 : decode cX10_pend 45 = .ok (.goto 4, 3) := by decide +kernel
theorem dX10_pend_48 : decode cX10_pend 48 = .ok (.iconst 0, 1) := by decide +kernel
theorem dX10_pend_49 : decode cX10_pend 49 = .ok (.iastore, 1) := by decide +kernel
theorem dX10_pend_50 : decode cX10_pend 50 = .ok (.aload_n 0, 1) := by decide +kernel
theorem dX10_pend_51 : decode cX10_pend 51 = .ok (.getfield 7, 3) := by decide +kernel
theorem dX10_pend_54 : decode cX10_pend 54 = .ok (.iconst 3, 1) := by decide +kernel
theorem dX10_pend_55 : decode cX10_pend 55 = .ok (.dup2, 1) := by decide +kernel
theorem dX10_pend_56 : decode cX10_pend 56 = .ok (.iaload, 1) := by decide +kernel
theorem dX10_pend_57 : decode cX10_pend 57 = .ok (.iconst 1, 1) := by decide +kernel
theorem dX10_pend_58 : decode cX10_pend 58 = .ok (.iadd, 1) := by decide +kernel
theorem dX10_pend_59 : decode cX10_pend 59 = .ok (.iastore, 1) := by decide +kernel
theorem dX10_pend_60 : decode cX10_pend 60 = .ok (.aload_n 0, 1) := by decide +kernel
theorem dX10_pend_61 : decode cX10_pend 61 = .ok (.getfield 7, 3) := by decide +kernel
theorem dX10_pend_64 : decode cX10_pend 64 = .ok (.iconst 3, 1) := by decide +kernel
theorem dX10_pend_65 : decode cX10_pend 65 = .ok (.iaload, 1) := by decide +kernel
theorem dX10_pend_66 : decode cX10_pend 66 = .ok (.ireturn, 1) := by decide +kernel
theorem dX10_put_0 : decode cX10_put 0 = .ok (.aload_n 0, 1) := by decide +kernel
theorem dX10_put_1 : decode cX10_put 1 = .ok (.iload_n 1, 1) := by decide +kernel
theorem dX10_put_2 : decode cX10_put 2 = .ok (.iconst 0, 1) := by decide +kernel
theorem dX10_put_3 : decode cX10_put 3 = .ok (.invokevirtual 187, 3) := by decide +kernel
theorem dX10_put_6 : decode cX10_put 6 = .ok (.ireturn, 1) := by decide +kernel
theorem dX10_gap_0 : decode cX10_gap 0 = .ok (.aload_n 0, 1) := by decide +kernel
theorem dX10_gap_1 : decode cX10_gap 1 = .ok (.iconst 0, 1) := by decide +kernel
theorem dX10_gap_2 : decode cX10_gap 2 = .ok (.iconst 1, 1) := by decide +kernel
theorem dX10_gap_3 : decode cX10_gap 3 = .ok (.invokevirtual 187, 3) := by decide +kernel
theorem dX10_gap_6 : decode cX10_gap 6 = .ok (.ireturn, 1) := by decide +kernel
theorem dX10_clearPending_0 : decode cX10_clearPending 0 = .ok (.iconst 0, 1) := by decide +kernel
theorem dX10_clearPending_1 : decode cX10_clearPending 1 = .ok (.istore_n 1, 1) := by decide +kernel
theorem dX10_clearPending_2 : decode cX10_clearPending 2 = .ok (.iload_n 1, 1) := by decide +kernel
theorem dX10_clearPending_3 : decode cX10_clearPending 3 = .ok (.bipush 32, 2) := by decide +kernel
theorem dX10_clearPending_5 : decode cX10_clearPending 5 = .ok (.if_icmp .ge 18, 3) := by decide +kernel
theorem dX10_clearPending_8 : decode cX10_clearPending 8 = .ok (.aload_n 0, 1) := by decide +kernel
theorem dX10_clearPending_9 : decode cX10_clearPending 9 = .ok (.getfield 7, 3) := by decide +kernel
theorem dX10_clearPending_12 : decode cX10_clearPending 12 = .ok (.iconst 4, 1) := by decide +kernel
theorem dX10_clearPending_13 : decode cX10_clearPending 13 = .ok (.iload_n 1, 1) := by decide +kernel
theorem dX10_clearPending_14 : decode cX10_clearPending 14 = .ok (.iadd, 1) := by decide +kernel
theorem dX10_clearPending_15 : decode cX10_clearPending 15 = .ok (.iconst 0, 1) := by decide +kernel
theorem dX10_clearPending_16 : decode cX10_clearPending 16 = .ok (.iastore, 1) := by decide +kernel
theorem dX10_clearPending_17 : decode cX10_clearPending 17 = .ok (.iinc 1 1, 3) := by decide +kernel
theorem dX10_clearPending_20 : decode cX10_clearPending 20 = .ok (.goto (-18), 3) := by decide +kernel
theorem dX10_clearPending_23 : decode cX10_clearPending 23 = .ok (.aload_n 0, 1) := by decide +kernel
theorem dX10_clearPending_24 : decode cX10_clearPending 24 = .ok (.getfield 7, 3) := by decide +kernel
theorem dX10_clearPending_27 : decode cX10_clearPending 27 = .ok (.iconst 3, 1) := by decide +kernel
theorem dX10_clearPending_28 : decode cX10_clearPending 28 = .ok (.iconst 0, 1) := by decide +kernel
theorem dX10_clearPending_29 : decode cX10_clearPending 29 = .ok (.iastore, 1) := by decide +kernel
theorem dX10_clearPending_30 : decode cX10_clearPending 30 = .ok (.return_, 1) := by decide +kernel
theorem dX10_forget_0 : decode cX10_forget 0 = .ok (.aload_n 0, 1) := by decide +kernel
theorem dX10_forget_1 : decode cX10_forget 1 = .ok (.getfield 7, 3) := by decide +kernel
theorem dX10_forget_4 : decode cX10_forget 4 = .ok (.iconst 3, 1) := by decide +kernel
theorem dX10_forget_5 : decode cX10_forget 5 = .ok (.iaload, 1) := by decide +kernel
theorem dX10_forget_6 : decode cX10_forget 6 = .ok (.istore_n 1, 1) := by decide +kernel
theorem dX10_forget_7 : decode cX10_forget 7 = .ok (.aload_n 0, 1) := by decide +kernel
theorem dX10_forget_8 : decode cX10_forget 8 = .ok (.invokevirtual 191, 3) := by decide +kernel
theorem dX10_forget_11 : decode cX10_forget 11 = .ok (.iload_n 1, 1) := by decide +kernel
theorem dX10_forget_12 : decode cX10_forget 12 = .ok (.ireturn, 1) := by decide +kernel
theorem dX10_flush_0 : decode cX10_flush 0 = .ok (.iload_n 1, 1) := by decide +kernel
theorem dX10_flush_1 : decode cX10_flush 1 = .ok (.invokestatic 84, 3) := by decide +kernel
theorem dX10_flush_4 : decode cX10_flush 4 = .ok (.ifCond .eq 27, 3) := by decide +kernel
theorem dX10_flush_7 : decode cX10_flush 7 = .ok (.aload_n 0, 1) := by decide +kernel
theorem dX10_flush_8 : decode cX10_flush 8 = .ok (.getfield 7, 3) := by decide +kernel
theorem dX10_flush_11 : decode cX10_flush 11 = .ok (.iconst 3, 1) := by decide +kernel
theorem dX10_flush_12 : decode cX10_flush 12 = .ok (.iaload, 1) := by decide +kernel
theorem dX10_flush_13 : decode cX10_flush 13 = .ok (.ifCond .eq 18, 3) := by decide +kernel
theorem dX10_flush_16 : decode cX10_flush 16 = .ok (.aload_n 0, 1) := by decide +kernel
theorem dX10_flush_17 : decode cX10_flush 17 = .ok (.iload_n 1, 1) := by decide +kernel
theorem dX10_flush_18 : decode cX10_flush 18 = .ok (.aload_n 0, 1) := by decide +kernel
theorem dX10_flush_19 : decode cX10_flush 19 = .ok (.getfield 7, 3) := by decide +kernel
theorem dX10_flush_22 : decode cX10_flush 22 = .ok (.iconst 3, 1) := by decide +kernel
theorem dX10_flush_23 : decode cX10_flush 23 = .ok (.iaload, 1) := by decide +kernel
theorem dX10_flush_24 : decode cX10_flush 24 = .ok (.iconst 1, 1) := by decide +kernel
theorem dX10_flush_25 : decode cX10_flush 25 = .ok (.invokevirtual 194, 3) := by decide +kernel
theorem dX10_flush_28 : decode cX10_flush 28 = .ok (.ifCond .ne 5, 3) := by decide +kernel
theorem dX10_flush_31 : decode cX10_flush 31 = .ok (.iconst (-1), 1) := by decide +kernel
theorem dX10_flush_32 : decode cX10_flush 32 = .ok (.ireturn, 1) := by decide +kernel
theorem dX10_flush_33 : decode cX10_flush 33 = .ok (.aload_n 0, 1) := by decide +kernel
theorem dX10_flush_34 : decode cX10_flush 34 = .ok (.invokevirtual 197, 3) := by decide +kernel
theorem dX10_flush_37 : decode cX10_flush 37 = .ok (.aload_n 0, 1) := by decide +kernel
theorem dX10_flush_38 : decode cX10_flush 38 = .ok (.iload_n 1, 1) := by decide +kernel
theorem dX10_flush_39 : decode cX10_flush 39 = .ok (.invokevirtual 88, 3) := by decide +kernel
theorem dX10_flush_42 : decode cX10_flush 42 = .ok (.istore_n 2, 1) := by decide +kernel
theorem dX10_flush_43 : decode cX10_flush 43 = .ok (.iconst 0, 1) := by decide +kernel
theorem dX10_flush_44 : decode cX10_flush 44 = .ok (.istore_n 3, 1) := by decide +kernel
theorem dX10_flush_45 : decode cX10_flush 45 = .ok (.iload_n 3, 1) := by decide +kernel
theorem dX10_flush_46 : decode cX10_flush 46 = .ok (.aload_n 0, 1) := by decide +kernel
theorem dX10_flush_47 : decode cX10_flush 47 = .ok (.getfield 7, 3) := by decide +kernel

