theorem dX5_init_0 : decode cX5_init 0 = .ok (.aload_n 0, 1) := by decide +kernel
theorem dX5_init_1 : decode cX5_init 1 = .ok (.invokespecial 3, 3) := by decide +kernel
theorem dX5_init_4 : decode cX5_init 4 = .ok (.aload_n 0, 1) := by decide +kernel
theorem dX5_init_5 : decode cX5_init 5 = .ok (.iload_n 1, 1) := by decide +kernel
theorem dX5_init_6 : decode cX5_init 6 = .ok (.ifCond .le 7, 3) := by decide +kernel
theorem dX5_init_9 : decode cX5_init 9 = .ok (.iload_n 1, 1) := by decide +kernel
theorem dX5_init_10 : decode cX5_init 10 = .ok (.goto 4, 3) := by decide +kernel
theorem dX5_init_13 : decode cX5_init 13 = .ok (.iconst 0, 1) := by decide +kernel
theorem dX5_init_14 : decode cX5_init 14 = .ok (.newarray .long, 2) := by decide +kernel
theorem dX5_init_16 : decode cX5_init 16 = .ok (.putfield 9, 3) := by decide +kernel
theorem dX5_init_19 : decode cX5_init 19 = .ok (.return_, 1) := by decide +kernel
theorem dX5_has_0 : decode cX5_has 0 = .ok (.iload_n 1, 1) := by decide +kernel
theorem dX5_has_1 : decode cX5_has 1 = .ok (.ifCond .lt 15, 3) := by decide +kernel
theorem dX5_has_4 : decode cX5_has 4 = .ok (.iload_n 1, 1) := by decide +kernel
theorem dX5_has_5 : decode cX5_has 5 = .ok (.aload_n 0, 1) := by decide +kernel
theorem dX5_has_6 : decode cX5_has 6 = .ok (.getfield 15, 3) := by decide +kernel
theorem dX5_has_9 : decode cX5_has 9 = .ok (.if_icmp .ge 7, 3) := by decide +kernel
theorem dX5_has_12 : decode cX5_has 12 = .ok (.iconst 1, 1) := by decide +kernel
theorem dX5_has_13 : decode cX5_has 13 = .ok (.goto 4, 3) := by decide +kernel
theorem dX5_has_16 : decode cX5_has 16 = .ok (.iconst 0, 1) := by decide +kernel
theorem dX5_has_17 : decode cX5_has 17 = .ok (.ireturn, 1) := by decide +kernel
theorem dX5_isFull_0 : decode cX5_isFull 0 = .ok (.aload_n 0, 1) := by decide +kernel
theorem dX5_isFull_1 : decode cX5_isFull 1 = .ok (.iload_n 1, 1) := by decide +kernel
theorem dX5_isFull_2 : decode cX5_isFull 2 = .ok (.invokevirtual 19, 3) := by decide +kernel
theorem dX5_isFull_5 : decode cX5_isFull 5 = .ok (.ifCond .eq 20, 3) := by decide +kernel
theorem dX5_isFull_8 : decode cX5_isFull 8 = .ok (.aload_n 0, 1) := by decide +kernel
theorem dX5_isFull_9 : decode cX5_isFull 9 = .ok (.getfield 9, 3) := by decide +kernel
theorem dX5_isFull_12 : decode cX5_isFull 12 = .ok (.iload_n 1, 1) := by decide +kernel
theorem dX5_isFull_13 : decode cX5_isFull 13 = .ok (.laload, 1) := by decide +kernel
theorem dX5_isFull_14 : decode cX5_isFull 14 = .ok (.ldc2_w 23, 3) := by decide +kernel
theorem dX5_isFull_17 : decode cX5_isFull 17 = .ok (.lcmp, 1) := by decide +kernel
theorem dX5_isFull_18 : decode cX5_isFull 18 = .ok (.ifCond .eq 7, 3) := by decide +kernel
theorem dX5_isFull_21 : decode cX5_isFull 21 = .ok (.iconst 1, 1) := by decide +kernel
theorem dX5_isFull_22 : decode cX5_isFull 22 = .ok (.goto 4, 3) := by decide +kernel
theorem dX5_isFull_25 : decode cX5_isFull 25 = .ok (.iconst 0, 1) := by decide +kernel
theorem dX5_isFull_26 : decode cX5_isFull 26 = .ok (.ireturn, 1) := by decide +kernel
theorem dX5_spans_0 : decode cX5_spans 0 = .ok (.iload_n 1, 1) := by decide +kernel
theorem dX5_spans_1 : decode cX5_spans 1 = .ok (.ifCond .lt 20, 3) := by decide +kernel
theorem dX5_spans_4 : decode cX5_spans 4 = .ok (.iload_n 1, 1) := by decide +kernel
theorem dX5_spans_5 : decode cX5_spans 5 = .ok (.iload_n 2, 1) := by decide +kernel
theorem dX5_spans_6 : decode cX5_spans 6 = .ok (.if_icmp .gt 15, 3) := by decide +kernel
theorem dX5_spans_9 : decode cX5_spans 9 = .ok (.iload_n 2, 1) := by decide +kernel
theorem dX5_spans_10 : decode cX5_spans 10 = .ok (.aload_n 0, 1) := by decide +kernel
theorem dX5_spans_11 : decode cX5_spans 11 = .ok (.getfield 15, 3) := by decide +kernel
theorem dX5_spans_14 : decode cX5_spans 14 = .ok (.if_icmp .gt 7, 3) := by decide +kernel
theorem dX5_spans_17 : decode cX5_spans 17 = .ok (.iconst 1, 1) := by decide +kernel
theorem dX5_spans_18 : decode cX5_spans 18 = .ok (.goto 4, 3) := by decide +kernel
theorem dX5_spans_21 : decode cX5_spans 21 = .ok (.iconst 0, 1) := by decide +kernel
theorem dX5_spans_22 : decode cX5_spans 22 = .ok (.ireturn, 1) := by decide +kernel
theorem dX5_tellAt_0 : decode cX5_tellAt 0 = .ok (.aload_n 0, 1) := by decide +kernel
theorem dX5_tellAt_1 : decode cX5_tellAt 1 = .ok (.iload_n 1, 1) := by decide +kernel
theorem dX5_tellAt_2 : decode cX5_tellAt 2 = .ok (.invokevirtual 19, 3) := by decide +kernel
theorem dX5_tellAt_5 : decode cX5_tellAt 5 = .ok (.ifCond .eq 12, 3) := by decide +kernel
theorem dX5_tellAt_8 : decode cX5_tellAt 8 = .ok (.aload_n 0, 1) := by decide +kernel
theorem dX5_tellAt_9 : decode cX5_tellAt 9 = .ok (.getfield 9, 3) := by decide +kernel
theorem dX5_tellAt_12 : decode cX5_tellAt 12 = .ok (.iload_n 1, 1) := by decide +kernel
theorem dX5_tellAt_13 : decode cX5_tellAt 13 = .ok (.laload, 1) := by decide +kernel
theorem dX5_tellAt_14 : decode cX5_tellAt 14 = .ok (.goto 6, 3) := by decide +kernel
theorem dX5_tellAt_17 : decode cX5_tellAt 17 = .ok (.ldc2_w 25, 3) := by decide +kernel
theorem dX5_tellAt_20 : decode cX5_tellAt 20 = .ok (.lreturn, 1) := by decide +kernel
theorem dX5_append_0 : decode cX5_append 0 = .ok (.aload_n 0, 1) := by decide +kernel
theorem dX5_append_1 : decode cX5_append 1 = .ok (.getfield 15, 3) := by decide +kernel
theorem dX5_append_4 : decode cX5_append 4 = .ok (.aload_n 0, 1) := by decide +kernel
theorem dX5_append_5 : decode cX5_append 5 = .ok (.getfield 9, 3) := by decide +kernel
theorem dX5_append_8 : decode cX5_append 8 = .ok (.arraylength, 1) := by decide +kernel
theorem dX5_append_9 : decode cX5_append 9 = .ok (.if_icmp .lt 5, 3) := by decide +kernel
theorem dX5_append_12 : decode cX5_append 12 = .ok (.iconst 0, 1) := by decide +kernel
theorem dX5_append_13 : decode cX5_append 13 = .ok (.ireturn, 1) := by decide +kernel
theorem dX5_append_14 : decode cX5_append 14 = .ok (.aload_n 0, 1) := by decide +kernel
theorem dX5_append_15 : decode cX5_append 15 = .ok (.getfield 9, 3) := by decide +kernel
theorem dX5_append_18 : decode cX5_append 18 = .ok (.aload_n 0, 1) := by decide +kernel
theorem dX5_append_19 : decode cX5_append 19 = .ok (.getfield 15, 3) := by decide +kernel
theorem dX5_append_22 : decode cX5_append 22 = .ok (.lload_n 1, 1) := by decide +kernel
theorem dX5_append_23 : decode cX5_append 23 = .ok (.lastore, 1) := by decide +kernel
theorem dX5_append_24 : decode cX5_append 24 = .ok (.aload_n 0, 1) := by decide +kernel
theorem dX5_append_25 : decode cX5_append 25 = .ok (.dup, 1) := by decide +kernel
theorem dX5_append_26 : decode cX5_append 26 = .ok (.getfield 15, 3) := by decide +kernel
theorem dX5_append_29 : decode cX5_append 29 = .ok (.iconst 1, 1) := by decide +kernel
theorem dX5_append_30 : decode cX5_append 30 = .ok (.iadd, 1) := by decide +kernel
theorem dX5_append_31 : decode cX5_append 31 = .ok (.putfield 15, 3) := by decide +kernel
theorem dX5_append_34 : decode cX5_append 34 = .ok (.iconst 1, 1) := by decide +kernel
theorem dX5_append_35 : decode cX5_append 35 = .ok (.ireturn, 1) := by decide +kernel
theorem dX5_appendFrom_0 : decode cX5_appendFrom 0 = .ok (.iload_n 2, 1) := by decide +kernel
theorem dX5_appendFrom_1 : decode cX5_appendFrom 1 = .ok (.istore 4, 2) := by decide +kernel
theorem dX5_appendFrom_3 : decode cX5_appendFrom 3 = .ok (.iload 4, 2) := by decide +kernel
theorem dX5_appendFrom_5 : decode cX5_appendFrom 5 = .ok (.iload_n 3, 1) := by decide +kernel
theorem dX5_appendFrom_6 : decode cX5_appendFrom 6 = .ok (.if_icmp .ge 30, 3) := by decide +kernel
theorem dX5_appendFrom_9 : decode cX5_appendFrom 9 = .ok (.aload_n 1, 1) := by decide +kernel
theorem dX5_appendFrom_10 : decode cX5_appendFrom 10 = .ok (.iload 4, 2) := by decide +kernel
theorem dX5_appendFrom_12 : decode cX5_appendFrom 12 = .ok (.invokevirtual 19, 3) := by decide +kernel
theorem dX5_appendFrom_15 : decode cX5_appendFrom 15 = .ok (.ifCond .eq 15, 3) := by decide +kernel
theorem dX5_appendFrom_18 : decode cX5_appendFrom 18 = .ok (.aload_n 0, 1) := by decide +kernel
theorem dX5_appendFrom_19 : decode cX5_appendFrom 19 = .ok (.aload_n 1, 1) := by decide +kernel
theorem dX5_appendFrom_20 : decode cX5_appendFrom 20 = .ok (.getfield 9, 3) := by decide +kernel
theorem dX5_appendFrom_23 : decode cX5_appendFrom 23 = .ok (.iload 4, 2) := by decide +kernel
theorem dX5_appendFrom_25 : decode cX5_appendFrom 25 = .ok (.laload, 1) := by decide +kernel
theorem dX5_appendFrom_26 : decode cX5_appendFrom 26 = .ok (.invokevirtual 27, 3) := by decide +kernel
theorem dX5_appendFrom_29 : decode cX5_appendFrom 29 = .ok (.pop, 1) := by decide +kernel
theorem dX5_appendFrom_30 : decode cX5_appendFrom 30 = .ok (.iinc 4 1, 3) := by decide +kernel
theorem dX5_appendFrom_33 : decode cX5_appendFrom 33 = .ok (.goto (-30), 3) := by decide +kernel
theorem dX5_appendFrom_36 : decode cX5_appendFrom 36 = .ok (.return_, 1) := by decide +kernel
theorem dX5_appendBySize_0 : decode cX5_appendBySize 0 = .ok (.aload_n 1, 1) := by decide +kernel
theorem dX5_appendBySize_1 : decode cX5_appendBySize 1 = .ok (.iconst 0, 1) := by decide +kernel
theorem dX5_appendBySize_2 : decode cX5_appendBySize 2 = .ok (.invokevirtual 31, 3) := by decide +kernel
theorem dX5_appendBySize_5 : decode cX5_appendBySize 5 = .ok (.istore_n 3, 1) := by decide +kernel
theorem dX5_appendBySize_6 : decode cX5_appendBySize 6 = .ok (.aload_n 2, 1) := by decide +kernel
theorem dX5_appendBySize_7 : decode cX5_appendBySize 7 = .ok (.iconst 0, 1) := by decide +kernel
theorem dX5_appendBySize_8 : decode cX5_appendBySize 8 = .ok (.invokevirtual 31, 3) := by decide +kernel
theorem dX5_appendBySize_11 : decode cX5_appendBySize 11 = .ok (.istore 4, 2) := by decide +kernel
theorem dX5_appendBySize_13 : decode cX5_appendBySize 13 = .ok (.iconst 0, 1) := by decide +kernel
theorem dX5_appendBySize_14 : decode cX5_appendBySize 14 = .ok (.istore 5, 2) := by decide +kernel
theorem dX5_appendBySize_16 : decode cX5_appendBySize 16 = .ok (.iload 5, 2) := by decide +kernel
theorem dX5_appendBySize_18 : decode cX5_appendBySize 18 = .ok (.sipush 256, 3) := by decide +kernel
theorem dX5_appendBySize_21 : decode cX5_appendBySize 21 = .ok (.if_icmp .ge 104, 3) := by decide +kernel
theorem dX5_appendBySize_24 : decode cX5_appendBySize 24 = .ok (.aload_n 1, 1) := by decide +kernel
theorem dX5_appendBySize_25 : decode cX5_appendBySize 25 = .ok (.iload_n 3, 1) := by decide +kernel
theorem dX5_appendBySize_26 : decode cX5_appendBySize 26 = .ok (.invokevirtual 19, 3) := by decide +kernel
theorem dX5_appendBySize_29 : decode cX5_appendBySize 29 = .ok (.ifCond .ne 12, 3) := by decide +kernel
theorem dX5_appendBySize_32 : decode cX5_appendBySize 32 = .ok (.aload_n 2, 1) := by decide +kernel
theorem dX5_appendBySize_33 : decode cX5_appendBySize 33 = .ok (.iload 4, 2) := by decide +kernel
theorem dX5_appendBySize_35 : decode cX5_appendBySize 35 = .ok (.invokevirtual 19, 3) := by decide +kernel
theorem dX5_appendBySize_38 : decode cX5_appendBySize 38 = .ok (.ifCond .eq 87, 3) := by decide +kernel
theorem dX5_appendBySize_41 : decode cX5_appendBySize 41 = .ok (.aload_n 1, 1) := by decide +kernel
theorem dX5_appendBySize_42 : decode cX5_appendBySize 42 = .ok (.iload_n 3, 1) := by decide +kernel
theorem dX5_appendBySize_43 : decode cX5_appendBySize 43 = .ok (.invokevirtual 19, 3) := by decide +kernel
theorem dX5_appendBySize_46 : decode cX5_appendBySize 46 = .ok (.ifCond .eq 51, 3) := by decide +kernel
theorem dX5_appendBySize_49 : decode cX5_appendBySize 49 = .ok (.aload_n 2, 1) := by decide +kernel
theorem dX5_appendBySize_50 : decode cX5_appendBySize 50 = .ok (.iload 4, 2) := by decide +kernel
theorem dX5_appendBySize_52 : decode cX5_appendBySize 52 = .ok (.invokevirtual 19, 3) := by decide +kernel
theorem dX5_appendBySize_55 : decode cX5_appendBySize 55 = .ok (.ifCond .eq 20, 3) := by decide +kernel
theorem dX5_appendBySize_58 : decode cX5_appendBySize 58 = .ok (.aload_n 1, 1) := by decide +kernel
theorem dX5_appendBySize_59 : decode cX5_appendBySize 59 = .ok (.getfield 9, 3) := by decide +kernel
theorem dX5_appendBySize_62 : decode cX5_appendBySize 62 = .ok (.iload_n 3, 1) := by decide +kernel
theorem dX5_appendBySize_63 : decode cX5_appendBySize 63 = .ok (.laload, 1) := by decide +kernel
theorem dX5_appendBySize_64 : decode cX5_appendBySize 64 = .ok (.aload_n 2, 1) := by decide +kernel
theorem dX5_appendBySize_65 : decode cX5_appendBySize 65 = .ok (.getfield 9, 3) := by decide +kernel
theorem dX5_appendBySize_68 : decode cX5_appendBySize 68 = .ok (.iload 4, 2) := by decide +kernel
theorem dX5_appendBySize_70 : decode cX5_appendBySize 70 = .ok (.laload, 1) := by decide +kernel
theorem dX5_appendBySize_71 : decode cX5_appendBySize 71 = .ok (.lcmp, 1) := by decide +kernel
theorem dX5_appendBySize_72 : decode cX5_appendBySize 72 = .ok (.ifCond .gt 25, 3) := by decide +kernel
theorem dX5_appendBySize_75 : decode cX5_appendBySize 75 = .ok (.aload_n 0, 1) := by decide +kernel
theorem dX5_appendBySize_76 : decode cX5_appendBySize 76 = .ok (.aload_n 1, 1) := by decide +kernel
theorem dX5_appendBySize_77 : decode cX5_appendBySize 77 = .ok (.getfield 9, 3) := by decide +kernel
theorem dX5_appendBySize_80 : decode cX5_appendBySize 80 = .ok (.iload_n 3, 1) := by decide +kernel
theorem dX5_appendBySize_81 : decode cX5_appendBySize 81 = .ok (.laload, 1) := by decide +kernel
theorem dX5_appendBySize_82 : decode cX5_appendBySize 82 = .ok (.invokevirtual 27, 3) := by decide +kernel
theorem dX5_appendBySize_85 : decode cX5_appendBySize 85 = .ok (.pop, 1) := by decide +kernel
theorem dX5_appendBySize_86 : decode cX5_appendBySize 86 = .ok (.aload_n 1, 1) := by decide +kernel
theorem dX5_appendBySize_87 : decode cX5_appendBySize 87 = .ok (.iload_n 3, 1) := by decide +kernel
theorem dX5_appendBySize_88 : decode cX5_appendBySize 88 = .ok (.iconst 1, 1) := by decide +kernel
theorem dX5_appendBySize_89 : decode cX5_appendBySize 89 = .ok (.iadd, 1) := by decide +kernel
theorem dX5_appendBySize_90 : decode cX5_appendBySize 90 = .ok (.invokevirtual 31, 3) := by decide +kernel
theorem dX5_appendBySize_93 : decode cX5_appendBySize 93 = .ok (.istore_n 3, 1) := by decide +kernel
theorem dX5_appendBySize_94 : decode cX5_appendBySize 94 = .ok (.goto 25, 3) := by decide +kernel
theorem dX5_appendBySize_97 : decode cX5_appendBySize 97 = .ok (.aload_n 0, 1) := by decide +kernel
theorem dX5_appendBySize_98 : decode cX5_appendBySize 98 = .ok (.aload_n 2, 1) := by decide +kernel
theorem dX5_appendBySize_99 : decode cX5_appendBySize 99 = .ok (.getfield 9, 3) := by decide +kernel
theorem dX5_appendBySize_102 : decode cX5_appendBySize 102 = .ok (.iload 4, 2) := by decide +kernel
theorem dX5_appendBySize_104 : decode cX5_appendBySize 104 = .ok (.laload, 1) := by decide +kernel
theorem dX5_appendBySize_105 : decode cX5_appendBySize 105 = .ok (.invokevirtual 27, 3) := by decide +kernel
theorem dX5_appendBySize_108 : decode cX5_appendBySize 108 = .ok (.pop, 1) := by decide +kernel
theorem dX5_appendBySize_109 : decode cX5_appendBySize 109 = .ok (.aload_n 2, 1) := by decide +kernel
theorem dX5_appendBySize_110 : decode cX5_appendBySize 110 = .ok (.iload 4, 2) := by decide +kernel
theorem dX5_appendBySize_112 : decode cX5_appendBySize 112 = .ok (.iconst 1, 1) := by decide +kernel
theorem dX5_appendBySize_113 : decode cX5_appendBySize 113 = .ok (.iadd, 1) := by decide +kernel
theorem dX5_appendBySize_114 : decode cX5_appendBySize 114 = .ok (.invokevirtual 31, 3) := by decide +kernel
theorem dX5_appendBySize_117 : decode cX5_appendBySize 117 = .ok (.istore 4, 2) := by decide +kernel
theorem dX5_appendBySize_119 : decode cX5_appendBySize 119 = .ok (.iinc 5 1, 3) := by decide +kernel
theorem dX5_appendBySize_122 : decode cX5_appendBySize 122 = .ok (.goto (-106), 3) := by decide +kernel
theorem dX5_appendBySize_125 : decode cX5_appendBySize 125 = .ok (.return_, 1) := by decide +kernel
theorem dX5_nextFull_0 : decode cX5_nextFull 0 = .ok (.iload_n 1, 1) := by decide +kernel
theorem dX5_nextFull_1 : decode cX5_nextFull 1 = .ok (.istore_n 2, 1) := by decide +kernel
theorem dX5_nextFull_2 : decode cX5_nextFull 2 = .ok (.iload_n 2, 1) := by decide +kernel
theorem dX5_nextFull_3 : decode cX5_nextFull 3 = .ok (.aload_n 0, 1) := by decide +kernel
theorem dX5_nextFull_4 : decode cX5_nextFull 4 = .ok (.getfield 15, 3) := by decide +kernel
theorem dX5_nextFull_7 : decode cX5_nextFull 7 = .ok (.if_icmp .ge 17, 3) := by decide +kernel
theorem dX5_nextFull_10 : decode cX5_nextFull 10 = .ok (.aload_n 0, 1) := by decide +kernel
theorem dX5_nextFull_11 : decode cX5_nextFull 11 = .ok (.iload_n 2, 1) := by decide +kernel
theorem dX5_nextFull_12 : decode cX5_nextFull 12 = .ok (.invokevirtual 35, 3) := by decide +kernel
theorem dX5_nextFull_15 : decode cX5_nextFull 15 = .ok (.ifCond .ne 9, 3) := by decide +kernel
theorem dX5_nextFull_18 : decode cX5_nextFull 18 = .ok (.iinc 2 1, 3) := by decide +kernel
theorem dX5_nextFull_21 : decode cX5_nextFull 21 = .ok (.goto (-19), 3) := by decide +kernel
theorem dX5_nextFull_24 : decode cX5_nextFull 24 = .ok (.iload_n 2, 1) := by decide +kernel
theorem dX5_nextFull_25 : decode cX5_nextFull 25 = .ok (.ireturn, 1) := by decide +kernel
theorem dX5_change_0 : decode cX5_change 0 = .ok (.aload_n 0, 1) := by decide +kernel
theorem dX5_change_1 : decode cX5_change 1 = .ok (.iload_n 1, 1) := by decide +kernel
theorem dX5_change_2 : decode cX5_change 2 = .ok (.invokevirtual 19, 3) := by decide +kernel
theorem dX5_change_5 : decode cX5_change 5 = .ok (.ifCond .eq 10, 3) := by decide +kernel
theorem dX5_change_8 : decode cX5_change 8 = .ok (.aload_n 0, 1) := by decide +kernel
theorem dX5_change_9 : decode cX5_change 9 = .ok (.getfield 9, 3) := by decide +kernel
theorem dX5_change_12 : decode cX5_change 12 = .ok (.iload_n 1, 1) := by decide +kernel
theorem dX5_change_13 : decode cX5_change 13 = .ok (.lload_n 2, 1) := by decide +kernel
theorem dX5_change_14 : decode cX5_change 14 = .ok (.lastore, 1) := by decide +kernel
theorem dX5_change_15 : decode cX5_change 15 = .ok (.return_, 1) := by decide +kernel
theorem dX5_enter_0 : decode cX5_enter 0 = .ok (.iload_n 1, 1) := by decide +kernel
theorem dX5_enter_1 : decode cX5_enter 1 = .ok (.ifCond .lt 23, 3) := by decide +kernel
theorem dX5_enter_4 : decode cX5_enter 4 = .ok (.iload_n 1, 1) := by decide +kernel
theorem dX5_enter_5 : decode cX5_enter 5 = .ok (.aload_n 0, 1) := by decide +kernel
theorem dX5_enter_6 : decode cX5_enter 6 = .ok (.getfield 15, 3) := by decide +kernel
theorem dX5_enter_9 : decode cX5_enter 9 = .ok (.if_icmp .gt 15, 3) := by decide +kernel
theorem dX5_enter_12 : decode cX5_enter 12 = .ok (.aload_n 0, 1) := by decide +kernel
theorem dX5_enter_13 : decode cX5_enter 13 = .ok (.getfield 15, 3) := by decide +kernel
theorem dX5_enter_16 : decode cX5_enter 16 = .ok (.aload_n 0, 1) := by decide +kernel
theorem dX5_enter_17 : decode cX5_enter 17 = .ok (.getfield 9, 3) := by decide +kernel
theorem dX5_enter_20 : decode cX5_enter 20 = .ok (.arraylength, 1) := by decide +kernel
theorem dX5_enter_21 : decode cX5_enter 21 = .ok (.if_icmp .lt 4, 3) := by decide +kernel
theorem dX5_enter_24 : decode cX5_enter 24 = .ok (.return_, 1) := by decide +kernel
theorem dX5_enter_25 : decode cX5_enter 25 = .ok (.aload_n 0, 1) := by decide +kernel
theorem dX5_enter_26 : decode cX5_enter 26 = .ok (.getfield 9, 3) := by decide +kernel
theorem dX5_enter_29 : decode cX5_enter 29 = .ok (.iload_n 1, 1) := by decide +kernel
theorem dX5_enter_30 : decode cX5_enter 30 = .ok (.aload_n 0, 1) := by decide +kernel
theorem dX5_enter_31 : decode cX5_enter 31 = .ok (.getfield 9, 3) := by decide +kernel
theorem dX5_enter_34 : decode cX5_enter 34 = .ok (.iload_n 1, 1) := by decide +kernel
theorem dX5_enter_35 : decode cX5_enter 35 = .ok (.iconst 1, 1) := by decide +kernel
theorem dX5_enter_36 : decode cX5_enter 36 = .ok (.iadd, 1) := by decide +kernel
theorem dX5_enter_37 : decode cX5_enter 37 = .ok (.aload_n 0, 1) := by decide +kernel
theorem dX5_enter_38 : decode cX5_enter 38 = .ok (.getfield 15, 3) := by decide +kernel
theorem dX5_enter_41 : decode cX5_enter 41 = .ok (.iload_n 1, 1) := by decide +kernel
theorem dX5_enter_42 : decode cX5_enter 42 = .ok (.isub, 1) := by decide +kernel
theorem dX5_enter_43 : decode cX5_enter 43 = .ok (.invokestatic 38, 3) := by decide +kernel
theorem dX5_enter_46 : decode cX5_enter 46 = .ok (.aload_n 0, 1) := by decide +kernel
theorem dX5_enter_47 : decode cX5_enter 47 = .ok (.getfield 9, 3) := by decide +kernel
theorem dX5_enter_50 : decode cX5_enter 50 = .ok (.iload_n 1, 1) := by decide +kernel
theorem dX5_enter_51 : decode cX5_enter 51 = .ok (.iload_n 2, 1) := by decide +kernel
theorem dX5_enter_52 : decode cX5_enter 52 = .ok (.i2l, 1) := by decide +kernel
theorem dX5_enter_53 : decode cX5_enter 53 = .ok (.lastore, 1) := by decide +kernel
theorem dX5_enter_54 : decode cX5_enter 54 = .ok (.aload_n 0, 1) := by decide +kernel
theorem dX5_enter_55 : decode cX5_enter 55 = .ok (.dup, 1) := by decide +kernel
theorem dX5_enter_56 : decode cX5_enter 56 = .ok (.getfield 15, 3) := by decide +kernel
theorem dX5_enter_59 : decode cX5_enter 59 = .ok (.iconst 1, 1) := by decide +kernel
theorem dX5_enter_60 : decode cX5_enter 60 = .ok (.iadd, 1) := by decide +kernel
theorem dX5_enter_61 : decode cX5_enter 61 = .ok (.putfield 15, 3) := by decide +kernel
theorem dX5_enter_64 : decode cX5_enter 64 = .ok (.return_, 1) := by decide +kernel
theorem dX5_takeOut_0 : decode cX5_takeOut 0 = .ok (.iload_n 1, 1) := by decide +kernel
theorem dX5_takeOut_1 : decode cX5_takeOut 1 = .ok (.iload_n 2, 1) := by decide +kernel
theorem dX5_takeOut_2 : decode cX5_takeOut 2 = .ok (.iadd, 1) := by decide +kernel
theorem dX5_takeOut_3 : decode cX5_takeOut 3 = .ok (.istore_n 3, 1) := by decide +kernel
theorem dX5_takeOut_4 : decode cX5_takeOut 4 = .ok (.iload_n 1, 1) := by decide +kernel
theorem dX5_takeOut_5 : decode cX5_takeOut 5 = .ok (.ifCond .lt 15, 3) := by decide +kernel
theorem dX5_takeOut_8 : decode cX5_takeOut 8 = .ok (.iload_n 2, 1) := by decide +kernel
theorem dX5_takeOut_9 : decode cX5_takeOut 9 = .ok (.ifCond .lt 11, 3) := by decide +kernel
theorem dX5_takeOut_12 : decode cX5_takeOut 12 = .ok (.iload_n 3, 1) := by decide +kernel
theorem dX5_takeOut_13 : decode cX5_takeOut 13 = .ok (.aload_n 0, 1) := by decide +kernel
theorem dX5_takeOut_14 : decode cX5_takeOut 14 = .ok (.getfield 15, 3) := by decide +kernel
theorem dX5_takeOut_17 : decode cX5_takeOut 17 = .ok (.if_icmp .le 4, 3) := by decide +kernel
theorem dX5_takeOut_20 : decode cX5_takeOut 20 = .ok (.return_, 1) := by decide +kernel
theorem dX5_takeOut_21 : decode cX5_takeOut 21 = .ok (.aload_n 0, 1) := by decide +kernel
theorem dX5_takeOut_22 : decode cX5_takeOut 22 = .ok (.getfield 9, 3) := by decide +kernel
theorem dX5_takeOut_25 : decode cX5_takeOut 25 = .ok (.iload_n 3, 1) := by decide +kernel
theorem dX5_takeOut_26 : decode cX5_takeOut 26 = .ok (.aload_n 0, 1) := by decide +kernel
theorem dX5_takeOut_27 : decode cX5_takeOut 27 = .ok (.getfield 9, 3) := by decide +kernel
theorem dX5_takeOut_30 : decode cX5_takeOut 30 = .ok (.iload_n 1, 1) := by decide +kernel
theorem dX5_takeOut_31 : decode cX5_takeOut 31 = .ok (.aload_n 0, 1) := by decide +kernel
theorem dX5_takeOut_32 : decode cX5_takeOut 32 = .ok (.getfield 15, 3) := by decide +kernel
theorem dX5_takeOut_35 : decode cX5_takeOut 35 = .ok (.iload_n 3, 1) := by decide +kernel
theorem dX5_takeOut_36 : decode cX5_takeOut 36 = .ok (.isub, 1) := by decide +kernel
theorem dX5_takeOut_37 : decode cX5_takeOut 37 = .ok (.invokestatic 38, 3) := by decide +kernel
theorem dX5_takeOut_40 : decode cX5_takeOut 40 = .ok (.aload_n 0, 1) := by decide +kernel
theorem dX5_takeOut_41 : decode cX5_takeOut 41 = .ok (.dup, 1) := by decide +kernel
theorem dX5_takeOut_42 : decode cX5_takeOut 42 = .ok (.getfield 15, 3) := by decide +kernel
theorem dX5_takeOut_45 : decode cX5_takeOut 45 = .ok (.iload_n 2, 1) := by decide +kernel
theorem dX5_takeOut_46 : decode cX5_takeOut 46 = .ok (.isub, 1) := by decide +kernel
theorem dX5_takeOut_47 : decode cX5_takeOut 47 = .ok (.putfield 15, 3) := by decide +kernel
theorem dX5_takeOut_50 : decode cX5_takeOut 50 = .ok (.return_, 1) := by decide +kernel
theorem dX5_raise_0 : decode cX5_raise 0 = .ok (.iconst 0, 1) := by decide +kernel
theorem dX5_raise_1 : decode cX5_raise 1 = .ok (.istore_n 2, 1) := by decide +kernel
theorem dX5_raise_2 : decode cX5_raise 2 = .ok (.iload_n 2, 1) := by decide +kernel
theorem dX5_raise_3 : decode cX5_raise 3 = .ok (.aload_n 0, 1) := by decide +kernel
theorem dX5_raise_4 : decode cX5_raise 4 = .ok (.getfield 15, 3) := by decide +kernel
theorem dX5_raise_7 : decode cX5_raise 7 = .ok (.if_icmp .ge 39, 3) := by decide +kernel
theorem dX5_raise_10 : decode cX5_raise 10 = .ok (.aload_n 0, 1) := by decide +kernel
theorem dX5_raise_11 : decode cX5_raise 11 = .ok (.getfield 9, 3) := by decide +kernel
theorem dX5_raise_14 : decode cX5_raise 14 = .ok (.iload_n 2, 1) := by decide +kernel
theorem dX5_raise_15 : decode cX5_raise 15 = .ok (.laload, 1) := by decide +kernel
theorem dX5_raise_16 : decode cX5_raise 16 = .ok (.ldc2_w 23, 3) := by decide +kernel
theorem dX5_raise_19 : decode cX5_raise 19 = .ok (.lcmp, 1) := by decide +kernel
theorem dX5_raise_20 : decode cX5_raise 20 = .ok (.ifCond .eq 20, 3) := by decide +kernel
theorem dX5_raise_23 : decode cX5_raise 23 = .ok (.aload_n 0, 1) := by decide +kernel
theorem dX5_raise_24 : decode cX5_raise 24 = .ok (.getfield 9, 3) := by decide +kernel
theorem dX5_raise_27 : decode cX5_raise 27 = .ok (.iload_n 2, 1) := by decide +kernel
theorem dX5_raise_28 : decode cX5_raise 28 = .ok (.aload_n 0, 1) := by decide +kernel
theorem dX5_raise_29 : decode cX5_raise 29 = .ok (.getfield 9, 3) := by decide +kernel
theorem dX5_raise_32 : decode cX5_raise 32 = .ok (.iload_n 2, 1) := by decide +kernel
theorem dX5_raise_33 : decode cX5_raise 33 = .ok (.laload, 1) := by decide +kernel
theorem dX5_raise_34 : decode cX5_raise 34 = .ok (.iload_n 1, 1) := by decide +kernel
theorem dX5_raise_35 : decode cX5_raise 35 = .ok (.i2l, 1) := by decide +kernel
theorem dX5_raise_36 : decode cX5_raise 36 = .ok (.ladd, 1) := by decide +kernel
theorem dX5_raise_37 : decode cX5_raise 37 = .ok (.l2i, 1) := by decide +kernel
theorem dX5_raise_38 : decode cX5_raise 38 = .ok (.i2l, 1) := by decide +kernel
theorem dX5_raise_39 : decode cX5_raise 39 = .ok (.lastore, 1) := by decide +kernel
theorem dX5_raise_40 : decode cX5_raise 40 = .ok (.iinc 2 1, 3) := by decide +kernel
theorem dX5_raise_43 : decode cX5_raise 43 = .ok (.goto (-41), 3) := by decide +kernel
theorem dX5_raise_46 : decode cX5_raise 46 = .ok (.return_, 1) := by decide +kernel
theorem dX5_mirror_0 : decode cX5_mirror 0 = .ok (.aload_n 1, 1) := by decide +kernel
theorem dX5_mirror_1 : decode cX5_mirror 1 = .ok (.getfield 15, 3) := by decide +kernel
theorem dX5_mirror_4 : decode cX5_mirror 4 = .ok (.aload_n 0, 1) := by decide +kernel
theorem dX5_mirror_5 : decode cX5_mirror 5 = .ok (.getfield 9, 3) := by decide +kernel
theorem dX5_mirror_8 : decode cX5_mirror 8 = .ok (.arraylength, 1) := by decide +kernel
theorem dX5_mirror_9 : decode cX5_mirror 9 = .ok (.invokestatic 44, 3) := by decide +kernel
theorem dX5_mirror_12 : decode cX5_mirror 12 = .ok (.istore_n 2, 1) := by decide +kernel
theorem dX5_mirror_13 : decode cX5_mirror 13 = .ok (.aload_n 1, 1) := by decide +kernel
theorem dX5_mirror_14 : decode cX5_mirror 14 = .ok (.getfield 9, 3) := by decide +kernel
theorem dX5_mirror_17 : decode cX5_mirror 17 = .ok (.iconst 0, 1) := by decide +kernel
theorem dX5_mirror_18 : decode cX5_mirror 18 = .ok (.aload_n 0, 1) := by decide +kernel
theorem dX5_mirror_19 : decode cX5_mirror 19 = .ok (.getfield 9, 3) := by decide +kernel
theorem dX5_mirror_22 : decode cX5_mirror 22 = .ok (.iconst 0, 1) := by decide +kernel
theorem dX5_mirror_23 : decode cX5_mirror 23 = .ok (.iload_n 2, 1) := by decide +kernel
theorem dX5_mirror_24 : decode cX5_mirror 24 = .ok (.invokestatic 38, 3) := by decide +kernel
theorem dX5_mirror_27 : decode cX5_mirror 27 = .ok (.aload_n 0, 1) := by decide +kernel
theorem dX5_mirror_28 : decode cX5_mirror 28 = .ok (.iload_n 2, 1) := by decide +kernel
theorem dX5_mirror_29 : decode cX5_mirror 29 = .ok (.putfield 15, 3) := by decide +kernel
theorem dX5_mirror_32 : decode cX5_mirror 32 = .ok (.return_, 1) := by decide +kernel
theorem dX5_vacantWithin_0 : decode cX5_vacantWithin 0 = .ok (.iconst 0, 1) := by decide +kernel
theorem dX5_vacantWithin_1 : decode cX5_vacantWithin 1 = .ok (.istore_n 3, 1) := by decide +kernel
theorem dX5_vacantWithin_2 : decode cX5_vacantWithin 2 = .ok (.iload_n 1, 1) := by decide +kernel
theorem dX5_vacantWithin_3 : decode cX5_vacantWithin 3 = .ok (.istore 4, 2) := by decide +kernel
theorem dX5_vacantWithin_5 : decode cX5_vacantWithin 5 = .ok (.iload 4, 2) := by decide +kernel
theorem dX5_vacantWithin_7 : decode cX5_vacantWithin 7 = .ok (.iload_n 2, 1) := by decide +kernel
theorem dX5_vacantWithin_8 : decode cX5_vacantWithin 8 = .ok (.if_icmp .ge 21, 3) := by decide +kernel
theorem dX5_vacantWithin_11 : decode cX5_vacantWithin 11 = .ok (.aload_n 0, 1) := by decide +kernel
theorem dX5_vacantWithin_12 : decode cX5_vacantWithin 12 = .ok (.iload 4, 2) := by decide +kernel
theorem dX5_vacantWithin_14 : decode cX5_vacantWithin 14 = .ok (.invokevirtual 35, 3) := by decide +kernel
theorem dX5_vacantWithin_17 : decode cX5_vacantWithin 17 = .ok (.ifCond .ne 6, 3) := by decide +kernel
theorem dX5_vacantWithin_20 : decode cX5_vacantWithin 20 = .ok (.iinc 3 1, 3) := by decide +kernel
theorem dX5_vacantWithin_23 : decode cX5_vacantWithin 23 = .ok (.iinc 4 1, 3) := by decide +kernel
theorem dX5_vacantWithin_26 : decode cX5_vacantWithin 26 = .ok (.goto (-21), 3) := by decide +kernel
theorem dX5_vacantWithin_29 : decode cX5_vacantWithin 29 = .ok (.iload_n 3, 1) := by decide +kernel
theorem dX5_vacantWithin_30 : decode cX5_vacantWithin 30 = .ok (.ireturn, 1) := by decide +kernel
theorem dX5_differenceAt_0 : decode cX5_differenceAt 0 = .ok (.aload_n 0, 1) := by decide +kernel
theorem dX5_differenceAt_1 : decode cX5_differenceAt 1 = .ok (.iload_n 1, 1) := by decide +kernel
theorem dX5_differenceAt_2 : decode cX5_differenceAt 2 = .ok (.invokevirtual 35, 3) := by decide +kernel
theorem dX5_differenceAt_5 : decode cX5_differenceAt 5 = .ok (.ifCond .ne 9, 3) := by decide +kernel
theorem dX5_differenceAt_8 : decode cX5_differenceAt 8 = .ok (.aload_n 0, 1) := by decide +kernel
theorem dX5_differenceAt_9 : decode cX5_differenceAt 9 = .ok (.iload_n 1, 1) := by decide +kernel
theorem dX5_differenceAt_10 : decode cX5_differenceAt 10 = .ok (.invokevirtual 50, 3) := by decide +kernel
theorem dX5_differenceAt_13 : decode cX5_differenceAt 13 = .ok (.lreturn, 1) := by decide +kernel
theorem dX5_differenceAt_14 : decode cX5_differenceAt 14 = .ok (.iload_n 1, 1) := by decide +kernel
theorem dX5_differenceAt_15 : decode cX5_differenceAt 15 = .ok (.iconst 1, 1) := by decide +kernel
theorem dX5_differenceAt_16 : decode cX5_differenceAt 16 = .ok (.isub, 1) := by decide +kernel
theorem dX5_differenceAt_17 : decode cX5_differenceAt 17 = .ok (.istore_n 2, 1) := by decide +kernel
theorem dX5_differenceAt_18 : decode cX5_differenceAt 18 = .ok (.iload_n 2, 1) := by decide +kernel
theorem dX5_differenceAt_19 : decode cX5_differenceAt 19 = .ok (.ifCond .lt 38, 3) := by decide +kernel
theorem dX5_differenceAt_22 : decode cX5_differenceAt 22 = .ok (.aload_n 0, 1) := by decide +kernel
theorem dX5_differenceAt_23 : decode cX5_differenceAt 23 = .ok (.getfield 9, 3) := by decide +kernel
theorem dX5_differenceAt_26 : decode cX5_differenceAt 26 = .ok (.iload_n 2, 1) := by decide +kernel
theorem dX5_differenceAt_27 : decode cX5_differenceAt 27 = .ok (.laload, 1) := by decide +kernel
theorem dX5_differenceAt_28 : decode cX5_differenceAt 28 = .ok (.ldc2_w 23, 3) := by decide +kernel
theorem dX5_differenceAt_31 : decode cX5_differenceAt 31 = .ok (.lcmp, 1) := by decide +kernel
theorem dX5_differenceAt_32 : decode cX5_differenceAt 32 = .ok (.ifCond .eq 19, 3) := by decide +kernel
theorem dX5_differenceAt_35 : decode cX5_differenceAt 35 = .ok (.aload_n 0, 1) := by decide +kernel
theorem dX5_differenceAt_36 : decode cX5_differenceAt 36 = .ok (.getfield 9, 3) := by decide +kernel
theorem dX5_differenceAt_39 : decode cX5_differenceAt 39 = .ok (.iload_n 1, 1) := by decide +kernel
theorem dX5_differenceAt_40 : decode cX5_differenceAt 40 = .ok (.laload, 1) := by decide +kernel
theorem dX5_differenceAt_41 : decode cX5_differenceAt 41 = .ok (.aload_n 0, 1) := by decide +kernel
theorem dX5_differenceAt_42 : decode cX5_differenceAt 42 = .ok (.getfield 9, 3) := by decide +kernel
theorem dX5_differenceAt_45 : decode cX5_differenceAt 45 = .ok (.iload_n 2, 1) := by decide +kernel
theorem dX5_differenceAt_46 : decode cX5_differenceAt 46 = .ok (.laload, 1) := by decide +kernel
theorem dX5_differenceAt_47 : decode cX5_differenceAt 47 = .ok (.lsub, 1) := by decide +kernel
theorem dX5_differenceAt_48 : decode cX5_differenceAt 48 = .ok (.l2i, 1) := by decide +kernel
theorem dX5_differenceAt_49 : decode cX5_differenceAt 49 = .ok (.i2l, 1) := by decide +kernel
theorem dX5_differenceAt_50 : decode cX5_differenceAt 50 = .ok (.lreturn, 1) := by decide +kernel
theorem dX5_differenceAt_51 : decode cX5_differenceAt 51 = .ok (.iinc 2 (-1), 3) := by decide +kernel
theorem dX5_differenceAt_54 : decode cX5_differenceAt 54 = .ok (.goto (-36), 3) := by decide +kernel
theorem dX5_differenceAt_57 : decode cX5_differenceAt 57 = .ok (.ldc2_w 23, 3) := by decide +kernel
theorem dX5_differenceAt_60 : decode cX5_differenceAt 60 = .ok (.lreturn, 1) := by decide +kernel
theorem dX5_isSorted_0 : decode cX5_isSorted 0 = .ok (.ldc2_w 25, 3) := by decide +kernel
theorem dX5_isSorted_3 : decode cX5_isSorted 3 = .ok (.lstore_n 1, 1) := by decide +kernel
theorem dX5_isSorted_4 : decode cX5_isSorted 4 = .ok (.iconst 0, 1) := by decide +kernel
theorem dX5_isSorted_5 : decode cX5_isSorted 5 = .ok (.istore_n 3, 1) := by decide +kernel
theorem dX5_isSorted_6 : decode cX5_isSorted 6 = .ok (.iload_n 3, 1) := by decide +kernel
theorem dX5_isSorted_7 : decode cX5_isSorted 7 = .ok (.aload_n 0, 1) := by decide +kernel
theorem dX5_isSorted_8 : decode cX5_isSorted 8 = .ok (.getfield 15, 3) := by decide +kernel
theorem dX5_isSorted_11 : decode cX5_isSorted 11 = .ok (.if_icmp .ge 42, 3) := by decide +kernel
theorem dX5_isSorted_14 : decode cX5_isSorted 14 = .ok (.aload_n 0, 1) := by decide +kernel
theorem dX5_isSorted_15 : decode cX5_isSorted 15 = .ok (.getfield 9, 3) := by decide +kernel
theorem dX5_isSorted_18 : decode cX5_isSorted 18 = .ok (.iload_n 3, 1) := by decide +kernel
theorem dX5_isSorted_19 : decode cX5_isSorted 19 = .ok (.laload, 1) := by decide +kernel
theorem dX5_isSorted_20 : decode cX5_isSorted 20 = .ok (.ldc2_w 23, 3) := by decide +kernel
theorem dX5_isSorted_23 : decode cX5_isSorted 23 = .ok (.lcmp, 1) := by decide +kernel
theorem dX5_isSorted_24 : decode cX5_isSorted 24 = .ok (.ifCond .eq 23, 3) := by decide +kernel
theorem dX5_isSorted_27 : decode cX5_isSorted 27 = .ok (.aload_n 0, 1) := by decide +kernel
theorem dX5_isSorted_28 : decode cX5_isSorted 28 = .ok (.getfield 9, 3) := by decide +kernel
theorem dX5_isSorted_31 : decode cX5_isSorted 31 = .ok (.iload_n 3, 1) := by decide +kernel
theorem dX5_isSorted_32 : decode cX5_isSorted 32 = .ok (.laload, 1) := by decide +kernel
theorem dX5_isSorted_33 : decode cX5_isSorted 33 = .ok (.lload_n 1, 1) := by decide +kernel
theorem dX5_isSorted_34 : decode cX5_isSorted 34 = .ok (.lcmp, 1) := by decide +kernel
theorem dX5_isSorted_35 : decode cX5_isSorted 35 = .ok (.ifCond .ge 5, 3) := by decide +kernel
theorem dX5_isSorted_38 : decode cX5_isSorted 38 = .ok (.iconst 0, 1) := by decide +kernel
theorem dX5_isSorted_39 : decode cX5_isSorted 39 = .ok (.ireturn, 1) := by decide +kernel
theorem dX5_isSorted_40 : decode cX5_isSorted 40 = .ok (.aload_n 0, 1) := by decide +kernel
theorem dX5_isSorted_41 : decode cX5_isSorted 41 = .ok (.getfield 9, 3) := by decide +kernel
theorem dX5_isSorted_44 : decode cX5_isSorted 44 = .ok (.iload_n 3, 1) := by decide +kernel
theorem dX5_isSorted_45 : decode cX5_isSorted 45 = .ok (.laload, 1) := by decide +kernel
theorem dX5_isSorted_46 : decode cX5_isSorted 46 = .ok (.lstore_n 1, 1) := by decide +kernel
theorem dX5_isSorted_47 : decode cX5_isSorted 47 = .ok (.iinc 3 1, 3) := by decide +kernel
theorem dX5_isSorted_50 : decode cX5_isSorted 50 = .ok (.goto (-44), 3) := by decide +kernel
theorem dX5_isSorted_53 : decode cX5_isSorted 53 = .ok (.iconst 1, 1) := by decide +kernel
theorem dX5_isSorted_54 : decode cX5_isSorted 54 = .ok (.ireturn, 1) := by decide +kernel
theorem dX5_firstFrom_0 : decode cX5_firstFrom 0 = .ok (.iconst 0, 1) := by decide +kernel
theorem dX5_firstFrom_1 : decode cX5_firstFrom 1 = .ok (.istore_n 2, 1) := by decide +kernel
theorem dX5_firstFrom_2 : decode cX5_firstFrom 2 = .ok (.iload_n 2, 1) := by decide +kernel
theorem dX5_firstFrom_3 : decode cX5_firstFrom 3 = .ok (.aload_n 0, 1) := by decide +kernel
theorem dX5_firstFrom_4 : decode cX5_firstFrom 4 = .ok (.getfield 15, 3) := by decide +kernel
theorem dX5_firstFrom_7 : decode cX5_firstFrom 7 = .ok (.if_icmp .ge 36, 3) := by decide +kernel
theorem dX5_firstFrom_10 : decode cX5_firstFrom 10 = .ok (.aload_n 0, 1) := by decide +kernel
theorem dX5_firstFrom_11 : decode cX5_firstFrom 11 = .ok (.getfield 9, 3) := by decide +kernel
theorem dX5_firstFrom_14 : decode cX5_firstFrom 14 = .ok (.iload_n 2, 1) := by decide +kernel
theorem dX5_firstFrom_15 : decode cX5_firstFrom 15 = .ok (.laload, 1) := by decide +kernel
theorem dX5_firstFrom_16 : decode cX5_firstFrom 16 = .ok (.ldc2_w 23, 3) := by decide +kernel
theorem dX5_firstFrom_19 : decode cX5_firstFrom 19 = .ok (.lcmp, 1) := by decide +kernel
theorem dX5_firstFrom_20 : decode cX5_firstFrom 20 = .ok (.ifCond .eq 17, 3) := by decide +kernel
theorem dX5_firstFrom_23 : decode cX5_firstFrom 23 = .ok (.aload_n 0, 1) := by decide +kernel
theorem dX5_firstFrom_24 : decode cX5_firstFrom 24 = .ok (.getfield 9, 3) := by decide +kernel
theorem dX5_firstFrom_27 : decode cX5_firstFrom 27 = .ok (.iload_n 2, 1) := by decide +kernel
theorem dX5_firstFrom_28 : decode cX5_firstFrom 28 = .ok (.laload, 1) := by decide +kernel
theorem dX5_firstFrom_29 : decode cX5_firstFrom 29 = .ok (.iload_n 1, 1) := by decide +kernel
theorem dX5_firstFrom_30 : decode cX5_firstFrom 30 = .ok (.i2l, 1) := by decide +kernel
theorem dX5_firstFrom_31 : decode cX5_firstFrom 31 = .ok (.lcmp, 1) := by decide +kernel
theorem dX5_firstFrom_32 : decode cX5_firstFrom 32 = .ok (.ifCond .lt 5, 3) := by decide +kernel
theorem dX5_firstFrom_35 : decode cX5_firstFrom 35 = .ok (.iload_n 2, 1) := by decide +kernel
theorem dX5_firstFrom_36 : decode cX5_firstFrom 36 = .ok (.ireturn, 1) := by decide +kernel
theorem dX5_firstFrom_37 : decode cX5_firstFrom 37 = .ok (.iinc 2 1, 3) := by decide +kernel
theorem dX5_firstFrom_40 : decode cX5_firstFrom 40 = .ok (.goto (-38), 3) := by decide +kernel
theorem dX5_firstFrom_43 : decode cX5_firstFrom 43 = .ok (.iconst (-1), 1) := by decide +kernel
theorem dX5_firstFrom_44 : decode cX5_firstFrom 44 = .ok (.ireturn, 1) := by decide +kernel
theorem dX5_together_0 : decode cX5_together 0 = .ok (.lconst 0, 1) := by decide +kernel
theorem dX5_together_1 : decode cX5_together 1 = .ok (.lstore_n 3, 1) := by decide +kernel
theorem dX5_together_2 : decode cX5_together 2 = .ok (.iload_n 1, 1) := by decide +kernel
theorem dX5_together_3 : decode cX5_together 3 = .ok (.istore 5, 2) := by decide +kernel
theorem dX5_together_5 : decode cX5_together 5 = .ok (.iload 5, 2) := by decide +kernel
theorem dX5_together_7 : decode cX5_together 7 = .ok (.iload_n 2, 1) := by decide +kernel
theorem dX5_together_8 : decode cX5_together 8 = .ok (.if_icmp .ge 28, 3) := by decide +kernel
theorem dX5_together_11 : decode cX5_together 11 = .ok (.aload_n 0, 1) := by decide +kernel
theorem dX5_together_12 : decode cX5_together 12 = .ok (.iload 5, 2) := by decide +kernel
theorem dX5_together_14 : decode cX5_together 14 = .ok (.invokevirtual 35, 3) := by decide +kernel
theorem dX5_together_17 : decode cX5_together 17 = .ok (.ifCond .eq 13, 3) := by decide +kernel
theorem dX5_together_20 : decode cX5_together 20 = .ok (.lload_n 3, 1) := by decide +kernel
theorem dX5_together_21 : decode cX5_together 21 = .ok (.aload_n 0, 1) := by decide +kernel
theorem dX5_together_22 : decode cX5_together 22 = .ok (.getfield 9, 3) := by decide +kernel
theorem dX5_together_25 : decode cX5_together 25 = .ok (.iload 5, 2) := by decide +kernel
theorem dX5_together_27 : decode cX5_together 27 = .ok (.laload, 1) := by decide +kernel
theorem dX5_together_28 : decode cX5_together 28 = .ok (.ladd, 1) := by decide +kernel
theorem dX5_together_29 : decode cX5_together 29 = .ok (.lstore_n 3, 1) := by decide +kernel
theorem dX5_together_30 : decode cX5_together 30 = .ok (.iinc 5 1, 3) := by decide +kernel
theorem dX5_together_33 : decode cX5_together 33 = .ok (.goto (-28), 3) := by decide +kernel
theorem dX5_together_36 : decode cX5_together 36 = .ok (.lload_n 3, 1) := by decide +kernel
theorem dX5_together_37 : decode cX5_together 37 = .ok (.lreturn, 1) := by decide +kernel
theorem dX5_howManyWithin_0 : decode cX5_howManyWithin 0 = .ok (.iconst 0, 1) := by decide +kernel
theorem dX5_howManyWithin_1 : decode cX5_howManyWithin 1 = .ok (.istore_n 3, 1) := by decide +kernel
theorem dX5_howManyWithin_2 : decode cX5_howManyWithin 2 = .ok (.iconst 0, 1) := by decide +kernel
theorem dX5_howManyWithin_3 : decode cX5_howManyWithin 3 = .ok (.istore 4, 2) := by decide +kernel
theorem dX5_howManyWithin_5 : decode cX5_howManyWithin 5 = .ok (.iload 4, 2) := by decide +kernel
theorem dX5_howManyWithin_7 : decode cX5_howManyWithin 7 = .ok (.aload_n 0, 1) := by decide +kernel
theorem dX5_howManyWithin_8 : decode cX5_howManyWithin 8 = .ok (.getfield 15, 3) := by decide +kernel
theorem dX5_howManyWithin_11 : decode cX5_howManyWithin 11 = .ok (.if_icmp .ge 38, 3) := by decide +kernel
theorem dX5_howManyWithin_14 : decode cX5_howManyWithin 14 = .ok (.aload_n 0, 1) := by decide +kernel
theorem dX5_howManyWithin_15 : decode cX5_howManyWithin 15 = .ok (.getfield 9, 3) := by decide +kernel
theorem dX5_howManyWithin_18 : decode cX5_howManyWithin 18 = .ok (.iload 4, 2) := by decide +kernel
theorem dX5_howManyWithin_20 : decode cX5_howManyWithin 20 = .ok (.laload, 1) := by decide +kernel
theorem dX5_howManyWithin_21 : decode cX5_howManyWithin 21 = .ok (.iload_n 1, 1) := by decide +kernel
theorem dX5_howManyWithin_22 : decode cX5_howManyWithin 22 = .ok (.i2l, 1) := by decide +kernel
theorem dX5_howManyWithin_23 : decode cX5_howManyWithin 23 = .ok (.lcmp, 1) := by decide +kernel
theorem dX5_howManyWithin_24 : decode cX5_howManyWithin 24 = .ok (.ifCond .lt 19, 3) := by decide +kernel
theorem dX5_howManyWithin_27 : decode cX5_howManyWithin 27 = .ok (.aload_n 0, 1) := by decide +kernel
theorem dX5_howManyWithin_28 : decode cX5_howManyWithin 28 = .ok (.getfield 9, 3) := by decide +kernel
theorem dX5_howManyWithin_31 : decode cX5_howManyWithin 31 = .ok (.iload 4, 2) := by decide +kernel
theorem dX5_howManyWithin_33 : decode cX5_howManyWithin 33 = .ok (.laload, 1) := by decide +kernel
theorem dX5_howManyWithin_34 : decode cX5_howManyWithin 34 = .ok (.iload_n 2, 1) := by decide +kernel
theorem dX5_howManyWithin_35 : decode cX5_howManyWithin 35 = .ok (.i2l, 1) := by decide +kernel
theorem dX5_howManyWithin_36 : decode cX5_howManyWithin 36 = .ok (.lcmp, 1) := by decide +kernel
theorem dX5_howManyWithin_37 : decode cX5_howManyWithin 37 = .ok (.ifCond .gt 6, 3) := by decide +kernel
theorem dX5_howManyWithin_40 : decode cX5_howManyWithin 40 = .ok (.iinc 3 1, 3) := by decide +kernel
theorem dX5_howManyWithin_43 : decode cX5_howManyWithin 43 = .ok (.iinc 4 1, 3) := by decide +kernel
theorem dX5_howManyWithin_46 : decode cX5_howManyWithin 46 = .ok (.goto (-41), 3) := by decide +kernel
theorem dX5_howManyWithin_49 : decode cX5_howManyWithin 49 = .ok (.iload_n 3, 1) := by decide +kernel
theorem dX5_howManyWithin_50 : decode cX5_howManyWithin 50 = .ok (.ireturn, 1) := by decide +kernel
theorem dX5_bySize_0 : decode cX5_bySize 0 = .ok (.iconst 0, 1) := by decide +kernel
theorem dX5_bySize_1 : decode cX5_bySize 1 = .ok (.istore_n 2, 1) := by decide +kernel
theorem dX5_bySize_2 : decode cX5_bySize 2 = .ok (.iload_n 2, 1) := by decide +kernel
theorem dX5_bySize_3 : decode cX5_bySize 3 = .ok (.aload_n 0, 1) := by decide +kernel
theorem dX5_bySize_4 : decode cX5_bySize 4 = .ok (.getfield 15, 3) := by decide +kernel
theorem dX5_bySize_7 : decode cX5_bySize 7 = .ok (.if_icmp .ge 47, 3) := by decide +kernel
theorem dX5_bySize_10 : decode cX5_bySize 10 = .ok (.iload_n 1, 1) := by decide +kernel
theorem dX5_bySize_11 : decode cX5_bySize 11 = .ok (.ifCond .lt 43, 3) := by decide +kernel
theorem dX5_bySize_14 : decode cX5_bySize 14 = .ok (.aload_n 0, 1) := by decide +kernel
theorem dX5_bySize_15 : decode cX5_bySize 15 = .ok (.getfield 9, 3) := by decide +kernel
theorem dX5_bySize_18 : decode cX5_bySize 18 = .ok (.iload_n 2, 1) := by decide +kernel
theorem dX5_bySize_19 : decode cX5_bySize 19 = .ok (.laload, 1) := by decide +kernel
theorem dX5_bySize_20 : decode cX5_bySize 20 = .ok (.ldc2_w 23, 3) := by decide +kernel
theorem dX5_bySize_23 : decode cX5_bySize 23 = .ok (.lcmp, 1) := by decide +kernel
theorem dX5_bySize_24 : decode cX5_bySize 24 = .ok (.ifCond .eq 24, 3) := by decide +kernel
theorem dX5_bySize_27 : decode cX5_bySize 27 = .ok (.aload_n 0, 1) := by decide +kernel
theorem dX5_bySize_28 : decode cX5_bySize 28 = .ok (.aload_n 0, 1) := by decide +kernel
theorem dX5_bySize_29 : decode cX5_bySize 29 = .ok (.getfield 9, 3) := by decide +kernel
theorem dX5_bySize_32 : decode cX5_bySize 32 = .ok (.iload_n 2, 1) := by decide +kernel
theorem dX5_bySize_33 : decode cX5_bySize 33 = .ok (.laload, 1) := by decide +kernel
theorem dX5_bySize_34 : decode cX5_bySize 34 = .ok (.iload_n 1, 1) := by decide +kernel
theorem dX5_bySize_35 : decode cX5_bySize 35 = .ok (.invokevirtual 54, 3) := by decide +kernel
theorem dX5_bySize_38 : decode cX5_bySize 38 = .ok (.ifCond .eq 10, 3) := by decide +kernel
theorem dX5_bySize_41 : decode cX5_bySize 41 = .ok (.aload_n 0, 1) := by decide +kernel
theorem dX5_bySize_42 : decode cX5_bySize 42 = .ok (.getfield 9, 3) := by decide +kernel
theorem dX5_bySize_45 : decode cX5_bySize 45 = .ok (.iload_n 2, 1) := by decide +kernel
theorem dX5_bySize_46 : decode cX5_bySize 46 = .ok (.laload, 1) := by decide +kernel
theorem dX5_bySize_47 : decode cX5_bySize 47 = .ok (.lreturn, 1) := by decide +kernel
theorem dX5_bySize_48 : decode cX5_bySize 48 = .ok (.iinc 2 1, 3) := by decide +kernel
theorem dX5_bySize_51 : decode cX5_bySize 51 = .ok (.goto (-49), 3) := by decide +kernel
theorem dX5_bySize_54 : decode cX5_bySize 54 = .ok (.ldc2_w 25, 3) := by decide +kernel
theorem dX5_bySize_57 : decode cX5_bySize 57 = .ok (.lreturn, 1) := by decide +kernel
theorem dX5_ranksAs_0 : decode cX5_ranksAs 0 = .ok (.iconst 0, 1) := by decide +kernel
theorem dX5_ranksAs_1 : decode cX5_ranksAs 1 = .ok (.istore 4, 2) := by decide +kernel
theorem dX5_ranksAs_3 : decode cX5_ranksAs 3 = .ok (.iconst 0, 1) := by decide +kernel
theorem dX5_ranksAs_4 : decode cX5_ranksAs 4 = .ok (.istore 5, 2) := by decide +kernel
theorem dX5_ranksAs_6 : decode cX5_ranksAs 6 = .ok (.iconst 0, 1) := by decide +kernel
theorem dX5_ranksAs_7 : decode cX5_ranksAs 7 = .ok (.istore 6, 2) := by decide +kernel
theorem dX5_ranksAs_9 : decode cX5_ranksAs 9 = .ok (.iload 6, 2) := by decide +kernel
theorem dX5_ranksAs_11 : decode cX5_ranksAs 11 = .ok (.aload_n 0, 1) := by decide +kernel
theorem dX5_ranksAs_12 : decode cX5_ranksAs 12 = .ok (.getfield 15, 3) := by decide +kernel
theorem dX5_ranksAs_15 : decode cX5_ranksAs 15 = .ok (.if_icmp .ge 42, 3) := by decide +kernel
theorem dX5_ranksAs_18 : decode cX5_ranksAs 18 = .ok (.aload_n 0, 1) := by decide +kernel
theorem dX5_ranksAs_19 : decode cX5_ranksAs 19 = .ok (.getfield 9, 3) := by decide +kernel
theorem dX5_ranksAs_22 : decode cX5_ranksAs 22 = .ok (.iload 6, 2) := by decide +kernel
theorem dX5_ranksAs_24 : decode cX5_ranksAs 24 = .ok (.laload, 1) := by decide +kernel
theorem dX5_ranksAs_25 : decode cX5_ranksAs 25 = .ok (.lload_n 1, 1) := by decide +kernel
theorem dX5_ranksAs_26 : decode cX5_ranksAs 26 = .ok (.lcmp, 1) := by decide +kernel
theorem dX5_ranksAs_27 : decode cX5_ranksAs 27 = .ok (.ifCond .ge 9, 3) := by decide +kernel
theorem dX5_ranksAs_30 : decode cX5_ranksAs 30 = .ok (.iinc 4 1, 3) := by decide +kernel
theorem dX5_ranksAs_33 : decode cX5_ranksAs 33 = .ok (.goto 18, 3) := by decide +kernel
theorem dX5_ranksAs_36 : decode cX5_ranksAs 36 = .ok (.aload_n 0, 1) := by decide +kernel
theorem dX5_ranksAs_37 : decode cX5_ranksAs 37 = .ok (.getfield 9, 3) := by decide +kernel
theorem dX5_ranksAs_40 : decode cX5_ranksAs 40 = .ok (.iload 6, 2) := by decide +kernel
theorem dX5_ranksAs_42 : decode cX5_ranksAs 42 = .ok (.laload, 1) := by decide +kernel
theorem dX5_ranksAs_43 : decode cX5_ranksAs 43 = .ok (.lload_n 1, 1) := by decide +kernel
theorem dX5_ranksAs_44 : decode cX5_ranksAs 44 = .ok (.lcmp, 1) := by decide +kernel
theorem dX5_ranksAs_45 : decode cX5_ranksAs 45 = .ok (.ifCond .ne 6, 3) := by decide +kernel
theorem dX5_ranksAs_48 : decode cX5_ranksAs 48 = .ok (.iinc 5 1, 3) := by decide +kernel
theorem dX5_ranksAs_51 : decode cX5_ranksAs 51 = .ok (.iinc 6 1, 3) := by decide +kernel
theorem dX5_ranksAs_54 : decode cX5_ranksAs 54 = .ok (.goto (-45), 3) := by decide +kernel
theorem dX5_ranksAs_57 : decode cX5_ranksAs 57 = .ok (.iload 4, 2) := by decide +kernel
theorem dX5_ranksAs_59 : decode cX5_ranksAs 59 = .ok (.iload_n 3, 1) := by decide +kernel
theorem dX5_ranksAs_60 : decode cX5_ranksAs 60 = .ok (.if_icmp .gt 16, 3) := by decide +kernel
theorem dX5_ranksAs_63 : decode cX5_ranksAs 63 = .ok (.iload_n 3, 1) := by decide +kernel
theorem dX5_ranksAs_64 : decode cX5_ranksAs 64 = .ok (.iload 4, 2) := by decide +kernel
theorem dX5_ranksAs_66 : decode cX5_ranksAs 66 = .ok (.iload 5, 2) := by decide +kernel
theorem dX5_ranksAs_68 : decode cX5_ranksAs 68 = .ok (.iadd, 1) := by decide +kernel
theorem dX5_ranksAs_69 : decode cX5_ranksAs 69 = .ok (.if_icmp .ge 7, 3) := by decide +kernel
theorem dX5_ranksAs_72 : decode cX5_ranksAs 72 = .ok (.iconst 1, 1) := by decide +kernel
theorem dX5_ranksAs_73 : decode cX5_ranksAs 73 = .ok (.goto 4, 3) := by decide +kernel
theorem dX5_ranksAs_76 : decode cX5_ranksAs 76 = .ok (.iconst 0, 1) := by decide +kernel
theorem dX5_ranksAs_77 : decode cX5_ranksAs 77 = .ok (.ireturn, 1) := by decide +kernel
theorem dX5_howManyUnlike_0 : decode cX5_howManyUnlike 0 = .ok (.iconst 0, 1) := by decide +kernel
theorem dX5_howManyUnlike_1 : decode cX5_howManyUnlike 1 = .ok (.istore_n 1, 1) := by decide +kernel
theorem dX5_howManyUnlike_2 : decode cX5_howManyUnlike 2 = .ok (.iconst 0, 1) := by decide +kernel
theorem dX5_howManyUnlike_3 : decode cX5_howManyUnlike 3 = .ok (.istore_n 2, 1) := by decide +kernel
theorem dX5_howManyUnlike_4 : decode cX5_howManyUnlike 4 = .ok (.iload_n 2, 1) := by decide +kernel
theorem dX5_howManyUnlike_5 : decode cX5_howManyUnlike 5 = .ok (.aload_n 0, 1) := by decide +kernel
theorem dX5_howManyUnlike_6 : decode cX5_howManyUnlike 6 = .ok (.getfield 15, 3) := by decide +kernel
theorem dX5_howManyUnlike_9 : decode cX5_howManyUnlike 9 = .ok (.if_icmp .ge 33, 3) := by decide +kernel
theorem dX5_howManyUnlike_12 : decode cX5_howManyUnlike 12 = .ok (.aload_n 0, 1) := by decide +kernel
theorem dX5_howManyUnlike_13 : decode cX5_howManyUnlike 13 = .ok (.getfield 9, 3) := by decide +kernel
theorem dX5_howManyUnlike_16 : decode cX5_howManyUnlike 16 = .ok (.iload_n 2, 1) := by decide +kernel
theorem dX5_howManyUnlike_17 : decode cX5_howManyUnlike 17 = .ok (.laload, 1) := by decide +kernel
theorem dX5_howManyUnlike_18 : decode cX5_howManyUnlike 18 = .ok (.ldc2_w 23, 3) := by decide +kernel
theorem dX5_howManyUnlike_21 : decode cX5_howManyUnlike 21 = .ok (.lcmp, 1) := by decide +kernel
theorem dX5_howManyUnlike_22 : decode cX5_howManyUnlike 22 = .ok (.ifCond .eq 14, 3) := by decide +kernel
theorem dX5_howManyUnlike_25 : decode cX5_howManyUnlike 25 = .ok (.aload_n 0, 1) := by decide +kernel
theorem dX5_howManyUnlike_26 : decode cX5_howManyUnlike 26 = .ok (.iload_n 2, 1) := by decide +kernel
theorem dX5_howManyUnlike_27 : decode cX5_howManyUnlike 27 = .ok (.invokevirtual 58, 3) := by decide +kernel
theorem dX5_howManyUnlike_30 : decode cX5_howManyUnlike 30 = .ok (.ifCond .ne 6, 3) := by decide +kernel
theorem dX5_howManyUnlike_33 : decode cX5_howManyUnlike 33 = .ok (.iinc 1 1, 3) := by decide +kernel
theorem dX5_howManyUnlike_36 : decode cX5_howManyUnlike 36 = .ok (.iinc 2 1, 3) := by decide +kernel
theorem dX5_howManyUnlike_39 : decode cX5_howManyUnlike 39 = .ok (.goto (-35), 3) := by decide +kernel
theorem dX5_howManyUnlike_42 : decode cX5_howManyUnlike 42 = .ok (.iload_n 1, 1) := by decide +kernel
theorem dX5_howManyUnlike_43 : decode cX5_howManyUnlike 43 = .ok (.ireturn, 1) := by decide +kernel
theorem dX5_standsAhead_0 : decode cX5_standsAhead 0 = .ok (.iconst 0, 1) := by decide +kernel
theorem dX5_standsAhead_1 : decode cX5_standsAhead 1 = .ok (.istore_n 2, 1) := by decide +kernel
theorem dX5_standsAhead_2 : decode cX5_standsAhead 2 = .ok (.iload_n 2, 1) := by decide +kernel
theorem dX5_standsAhead_3 : decode cX5_standsAhead 3 = .ok (.iload_n 1, 1) := by decide +kernel
theorem dX5_standsAhead_4 : decode cX5_standsAhead 4 = .ok (.if_icmp .ge 27, 3) := by decide +kernel
theorem dX5_standsAhead_7 : decode cX5_standsAhead 7 = .ok (.aload_n 0, 1) := by decide +kernel
theorem dX5_standsAhead_8 : decode cX5_standsAhead 8 = .ok (.getfield 9, 3) := by decide +kernel
theorem dX5_standsAhead_11 : decode cX5_standsAhead 11 = .ok (.iload_n 2, 1) := by decide +kernel
theorem dX5_standsAhead_12 : decode cX5_standsAhead 12 = .ok (.laload, 1) := by decide +kernel
theorem dX5_standsAhead_13 : decode cX5_standsAhead 13 = .ok (.aload_n 0, 1) := by decide +kernel
theorem dX5_standsAhead_14 : decode cX5_standsAhead 14 = .ok (.getfield 9, 3) := by decide +kernel
theorem dX5_standsAhead_17 : decode cX5_standsAhead 17 = .ok (.iload_n 1, 1) := by decide +kernel
theorem dX5_standsAhead_18 : decode cX5_standsAhead 18 = .ok (.laload, 1) := by decide +kernel
theorem dX5_standsAhead_19 : decode cX5_standsAhead 19 = .ok (.lcmp, 1) := by decide +kernel
theorem dX5_standsAhead_20 : decode cX5_standsAhead 20 = .ok (.ifCond .ne 5, 3) := by decide +kernel
theorem dX5_standsAhead_23 : decode cX5_standsAhead 23 = .ok (.iconst 1, 1) := by decide +kernel
theorem dX5_standsAhead_24 : decode cX5_standsAhead 24 = .ok (.ireturn, 1) := by decide +kernel
theorem dX5_standsAhead_25 : decode cX5_standsAhead 25 = .ok (.iinc 2 1, 3) := by decide +kernel
theorem dX5_standsAhead_28 : decode cX5_standsAhead 28 = .ok (.goto (-26), 3) := by decide +kernel
theorem dX5_standsAhead_31 : decode cX5_standsAhead 31 = .ok (.iconst 0, 1) := by decide +kernel
theorem dX5_standsAhead_32 : decode cX5_standsAhead 32 = .ok (.ireturn, 1) := by decide +kernel
theorem dX5_longestRun_0 : decode cX5_longestRun 0 = .ok (.iconst 0, 1) := by decide +kernel
theorem dX5_longestRun_1 : decode cX5_longestRun 1 = .ok (.istore_n 1, 1) := by decide +kernel
theorem dX5_longestRun_2 : decode cX5_longestRun 2 = .ok (.iconst 0, 1) := by decide +kernel
theorem dX5_longestRun_3 : decode cX5_longestRun 3 = .ok (.istore_n 2, 1) := by decide +kernel
theorem dX5_longestRun_4 : decode cX5_longestRun 4 = .ok (.ldc2_w 25, 3) := by decide +kernel
theorem dX5_longestRun_7 : decode cX5_longestRun 7 = .ok (.lstore_n 3, 1) := by decide +kernel
theorem dX5_longestRun_8 : decode cX5_longestRun 8 = .ok (.iconst 0, 1) := by decide +kernel
theorem dX5_longestRun_9 : decode cX5_longestRun 9 = .ok (.istore 5, 2) := by decide +kernel
theorem dX5_longestRun_11 : decode cX5_longestRun 11 = .ok (.iload 5, 2) := by decide +kernel
theorem dX5_longestRun_13 : decode cX5_longestRun 13 = .ok (.aload_n 0, 1) := by decide +kernel
theorem dX5_longestRun_14 : decode cX5_longestRun 14 = .ok (.getfield 15, 3) := by decide +kernel
theorem dX5_longestRun_17 : decode cX5_longestRun 17 = .ok (.if_icmp .ge 57, 3) := by decide +kernel
theorem dX5_longestRun_20 : decode cX5_longestRun 20 = .ok (.aload_n 0, 1) := by decide +kernel
theorem dX5_longestRun_21 : decode cX5_longestRun 21 = .ok (.getfield 9, 3) := by decide +kernel
theorem dX5_longestRun_24 : decode cX5_longestRun 24 = .ok (.iload 5, 2) := by decide +kernel
theorem dX5_longestRun_26 : decode cX5_longestRun 26 = .ok (.laload, 1) := by decide +kernel
theorem dX5_longestRun_27 : decode cX5_longestRun 27 = .ok (.ldc2_w 23, 3) := by decide +kernel
theorem dX5_longestRun_30 : decode cX5_longestRun 30 = .ok (.lcmp, 1) := by decide +kernel
theorem dX5_longestRun_31 : decode cX5_longestRun 31 = .ok (.ifCond .eq 37, 3) := by decide +kernel
theorem dX5_longestRun_34 : decode cX5_longestRun 34 = .ok (.aload_n 0, 1) := by decide +kernel
theorem dX5_longestRun_35 : decode cX5_longestRun 35 = .ok (.getfield 9, 3) := by decide +kernel
theorem dX5_longestRun_38 : decode cX5_longestRun 38 = .ok (.iload 5, 2) := by decide +kernel
theorem dX5_longestRun_40 : decode cX5_longestRun 40 = .ok (.laload, 1) := by decide +kernel
theorem dX5_longestRun_41 : decode cX5_longestRun 41 = .ok (.lload_n 3, 1) := by decide +kernel
theorem dX5_longestRun_42 : decode cX5_longestRun 42 = .ok (.lcmp, 1) := by decide +kernel
theorem dX5_longestRun_43 : decode cX5_longestRun 43 = .ok (.ifCond .ne 9, 3) := by decide +kernel
theorem dX5_longestRun_46 : decode cX5_longestRun 46 = .ok (.iload_n 2, 1) := by decide +kernel
theorem dX5_longestRun_47 : decode cX5_longestRun 47 = .ok (.iconst 1, 1) := by decide +kernel
theorem dX5_longestRun_48 : decode cX5_longestRun 48 = .ok (.iadd, 1) := by decide +kernel
theorem dX5_longestRun_49 : decode cX5_longestRun 49 = .ok (.goto 4, 3) := by decide +kernel
theorem dX5_longestRun_52 : decode cX5_longestRun 52 = .ok (.iconst 1, 1) := by decide +kernel
theorem dX5_longestRun_53 : decode cX5_longestRun 53 = .ok (.istore_n 2, 1) := by decide +kernel
theorem dX5_longestRun_54 : decode cX5_longestRun 54 = .ok (.aload_n 0, 1) := by decide +kernel
theorem dX5_longestRun_55 : decode cX5_longestRun 55 = .ok (.getfield 9, 3) := by decide +kernel
theorem dX5_longestRun_58 : decode cX5_longestRun 58 = .ok (.iload 5, 2) := by decide +kernel
theorem dX5_longestRun_60 : decode cX5_longestRun 60 = .ok (.laload, 1) := by decide +kernel
theorem dX5_longestRun_61 : decode cX5_longestRun 61 = .ok (.lstore_n 3, 1) := by decide +kernel
theorem dX5_longestRun_62 : decode cX5_longestRun 62 = .ok (.iload_n 1, 1) := by decide +kernel
theorem dX5_longestRun_63 : decode cX5_longestRun 63 = .ok (.iload_n 2, 1) := by decide +kernel
theorem dX5_longestRun_64 : decode cX5_longestRun 64 = .ok (.invokestatic 61, 3) := by decide +kernel
theorem dX5_longestRun_67 : decode cX5_longestRun 67 = .ok (.istore_n 1, 1) := by decide +kernel
theorem dX5_longestRun_68 : decode cX5_longestRun 68 = .ok (.iinc 5 1, 3) := by decide +kernel
theorem dX5_longestRun_71 : decode cX5_longestRun 71 = .ok (.goto (-60), 3) := by decide +kernel
theorem dX5_longestRun_74 : decode cX5_longestRun 74 = .ok (.iload_n 1, 1) := by decide +kernel
theorem dX5_longestRun_75 : decode cX5_longestRun 75 = .ok (.ireturn, 1) := by decide +kernel
theorem dX5_firstUnlike_0 : decode cX5_firstUnlike 0 = .ok (.aload_n 0, 1) := by decide +kernel
theorem dX5_firstUnlike_1 : decode cX5_firstUnlike 1 = .ok (.getfield 15, 3) := by decide +kernel
theorem dX5_firstUnlike_4 : decode cX5_firstUnlike 4 = .ok (.aload_n 1, 1) := by decide +kernel
theorem dX5_firstUnlike_5 : decode cX5_firstUnlike 5 = .ok (.getfield 15, 3) := by decide +kernel
theorem dX5_firstUnlike_8 : decode cX5_firstUnlike 8 = .ok (.invokestatic 61, 3) := by decide +kernel
theorem dX5_firstUnlike_11 : decode cX5_firstUnlike 11 = .ok (.istore_n 2, 1) := by decide +kernel
theorem dX5_firstUnlike_12 : decode cX5_firstUnlike 12 = .ok (.iconst 0, 1) := by decide +kernel
theorem dX5_firstUnlike_13 : decode cX5_firstUnlike 13 = .ok (.istore_n 3, 1) := by decide +kernel
theorem dX5_firstUnlike_14 : decode cX5_firstUnlike 14 = .ok (.iload_n 3, 1) := by decide +kernel
theorem dX5_firstUnlike_15 : decode cX5_firstUnlike 15 = .ok (.iload_n 2, 1) := by decide +kernel
theorem dX5_firstUnlike_16 : decode cX5_firstUnlike 16 = .ok (.if_icmp .ge 25, 3) := by decide +kernel
theorem dX5_firstUnlike_19 : decode cX5_firstUnlike 19 = .ok (.aload_n 0, 1) := by decide +kernel
theorem dX5_firstUnlike_20 : decode cX5_firstUnlike 20 = .ok (.iload_n 3, 1) := by decide +kernel
theorem dX5_firstUnlike_21 : decode cX5_firstUnlike 21 = .ok (.invokevirtual 50, 3) := by decide +kernel
theorem dX5_firstUnlike_24 : decode cX5_firstUnlike 24 = .ok (.aload_n 1, 1) := by decide +kernel
theorem dX5_firstUnlike_25 : decode cX5_firstUnlike 25 = .ok (.iload_n 3, 1) := by decide +kernel
theorem dX5_firstUnlike_26 : decode cX5_firstUnlike 26 = .ok (.invokevirtual 50, 3) := by decide +kernel
theorem dX5_firstUnlike_29 : decode cX5_firstUnlike 29 = .ok (.lcmp, 1) := by decide +kernel
theorem dX5_firstUnlike_30 : decode cX5_firstUnlike 30 = .ok (.ifCond .eq 5, 3) := by decide +kernel
theorem dX5_firstUnlike_33 : decode cX5_firstUnlike 33 = .ok (.iload_n 3, 1) := by decide +kernel
theorem dX5_firstUnlike_34 : decode cX5_firstUnlike 34 = .ok (.ireturn, 1) := by decide +kernel
theorem dX5_firstUnlike_35 : decode cX5_firstUnlike 35 = .ok (.iinc 3 1, 3) := by decide +kernel
theorem dX5_firstUnlike_38 : decode cX5_firstUnlike 38 = .ok (.goto (-24), 3) := by decide +kernel
theorem dX5_firstUnlike_41 : decode cX5_firstUnlike 41 = .ok (.iconst (-1), 1) := by decide +kernel
theorem dX5_firstUnlike_42 : decode cX5_firstUnlike 42 = .ok (.ireturn, 1) := by decide +kernel

