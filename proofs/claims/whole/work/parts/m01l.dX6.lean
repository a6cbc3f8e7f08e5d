theorem dX6_init_0 : decode cX6_init 0 = .ok (.aload_n 0, 1) := by decide +kernel
theorem dX6_init_1 : decode cX6_init 1 = .ok (.invokespecial 3, 3) := by decide +kernel
theorem dX6_init_4 : decode cX6_init 4 = .ok (.aload_n 0, 1) := by decide +kernel
theorem dX6_init_5 : decode cX6_init 5 = .ok (.bipush 20, 2) := by decide +kernel
theorem dX6_init_7 : decode cX6_init 7 = .ok (.newarray .int, 2) := by decide +kernel
theorem dX6_init_9 : decode cX6_init 9 = .ok (.putfield 11, 3) := by decide +kernel
theorem dX6_init_12 : decode cX6_init 12 = .ok (.return_, 1) := by decide +kernel
theorem dX6_write_0 : decode cX6_write 0 = .ok (.aload_n 0, 1) := by decide +kernel
theorem dX6_write_1 : decode cX6_write 1 = .ok (.getfield 11, 3) := by decide +kernel
theorem dX6_write_4 : decode cX6_write 4 = .ok (.iconst 0, 1) := by decide +kernel
theorem dX6_write_5 : decode cX6_write 5 = .ok (.invokestatic 15, 3) := by decide +kernel
theorem dX6_write_8 : decode cX6_write 8 = .ok (.aload_n 0, 1) := by decide +kernel
theorem dX6_write_9 : decode cX6_write 9 = .ok (.iconst 0, 1) := by decide +kernel
theorem dX6_write_10 : decode cX6_write 10 = .ok (.putfield 21, 3) := by decide +kernel
theorem dX6_write_13 : decode cX6_write 13 = .ok (.aload_n 1, 1) := by decide +kernel
theorem dX6_write_14 : decode cX6_write 14 = .ok (.aload_n 3, 1) := by decide +kernel
theorem dX6_write_15 : decode cX6_write 15 = .ok (.iload_n 2, 1) := by decide +kernel
theorem dX6_write_16 : decode cX6_write 16 = .ok (.invokevirtual 25, 3) := by decide +kernel
theorem dX6_write_19 : decode cX6_write 19 = .ok (.aload_n 0, 1) := by decide +kernel
theorem dX6_write_20 : decode cX6_write 20 = .ok (.aload_n 1, 1) := by decide +kernel
theorem dX6_write_21 : decode cX6_write 21 = .ok (.iload_n 2, 1) := by decide +kernel
theorem dX6_write_22 : decode cX6_write 22 = .ok (.invokevirtual 31, 3) := by decide +kernel
theorem dX6_write_25 : decode cX6_write 25 = .ok (.aload_n 0, 1) := by decide +kernel
theorem dX6_write_26 : decode cX6_write 26 = .ok (.aload_n 3, 1) := by decide +kernel
theorem dX6_write_27 : decode cX6_write 27 = .ok (.aload_n 1, 1) := by decide +kernel
theorem dX6_write_28 : decode cX6_write 28 = .ok (.iload_n 2, 1) := by decide +kernel
theorem dX6_write_29 : decode cX6_write 29 = .ok (.iconst 3, 1) := by decide +kernel
theorem dX6_write_30 : decode cX6_write 30 = .ok (.invokevirtual 35, 3) := by decide +kernel
theorem dX6_write_33 : decode cX6_write 33 = .ok (.invokevirtual 39, 3) := by decide +kernel
theorem dX6_write_36 : decode cX6_write 36 = .ok (.return_, 1) := by decide +kernel
theorem dX6_wordAt_0 : decode cX6_wordAt 0 = .ok (.iload_n 1, 1) := by decide +kernel
theorem dX6_wordAt_1 : decode cX6_wordAt 1 = .ok (.ifCond .lt 29, 3) := by decide +kernel
theorem dX6_wordAt_4 : decode cX6_wordAt 4 = .ok (.iload_n 1, 1) := by decide +kernel
theorem dX6_wordAt_5 : decode cX6_wordAt 5 = .ok (.aload_n 0, 1) := by decide +kernel
theorem dX6_wordAt_6 : decode cX6_wordAt 6 = .ok (.getfield 21, 3) := by decide +kernel
theorem dX6_wordAt_9 : decode cX6_wordAt 9 = .ok (.invokestatic 42, 3) := by decide +kernel
theorem dX6_wordAt_12 : decode cX6_wordAt 12 = .ok (.if_icmp .ge 18, 3) := by decide +kernel
theorem dX6_wordAt_15 : decode cX6_wordAt 15 = .ok (.iload_n 1, 1) := by decide +kernel
theorem dX6_wordAt_16 : decode cX6_wordAt 16 = .ok (.bipush 20, 2) := by decide +kernel
theorem dX6_wordAt_18 : decode cX6_wordAt 18 = .ok (.if_icmp .ge 12, 3) := by decide +kernel
theorem dX6_wordAt_21 : decode cX6_wordAt 21 = .ok (.aload_n 0, 1) := by decide +kernel
theorem dX6_wordAt_22 : decode cX6_wordAt 22 = .ok (.getfield 11, 3) := by decide +kernel
theorem dX6_wordAt_25 : decode cX6_wordAt 25 = .ok (.iload_n 1, 1) := by decide +kernel
theorem dX6_wordAt_26 : decode cX6_wordAt 26 = .ok (.iaload, 1) := by decide +kernel
theorem dX6_wordAt_27 : decode cX6_wordAt 27 = .ok (.goto 4, 3) := by decide +kernel
theorem dX6_wordAt_30 : decode cX6_wordAt 30 = .ok (.iconst 0, 1) := by decide +kernel
theorem dX6_wordAt_31 : decode cX6_wordAt 31 = .ok (.ireturn, 1) := by decide +kernel
theorem dX6_sendTo_0 : decode cX6_sendTo 0 = .ok (.aload_n 0, 1) := by decide +kernel
theorem dX6_sendTo_1 : decode cX6_sendTo 1 = .ok (.getfield 21, 3) := by decide +kernel
theorem dX6_sendTo_4 : decode cX6_sendTo 4 = .ok (.invokestatic 42, 3) := by decide +kernel
theorem dX6_sendTo_7 : decode cX6_sendTo 7 = .ok (.istore_n 2, 1) := by decide +kernel
theorem dX6_sendTo_8 : decode cX6_sendTo 8 = .ok (.iconst 0, 1) := by decide +kernel
theorem dX6_sendTo_9 : decode cX6_sendTo 9 = .ok (.istore_n 3, 1) := by decide +kernel
theorem dX6_sendTo_10 : decode cX6_sendTo 10 = .ok (.iload_n 3, 1) := by decide +kernel
theorem dX6_sendTo_11 : decode cX6_sendTo 11 = .ok (.iload_n 2, 1) := by decide +kernel
theorem dX6_sendTo_12 : decode cX6_sendTo 12 = .ok (.if_icmp .ge 19, 3) := by decide +kernel
theorem dX6_sendTo_15 : decode cX6_sendTo 15 = .ok (.aload_n 1, 1) := by decide +kernel
theorem dX6_sendTo_16 : decode cX6_sendTo 16 = .ok (.aload_n 0, 1) := by decide +kernel
theorem dX6_sendTo_17 : decode cX6_sendTo 17 = .ok (.iload_n 3, 1) := by decide +kernel
theorem dX6_sendTo_18 : decode cX6_sendTo 18 = .ok (.invokevirtual 46, 3) := by decide +kernel
theorem dX6_sendTo_21 : decode cX6_sendTo 21 = .ok (.invokevirtual 49, 3) := by decide +kernel
theorem dX6_sendTo_24 : decode cX6_sendTo 24 = .ok (.pop, 1) := by decide +kernel
theorem dX6_sendTo_25 : decode cX6_sendTo 25 = .ok (.iinc 3 1, 3) := by decide +kernel
theorem dX6_sendTo_28 : decode cX6_sendTo 28 = .ok (.goto (-18), 3) := by decide +kernel
theorem dX6_sendTo_31 : decode cX6_sendTo 31 = .ok (.return_, 1) := by decide +kernel
theorem dX6_writeHead_0 : decode cX6_writeHead 0 = .ok (.aload_n 1, 1) := by decide +kernel
theorem dX6_writeHead_1 : decode cX6_writeHead 1 = .ok (.iload_n 2, 1) := by decide +kernel
theorem dX6_writeHead_2 : decode cX6_writeHead 2 = .ok (.iconst 0, 1) := by decide +kernel
theorem dX6_writeHead_3 : decode cX6_writeHead 3 = .ok (.invokevirtual 35, 3) := by decide +kernel
theorem dX6_writeHead_6 : decode cX6_writeHead 6 = .ok (.istore_n 3, 1) := by decide +kernel
theorem dX6_writeHead_7 : decode cX6_writeHead 7 = .ok (.aload_n 1, 1) := by decide +kernel
theorem dX6_writeHead_8 : decode cX6_writeHead 8 = .ok (.iload_n 2, 1) := by decide +kernel
theorem dX6_writeHead_9 : decode cX6_writeHead 9 = .ok (.iconst 2, 1) := by decide +kernel
theorem dX6_writeHead_10 : decode cX6_writeHead 10 = .ok (.invokevirtual 35, 3) := by decide +kernel
theorem dX6_writeHead_13 : decode cX6_writeHead 13 = .ok (.istore 4, 2) := by decide +kernel
theorem dX6_writeHead_15 : decode cX6_writeHead 15 = .ok (.aload_n 1, 1) := by decide +kernel
theorem dX6_writeHead_16 : decode cX6_writeHead 16 = .ok (.iload_n 2, 1) := by decide +kernel
theorem dX6_writeHead_17 : decode cX6_writeHead 17 = .ok (.iconst 1, 1) := by decide +kernel
theorem dX6_writeHead_18 : decode cX6_writeHead 18 = .ok (.invokevirtual 35, 3) := by decide +kernel
theorem dX6_writeHead_21 : decode cX6_writeHead 21 = .ok (.iload_n 3, 1) := by decide +kernel
theorem dX6_writeHead_22 : decode cX6_writeHead 22 = .ok (.if_icmp .ge 7, 3) := by decide +kernel
theorem dX6_writeHead_25 : decode cX6_writeHead 25 = .ok (.iconst 1, 1) := by decide +kernel
theorem dX6_writeHead_26 : decode cX6_writeHead 26 = .ok (.goto 4, 3) := by decide +kernel
theorem dX6_writeHead_29 : decode cX6_writeHead 29 = .ok (.iconst 0, 1) := by decide +kernel
theorem dX6_writeHead_30 : decode cX6_writeHead 30 = .ok (.istore 5, 2) := by decide +kernel
theorem dX6_writeHead_32 : decode cX6_writeHead 32 = .ok (.aload_n 0, 1) := by decide +kernel
theorem dX6_writeHead_33 : decode cX6_writeHead 33 = .ok (.iload_n 3, 1) := by decide +kernel
theorem dX6_writeHead_34 : decode cX6_writeHead 34 = .ok (.iconst 1, 1) := by decide +kernel
theorem dX6_writeHead_35 : decode cX6_writeHead 35 = .ok (.isub, 1) := by decide +kernel
theorem dX6_writeHead_36 : decode cX6_writeHead 36 = .ok (.iconst 4, 1) := by decide +kernel
theorem dX6_writeHead_37 : decode cX6_writeHead 37 = .ok (.invokevirtual 55, 3) := by decide +kernel
theorem dX6_writeHead_40 : decode cX6_writeHead 40 = .ok (.aload_n 0, 1) := by decide +kernel
theorem dX6_writeHead_41 : decode cX6_writeHead 41 = .ok (.iload 5, 2) := by decide +kernel
theorem dX6_writeHead_43 : decode cX6_writeHead 43 = .ok (.ifCond .eq 7, 3) := by decide +kernel
theorem dX6_writeHead_46 : decode cX6_writeHead 46 = .ok (.iconst 1, 1) := by decide +kernel
theorem dX6_writeHead_47 : decode cX6_writeHead 47 = .ok (.goto 4, 3) := by decide +kernel
theorem dX6_writeHead_50 : decode cX6_writeHead 50 = .ok (.iconst 0, 1) := by decide +kernel
theorem dX6_writeHead_51 : decode cX6_writeHead 51 = .ok (.iconst 1, 1) := by decide +kernel
theorem dX6_writeHead_52 : decode cX6_writeHead 52 = .ok (.invokevirtual 55, 3) := by decide +kernel
theorem dX6_writeHead_55 : decode cX6_writeHead 55 = .ok (.iload 5, 2) := by decide +kernel
theorem dX6_writeHead_57 : decode cX6_writeHead 57 = .ok (.ifCond .eq 17, 3) := by decide +kernel
theorem dX6_writeHead_60 : decode cX6_writeHead 60 = .ok (.aload_n 0, 1) := by decide +kernel
theorem dX6_writeHead_61 : decode cX6_writeHead 61 = .ok (.aload_n 1, 1) := by decide +kernel
theorem dX6_writeHead_62 : decode cX6_writeHead 62 = .ok (.getfield 59, 3) := by decide +kernel
theorem dX6_writeHead_65 : decode cX6_writeHead 65 = .ok (.aload_n 1, 1) := by decide +kernel
theorem dX6_writeHead_66 : decode cX6_writeHead 66 = .ok (.iload_n 2, 1) := by decide +kernel
theorem dX6_writeHead_67 : decode cX6_writeHead 67 = .ok (.invokevirtual 63, 3) := by decide +kernel
theorem dX6_writeHead_70 : decode cX6_writeHead 70 = .ok (.iload_n 3, 1) := by decide +kernel
theorem dX6_writeHead_71 : decode cX6_writeHead 71 = .ok (.invokevirtual 66, 3) := by decide +kernel
theorem dX6_writeHead_74 : decode cX6_writeHead 74 = .ok (.aload_n 0, 1) := by decide +kernel
theorem dX6_writeHead_75 : decode cX6_writeHead 75 = .ok (.iload 4, 2) := by decide +kernel
theorem dX6_writeHead_77 : decode cX6_writeHead 77 = .ok (.iconst 2, 1) := by decide +kernel
theorem dX6_writeHead_78 : decode cX6_writeHead 78 = .ok (.invokevirtual 55, 3) := by decide +kernel
theorem dX6_writeHead_81 : decode cX6_writeHead 81 = .ok (.aload_n 0, 1) := by decide +kernel
theorem dX6_writeHead_82 : decode cX6_writeHead 82 = .ok (.aload_n 1, 1) := by decide +kernel
theorem dX6_writeHead_83 : decode cX6_writeHead 83 = .ok (.iload_n 2, 1) := by decide +kernel
theorem dX6_writeHead_84 : decode cX6_writeHead 84 = .ok (.iconst 3, 1) := by decide +kernel
theorem dX6_writeHead_85 : decode cX6_writeHead 85 = .ok (.invokevirtual 35, 3) := by decide +kernel
theorem dX6_writeHead_88 : decode cX6_writeHead 88 = .ok (.bipush 6, 2) := by decide +kernel
theorem dX6_writeHead_90 : decode cX6_writeHead 90 = .ok (.invokevirtual 55, 3) := by decide +kernel
theorem dX6_writeHead_93 : decode cX6_writeHead 93 = .ok (.aload_n 0, 1) := by decide +kernel
theorem dX6_writeHead_94 : decode cX6_writeHead 94 = .ok (.aload_n 1, 1) := by decide +kernel
theorem dX6_writeHead_95 : decode cX6_writeHead 95 = .ok (.iload_n 2, 1) := by decide +kernel
theorem dX6_writeHead_96 : decode cX6_writeHead 96 = .ok (.iconst 4, 1) := by decide +kernel
theorem dX6_writeHead_97 : decode cX6_writeHead 97 = .ok (.invokevirtual 35, 3) := by decide +kernel
theorem dX6_writeHead_100 : decode cX6_writeHead 100 = .ok (.iconst 4, 1) := by decide +kernel
theorem dX6_writeHead_101 : decode cX6_writeHead 101 = .ok (.invokevirtual 55, 3) := by decide +kernel
theorem dX6_writeHead_104 : decode cX6_writeHead 104 = .ok (.aload_n 0, 1) := by decide +kernel
theorem dX6_writeHead_105 : decode cX6_writeHead 105 = .ok (.aload_n 1, 1) := by decide +kernel
theorem dX6_writeHead_106 : decode cX6_writeHead 106 = .ok (.iload_n 2, 1) := by decide +kernel
theorem dX6_writeHead_107 : decode cX6_writeHead 107 = .ok (.bipush 6, 2) := by decide +kernel
theorem dX6_writeHead_109 : decode cX6_writeHead 109 = .ok (.invokevirtual 35, 3) := by decide +kernel
theorem dX6_writeHead_112 : decode cX6_writeHead 112 = .ok (.bipush 32, 2) := by decide +kernel
theorem dX6_writeHead_114 : decode cX6_writeHead 114 = .ok (.invokevirtual 55, 3) := by decide +kernel
theorem dX6_writeHead_117 : decode cX6_writeHead 117 = .ok (.iload 4, 2) := by decide +kernel
theorem dX6_writeHead_119 : decode cX6_writeHead 119 = .ok (.iconst 2, 1) := by decide +kernel
theorem dX6_writeHead_120 : decode cX6_writeHead 120 = .ok (.if_icmp .ne 16, 3) := by decide +kernel
theorem dX6_writeHead_123 : decode cX6_writeHead 123 = .ok (.aload_n 0, 1) := by decide +kernel
theorem dX6_writeHead_124 : decode cX6_writeHead 124 = .ok (.aload_n 1, 1) := by decide +kernel
theorem dX6_writeHead_125 : decode cX6_writeHead 125 = .ok (.iload_n 2, 1) := by decide +kernel
theorem dX6_writeHead_126 : decode cX6_writeHead 126 = .ok (.bipush 7, 2) := by decide +kernel
theorem dX6_writeHead_128 : decode cX6_writeHead 128 = .ok (.invokevirtual 35, 3) := by decide +kernel
theorem dX6_writeHead_131 : decode cX6_writeHead 131 = .ok (.bipush 32, 2) := by decide +kernel
theorem dX6_writeHead_133 : decode cX6_writeHead 133 = .ok (.invokevirtual 55, 3) := by decide +kernel
theorem dX6_writeHead_136 : decode cX6_writeHead 136 = .ok (.return_, 1) := by decide +kernel
theorem dX6_writeMask_0 : decode cX6_writeMask 0 = .ok (.iload_n 2, 1) := by decide +kernel
theorem dX6_writeMask_1 : decode cX6_writeMask 1 = .ok (.istore 4, 2) := by decide +kernel
theorem dX6_writeMask_3 : decode cX6_writeMask 3 = .ok (.iload 4, 2) := by decide +kernel
theorem dX6_writeMask_5 : decode cX6_writeMask 5 = .ok (.iload_n 2, 1) := by decide +kernel
theorem dX6_writeMask_6 : decode cX6_writeMask 6 = .ok (.iload_n 3, 1) := by decide +kernel
theorem dX6_writeMask_7 : decode cX6_writeMask 7 = .ok (.iadd, 1) := by decide +kernel
theorem dX6_writeMask_8 : decode cX6_writeMask 8 = .ok (.if_icmp .ge 28, 3) := by decide +kernel
theorem dX6_writeMask_11 : decode cX6_writeMask 11 = .ok (.aload_n 0, 1) := by decide +kernel
theorem dX6_writeMask_12 : decode cX6_writeMask 12 = .ok (.aload_n 1, 1) := by decide +kernel
theorem dX6_writeMask_13 : decode cX6_writeMask 13 = .ok (.iload 4, 2) := by decide +kernel
theorem dX6_writeMask_15 : decode cX6_writeMask 15 = .ok (.invokevirtual 70, 3) := by decide +kernel
theorem dX6_writeMask_18 : decode cX6_writeMask 18 = .ok (.ifCond .eq 7, 3) := by decide +kernel
theorem dX6_writeMask_21 : decode cX6_writeMask 21 = .ok (.iconst 0, 1) := by decide +kernel
theorem dX6_writeMask_22 : decode cX6_writeMask 22 = .ok (.goto 4, 3) := by decide +kernel
theorem dX6_writeMask_25 : decode cX6_writeMask 25 = .ok (.iconst 1, 1) := by decide +kernel
theorem dX6_writeMask_26 : decode cX6_writeMask 26 = .ok (.iconst 1, 1) := by decide +kernel
theorem dX6_writeMask_27 : decode cX6_writeMask 27 = .ok (.invokevirtual 55, 3) := by decide +kernel
theorem dX6_writeMask_30 : decode cX6_writeMask 30 = .ok (.iinc 4 1, 3) := by decide +kernel
theorem dX6_writeMask_33 : decode cX6_writeMask 33 = .ok (.goto (-30), 3) := by decide +kernel
theorem dX6_writeMask_36 : decode cX6_writeMask 36 = .ok (.return_, 1) := by decide +kernel
theorem dX6_writeParts_0 : decode cX6_writeParts 0 = .ok (.iconst 0, 1) := by decide +kernel
theorem dX6_writeParts_1 : decode cX6_writeParts 1 = .ok (.istore_n 3, 1) := by decide +kernel
theorem dX6_writeParts_2 : decode cX6_writeParts 2 = .ok (.iload_n 3, 1) := by decide +kernel
theorem dX6_writeParts_3 : decode cX6_writeParts 3 = .ok (.aload_n 1, 1) := by decide +kernel
theorem dX6_writeParts_4 : decode cX6_writeParts 4 = .ok (.getfield 75, 3) := by decide +kernel
theorem dX6_writeParts_7 : decode cX6_writeParts 7 = .ok (.if_icmp .ge 20, 3) := by decide +kernel
theorem dX6_writeParts_10 : decode cX6_writeParts 10 = .ok (.aload_n 0, 1) := by decide +kernel
theorem dX6_writeParts_11 : decode cX6_writeParts 11 = .ok (.aload_n 1, 1) := by decide +kernel
theorem dX6_writeParts_12 : decode cX6_writeParts 12 = .ok (.getfield 80, 3) := by decide +kernel
theorem dX6_writeParts_15 : decode cX6_writeParts 15 = .ok (.iload_n 3, 1) := by decide +kernel
theorem dX6_writeParts_16 : decode cX6_writeParts 16 = .ok (.iaload, 1) := by decide +kernel
theorem dX6_writeParts_17 : decode cX6_writeParts 17 = .ok (.iload_n 2, 1) := by decide +kernel
theorem dX6_writeParts_18 : decode cX6_writeParts 18 = .ok (.invokevirtual 55, 3) := by decide +kernel
theorem dX6_writeParts_21 : decode cX6_writeParts 21 = .ok (.iinc 3 1, 3) := by decide +kernel
theorem dX6_writeParts_24 : decode cX6_writeParts 24 = .ok (.goto (-22), 3) := by decide +kernel
theorem dX6_writeParts_27 : decode cX6_writeParts 27 = .ok (.iconst 0, 1) := by decide +kernel
theorem dX6_writeParts_28 : decode cX6_writeParts 28 = .ok (.istore_n 3, 1) := by decide +kernel
theorem dX6_writeParts_29 : decode cX6_writeParts 29 = .ok (.iload_n 3, 1) := by decide +kernel
theorem dX6_writeParts_30 : decode cX6_writeParts 30 = .ok (.aload_n 1, 1) := by decide +kernel
theorem dX6_writeParts_31 : decode cX6_writeParts 31 = .ok (.getfield 75, 3) := by decide +kernel
theorem dX6_writeParts_34 : decode cX6_writeParts 34 = .ok (.if_icmp .ge 40, 3) := by decide +kernel
theorem dX6_writeParts_37 : decode cX6_writeParts 37 = .ok (.aload_n 1, 1) := by decide +kernel
theorem dX6_writeParts_38 : decode cX6_writeParts 38 = .ok (.iload_n 3, 1) := by decide +kernel
theorem dX6_writeParts_39 : decode cX6_writeParts 39 = .ok (.iload_n 2, 1) := by decide +kernel
theorem dX6_writeParts_40 : decode cX6_writeParts 40 = .ok (.invokevirtual 83, 3) := by decide +kernel
theorem dX6_writeParts_43 : decode cX6_writeParts 43 = .ok (.ifCond .eq 25, 3) := by decide +kernel
theorem dX6_writeParts_46 : decode cX6_writeParts 46 = .ok (.aload_n 0, 1) := by decide +kernel
theorem dX6_writeParts_47 : decode cX6_writeParts 47 = .ok (.iload_n 3, 1) := by decide +kernel
theorem dX6_writeParts_48 : decode cX6_writeParts 48 = .ok (.iconst 4, 1) := by decide +kernel
theorem dX6_writeParts_49 : decode cX6_writeParts 49 = .ok (.invokevirtual 55, 3) := by decide +kernel
theorem dX6_writeParts_52 : decode cX6_writeParts 52 = .ok (.aload_n 0, 1) := by decide +kernel
theorem dX6_writeParts_53 : decode cX6_writeParts 53 = .ok (.aload_n 1, 1) := by decide +kernel
theorem dX6_writeParts_54 : decode cX6_writeParts 54 = .ok (.getfield 80, 3) := by decide +kernel
theorem dX6_writeParts_57 : decode cX6_writeParts 57 = .ok (.iload_n 3, 1) := by decide +kernel
theorem dX6_writeParts_58 : decode cX6_writeParts 58 = .ok (.iaload, 1) := by decide +kernel
theorem dX6_writeParts_59 : decode cX6_writeParts 59 = .ok (.iload_n 2, 1) := by decide +kernel
theorem dX6_writeParts_60 : decode cX6_writeParts 60 = .ok (.iushr, 1) := by decide +kernel
theorem dX6_writeParts_61 : decode cX6_writeParts 61 = .ok (.bipush 32, 2) := by decide +kernel
theorem dX6_writeParts_63 : decode cX6_writeParts 63 = .ok (.iload_n 2, 1) := by decide +kernel
theorem dX6_writeParts_64 : decode cX6_writeParts 64 = .ok (.isub, 1) := by decide +kernel
theorem dX6_writeParts_65 : decode cX6_writeParts 65 = .ok (.invokevirtual 55, 3) := by decide +kernel
theorem dX6_writeParts_68 : decode cX6_writeParts 68 = .ok (.iinc 3 1, 3) := by decide +kernel
theorem dX6_writeParts_71 : decode cX6_writeParts 71 = .ok (.goto (-42), 3) := by decide +kernel
theorem dX6_writeParts_74 : decode cX6_writeParts 74 = .ok (.return_, 1) := by decide +kernel
theorem dX6_writeNumber_0 : decode cX6_writeNumber 0 = .ok (.iconst 0, 1) := by decide +kernel
theorem dX6_writeNumber_1 : decode cX6_writeNumber 1 = .ok (.istore_n 3, 1) := by decide +kernel
theorem dX6_writeNumber_2 : decode cX6_writeNumber 2 = .ok (.iload_n 3, 1) := by decide +kernel
theorem dX6_writeNumber_3 : decode cX6_writeNumber 3 = .ok (.iload_n 2, 1) := by decide +kernel
theorem dX6_writeNumber_4 : decode cX6_writeNumber 4 = .ok (.if_icmp .ge 57, 3) := by decide +kernel
theorem dX6_writeNumber_7 : decode cX6_writeNumber 7 = .ok (.aload_n 0, 1) := by decide +kernel
theorem dX6_writeNumber_8 : decode cX6_writeNumber 8 = .ok (.getfield 21, 3) := by decide +kernel
theorem dX6_writeNumber_11 : decode cX6_writeNumber 11 = .ok (.sipush 640, 3) := by decide +kernel
theorem dX6_writeNumber_14 : decode cX6_writeNumber 14 = .ok (.if_icmp .ge 47, 3) := by decide +kernel
theorem dX6_writeNumber_17 : decode cX6_writeNumber 17 = .ok (.aload_n 0, 1) := by decide +kernel
theorem dX6_writeNumber_18 : decode cX6_writeNumber 18 = .ok (.getfield 11, 3) := by decide +kernel
theorem dX6_writeNumber_21 : decode cX6_writeNumber 21 = .ok (.aload_n 0, 1) := by decide +kernel
theorem dX6_writeNumber_22 : decode cX6_writeNumber 22 = .ok (.getfield 21, 3) := by decide +kernel
theorem dX6_writeNumber_25 : decode cX6_writeNumber 25 = .ok (.bipush 32, 2) := by decide +kernel
theorem dX6_writeNumber_27 : decode cX6_writeNumber 27 = .ok (.idiv, 1) := by decide +kernel
theorem dX6_writeNumber_28 : decode cX6_writeNumber 28 = .ok (.dup2, 1) := by decide +kernel
theorem dX6_writeNumber_29 : decode cX6_writeNumber 29 = .ok (.iaload, 1) := by decide +kernel
theorem dX6_writeNumber_30 : decode cX6_writeNumber 30 = .ok (.iload_n 1, 1) := by decide +kernel
theorem dX6_writeNumber_31 : decode cX6_writeNumber 31 = .ok (.iload_n 3, 1) := by decide +kernel
theorem dX6_writeNumber_32 : decode cX6_writeNumber 32 = .ok (.iushr, 1) := by decide +kernel
theorem dX6_writeNumber_33 : decode cX6_writeNumber 33 = .ok (.iconst 1, 1) := by decide +kernel
theorem dX6_writeNumber_34 : decode cX6_writeNumber 34 = .ok (.iand, 1) := by decide +kernel
theorem dX6_writeNumber_35 : decode cX6_writeNumber 35 = .ok (.aload_n 0, 1) := by decide +kernel
theorem dX6_writeNumber_36 : decode cX6_writeNumber 36 = .ok (.getfield 21, 3) := by decide +kernel
theorem dX6_writeNumber_39 : decode cX6_writeNumber 39 = .ok (.bipush 32, 2) := by decide +kernel
theorem dX6_writeNumber_41 : decode cX6_writeNumber 41 = .ok (.irem, 1) := by decide +kernel
theorem dX6_writeNumber_42 : decode cX6_writeNumber 42 = .ok (.ishl, 1) := by decide +kernel
theorem dX6_writeNumber_43 : decode cX6_writeNumber 43 = .ok (.ior, 1) := by decide +kernel
theorem dX6_writeNumber_44 : decode cX6_writeNumber 44 = .ok (.iastore, 1) := by decide +kernel
theorem dX6_writeNumber_45 : decode cX6_writeNumber 45 = .ok (.aload_n 0, 1) := by decide +kernel
theorem dX6_writeNumber_46 : decode cX6_writeNumber 46 = .ok (.dup, 1) := by decide +kernel
theorem dX6_writeNumber_47 : decode cX6_writeNumber 47 = .ok (.getfield 21, 3) := by decide +kernel
theorem dX6_writeNumber_50 : decode cX6_writeNumber 50 = .ok (.iconst 1, 1) := by decide +kernel
theorem dX6_writeNumber_51 : decode cX6_writeNumber 51 = .ok (.iadd, 1) := by decide +kernel
theorem dX6_writeNumber_52 : decode cX6_writeNumber 52 = .ok (.putfield 21, 3) := by decide +kernel
theorem dX6_writeNumber_55 : decode cX6_writeNumber 55 = .ok (.iinc 3 1, 3) := by decide +kernel
theorem dX6_writeNumber_58 : decode cX6_writeNumber 58 = .ok (.goto (-56), 3) := by decide +kernel
theorem dX6_writeNumber_61 : decode cX6_writeNumber 61 = .ok (.return_, 1) := by decide +kernel

