theorem dX8_init_0 : decode cX8_init 0 = .ok (.aload_n 0, 1) := by decide +kernel
theorem dX8_init_1 : decode cX8_init 1 = .ok (.invokespecial 3, 3) := by decide +kernel
theorem dX8_init_4 : decode cX8_init 4 = .ok (.aload_n 0, 1) := by decide +kernel
theorem dX8_init_5 : decode cX8_init 5 = .ok (.sipush 400, 3) := by decide +kernel
theorem dX8_init_8 : decode cX8_init 8 = .ok (.newarray .int, 2) := by decide +kernel
theorem dX8_init_10 : decode cX8_init 10 = .ok (.putfield 9, 3) := by decide +kernel
theorem dX8_init_13 : decode cX8_init 13 = .ok (.return_, 1) := by decide +kernel
theorem dX8_has_0 : decode cX8_has 0 = .ok (.iload_n 1, 1) := by decide +kernel
theorem dX8_has_1 : decode cX8_has 1 = .ok (.ifCond .lt 15, 3) := by decide +kernel
theorem dX8_has_4 : decode cX8_has 4 = .ok (.iload_n 1, 1) := by decide +kernel
theorem dX8_has_5 : decode cX8_has 5 = .ok (.aload_n 0, 1) := by decide +kernel
theorem dX8_has_6 : decode cX8_has 6 = .ok (.getfield 15, 3) := by decide +kernel
theorem dX8_has_9 : decode cX8_has 9 = .ok (.if_icmp .ge 7, 3) := by decide +kernel
theorem dX8_has_12 : decode cX8_has 12 = .ok (.iconst 1, 1) := by decide +kernel
theorem dX8_has_13 : decode cX8_has 13 = .ok (.goto 4, 3) := by decide +kernel
theorem dX8_has_16 : decode cX8_has 16 = .ok (.iconst 0, 1) := by decide +kernel
theorem dX8_has_17 : decode cX8_has 17 = .ok (.ireturn, 1) := by decide +kernel
theorem dX8_append_0 : decode cX8_append 0 = .ok (.aload_n 0, 1) := by decide +kernel
theorem dX8_append_1 : decode cX8_append 1 = .ok (.getfield 15, 3) := by decide +kernel
theorem dX8_append_4 : decode cX8_append 4 = .ok (.sipush 400, 3) := by decide +kernel
theorem dX8_append_7 : decode cX8_append 7 = .ok (.if_icmp .lt 5, 3) := by decide +kernel
theorem dX8_append_10 : decode cX8_append 10 = .ok (.iconst 0, 1) := by decide +kernel
theorem dX8_append_11 : decode cX8_append 11 = .ok (.ireturn, 1) := by decide +kernel
theorem dX8_append_12 : decode cX8_append 12 = .ok (.aload_n 0, 1) := by decide +kernel
theorem dX8_append_13 : decode cX8_append 13 = .ok (.getfield 9, 3) := by decide +kernel
theorem dX8_append_16 : decode cX8_append 16 = .ok (.aload_n 0, 1) := by decide +kernel
theorem dX8_append_17 : decode cX8_append 17 = .ok (.getfield 15, 3) := by decide +kernel
theorem dX8_append_20 : decode cX8_append 20 = .ok (.iload_n 1, 1) := by decide +kernel
theorem dX8_append_21 : decode cX8_append 21 = .ok (.iastore, 1) := by decide +kernel
theorem dX8_append_22 : decode cX8_append 22 = .ok (.aload_n 0, 1) := by decide +kernel
theorem dX8_append_23 : decode cX8_append 23 = .ok (.dup, 1) := by decide +kernel
theorem dX8_append_24 : decode cX8_append 24 = .ok (.getfield 15, 3) := by decide +kernel
theorem dX8_append_27 : decode cX8_append 27 = .ok (.iconst 1, 1) := by decide +kernel
theorem dX8_append_28 : decode cX8_append 28 = .ok (.iadd, 1) := by decide +kernel
theorem dX8_append_29 : decode cX8_append 29 = .ok (.putfield 15, 3) := by decide +kernel
theorem dX8_append_32 : decode cX8_append 32 = .ok (.iconst 1, 1) := by decide +kernel
theorem dX8_append_33 : decode cX8_append 33 = .ok (.ireturn, 1) := by decide +kernel
theorem dX8_bitAt_0 : decode cX8_bitAt 0 = .ok (.iload_n 1, 1) := by decide +kernel
theorem dX8_bitAt_1 : decode cX8_bitAt 1 = .ok (.bipush 32, 2) := by decide +kernel
theorem dX8_bitAt_3 : decode cX8_bitAt 3 = .ok (.idiv, 1) := by decide +kernel
theorem dX8_bitAt_4 : decode cX8_bitAt 4 = .ok (.istore_n 2, 1) := by decide +kernel
theorem dX8_bitAt_5 : decode cX8_bitAt 5 = .ok (.aload_n 0, 1) := by decide +kernel
theorem dX8_bitAt_6 : decode cX8_bitAt 6 = .ok (.iload_n 2, 1) := by decide +kernel
theorem dX8_bitAt_7 : decode cX8_bitAt 7 = .ok (.invokevirtual 19, 3) := by decide +kernel
theorem dX8_bitAt_10 : decode cX8_bitAt 10 = .ok (.ifCond .eq 19, 3) := by decide +kernel
theorem dX8_bitAt_13 : decode cX8_bitAt 13 = .ok (.aload_n 0, 1) := by decide +kernel
theorem dX8_bitAt_14 : decode cX8_bitAt 14 = .ok (.getfield 9, 3) := by decide +kernel
theorem dX8_bitAt_17 : decode cX8_bitAt 17 = .ok (.iload_n 2, 1) := by decide +kernel
theorem dX8_bitAt_18 : decode cX8_bitAt 18 = .ok (.iaload, 1) := by decide +kernel
theorem dX8_bitAt_19 : decode cX8_bitAt 19 = .ok (.iload_n 1, 1) := by decide +kernel
theorem dX8_bitAt_20 : decode cX8_bitAt 20 = .ok (.bipush 32, 2) := by decide +kernel
theorem dX8_bitAt_22 : decode cX8_bitAt 22 = .ok (.irem, 1) := by decide +kernel
theorem dX8_bitAt_23 : decode cX8_bitAt 23 = .ok (.iushr, 1) := by decide +kernel
theorem dX8_bitAt_24 : decode cX8_bitAt 24 = .ok (.iconst 1, 1) := by decide +kernel
theorem dX8_bitAt_25 : decode cX8_bitAt 25 = .ok (.iand, 1) := by decide +kernel
theorem dX8_bitAt_26 : decode cX8_bitAt 26 = .ok (.goto 4, 3) := by decide +kernel
theorem dX8_bitAt_29 : decode cX8_bitAt 29 = .ok (.iconst 0, 1) := by decide +kernel
theorem dX8_bitAt_30 : decode cX8_bitAt 30 = .ok (.ireturn, 1) := by decide +kernel

