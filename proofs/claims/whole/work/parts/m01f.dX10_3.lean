theorem dX10_base_33 : decode cX10_base 33 = .ok (.aload_n 0, 1) := by decide +kernel
theorem dX10_base_34 : decode cX10_base 34 = .ok (.iload_n 1, 1) := by decide +kernel
theorem dX10_base_35 : decode cX10_base 35 = .ok (.iload_n 2, 1) := by decide +kernel
theorem dX10_base_36 : decode cX10_base 36 = .ok (.iconst 3, 1) := by decide +kernel
theorem dX10_base_37 : decode cX10_base 37 = .ok (.invokevirtual 73, 3) := by decide +kernel
theorem dX10_base_40 : decode cX10_base 40 = .ok (.ireturn, 1) := by decide +kernel
theorem dX10_bits_0 : decode cX10_bits 0 = .ok (.aload_n 0, 1) := by decide +kernel
theorem dX10_bits_1 : decode cX10_bits 1 = .ok (.iload_n 1, 1) := by decide +kernel
theorem dX10_bits_2 : decode cX10_bits 2 = .ok (.iload_n 2, 1) := by decide +kernel
theorem dX10_bits_3 : decode cX10_bits 3 = .ok (.invokevirtual 225, 3) := by decide +kernel
theorem dX10_bits_6 : decode cX10_bits 6 = .ok (.ifCond .eq 28, 3) := by decide +kernel
theorem dX10_bits_9 : decode cX10_bits 9 = .ok (.iload_n 3, 1) := by decide +kernel
theorem dX10_bits_10 : decode cX10_bits 10 = .ok (.iconst 0, 1) := by decide +kernel
theorem dX10_bits_11 : decode cX10_bits 11 = .ok (.aload_n 0, 1) := by decide +kernel
theorem dX10_bits_12 : decode cX10_bits 12 = .ok (.iload_n 1, 1) := by decide +kernel
theorem dX10_bits_13 : decode cX10_bits 13 = .ok (.iload_n 2, 1) := by decide +kernel
theorem dX10_bits_14 : decode cX10_bits 14 = .ok (.invokevirtual 290, 3) := by decide +kernel
theorem dX10_bits_17 : decode cX10_bits 17 = .ok (.iconst 1, 1) := by decide +kernel
theorem dX10_bits_18 : decode cX10_bits 18 = .ok (.isub, 1) := by decide +kernel
theorem dX10_bits_19 : decode cX10_bits 19 = .ok (.invokestatic 65, 3) := by decide +kernel
theorem dX10_bits_22 : decode cX10_bits 22 = .ok (.ifCond .eq 12, 3) := by decide +kernel
theorem dX10_bits_25 : decode cX10_bits 25 = .ok (.aload_n 0, 1) := by decide +kernel
theorem dX10_bits_26 : decode cX10_bits 26 = .ok (.getfield 42, 3) := by decide +kernel
theorem dX10_bits_29 : decode cX10_bits 29 = .ok (.iload_n 3, 1) := by decide +kernel
theorem dX10_bits_30 : decode cX10_bits 30 = .ok (.iaload, 1) := by decide +kernel
theorem dX10_bits_31 : decode cX10_bits 31 = .ok (.goto 4, 3) := by decide +kernel
theorem dX10_bits_34 : decode cX10_bits 34 = .ok (.iconst 0, 1) := by decide +kernel
theorem dX10_bits_35 : decode cX10_bits 35 = .ok (.ireturn, 1) := by decide +kernel
theorem dX10_value_0 : decode cX10_value 0 = .ok (.aload_n 0, 1) := by decide +kernel
theorem dX10_value_1 : decode cX10_value 1 = .ok (.iload_n 1, 1) := by decide +kernel
theorem dX10_value_2 : decode cX10_value 2 = .ok (.iload_n 2, 1) := by decide +kernel
theorem dX10_value_3 : decode cX10_value 3 = .ok (.invokevirtual 203, 3) := by decide +kernel
theorem dX10_value_6 : decode cX10_value 6 = .ok (.ifCond .ne 7, 3) := by decide +kernel
theorem dX10_value_9 : decode cX10_value 9 = .ok (.ldc2_w 361, 3) := by decide +kernel
theorem dX10_value_12 : decode cX10_value 12 = .ok (.lreturn, 1) := by decide +kernel
theorem dX10_value_13 : decode cX10_value 13 = .ok (.aload_n 0, 1) := by decide +kernel
theorem dX10_value_14 : decode cX10_value 14 = .ok (.iload_n 1, 1) := by decide +kernel
theorem dX10_value_15 : decode cX10_value 15 = .ok (.iload_n 2, 1) := by decide +kernel
theorem dX10_value_16 : decode cX10_value 16 = .ok (.invokevirtual 97, 3) := by decide +kernel
theorem dX10_value_19 : decode cX10_value 19 = .ok (.ifCond .eq 9, 3) := by decide +kernel
theorem dX10_value_22 : decode cX10_value 22 = .ok (.ldc2_w 363, 3) := by decide +kernel
theorem dX10_value_25 : decode cX10_value 25 = .ok (.goto 10, 3) := by decide +kernel
theorem dX10_value_28 : decode cX10_value 28 = .ok (.aload_n 0, 1) := by decide +kernel
theorem dX10_value_29 : decode cX10_value 29 = .ok (.iload_n 1, 1) := by decide +kernel
theorem dX10_value_30 : decode cX10_value 30 = .ok (.iload_n 2, 1) := by decide +kernel
theorem dX10_value_31 : decode cX10_value 31 = .ok (.invokevirtual 101, 3) := by decide +kernel
theorem dX10_value_34 : decode cX10_value 34 = .ok (.i2l, 1) := by decide +kernel
theorem dX10_value_35 : decode cX10_value 35 = .ok (.lreturn, 1) := by decide +kernel
theorem dX10_blockOf_0 : decode cX10_blockOf 0 = .ok (.aload_n 0, 1) := by decide +kernel
theorem dX10_blockOf_1 : decode cX10_blockOf 1 = .ok (.iload_n 1, 1) := by decide +kernel
theorem dX10_blockOf_2 : decode cX10_blockOf 2 = .ok (.iload_n 2, 1) := by decide +kernel
theorem dX10_blockOf_3 : decode cX10_blockOf 3 = .ok (.invokevirtual 203, 3) := by decide +kernel
theorem dX10_blockOf_6 : decode cX10_blockOf 6 = .ok (.ifCond .eq 12, 3) := by decide +kernel
theorem dX10_blockOf_9 : decode cX10_blockOf 9 = .ok (.aload_n 0, 1) := by decide +kernel
theorem dX10_blockOf_10 : decode cX10_blockOf 10 = .ok (.iload_n 1, 1) := by decide +kernel
theorem dX10_blockOf_11 : decode cX10_blockOf 11 = .ok (.iload_n 2, 1) := by decide +kernel
theorem dX10_blockOf_12 : decode cX10_blockOf 12 = .ok (.invokevirtual 206, 3) := by decide +kernel
theorem dX10_blockOf_15 : decode cX10_blockOf 15 = .ok (.goto 4, 3) := by decide +kernel
theorem dX10_blockOf_18 : decode cX10_blockOf 18 = .ok (.iconst (-1), 1) := by decide +kernel
theorem dX10_blockOf_19 : decode cX10_blockOf 19 = .ok (.ireturn, 1) := by decide +kernel
theorem dX10_read_0 : decode cX10_read 0 = .ok (.aload_n 0, 1) := by decide +kernel
theorem dX10_read_1 : decode cX10_read 1 = .ok (.iload_n 1, 1) := by decide +kernel
theorem dX10_read_2 : decode cX10_read 2 = .ok (.iload_n 2, 1) := by decide +kernel
theorem dX10_read_3 : decode cX10_read 3 = .ok (.invokevirtual 203, 3) := by decide +kernel
theorem dX10_read_6 : decode cX10_read 6 = .ok (.ifCond .ne 5, 3) := by decide +kernel
theorem dX10_read_9 : decode cX10_read 9 = .ok (.iconst (-1), 1) := by decide +kernel
theorem dX10_read_10 : decode cX10_read 10 = .ok (.ireturn, 1) := by decide +kernel
theorem dX10_read_11 : decode cX10_read 11 = .ok (.aload_n 0, 1) := by decide +kernel
theorem dX10_read_12 : decode cX10_read 12 = .ok (.iload_n 1, 1) := by decide +kernel
theorem dX10_read_13 : decode cX10_read 13 = .ok (.iload_n 2, 1) := by decide +kernel
theorem dX10_read_14 : decode cX10_read 14 = .ok (.invokevirtual 97, 3) := by decide +kernel
theorem dX10_read_17 : decode cX10_read 17 = .ok (.ifCond .eq 5, 3) := by decide +kernel
theorem dX10_read_20 : decode cX10_read 20 = .ok (.iconst 0, 1) := by decide +kernel
theorem dX10_read_21 : decode cX10_read 21 = .ok (.ireturn, 1) := by decide +kernel
theorem dX10_read_22 : decode cX10_read 22 = .ok (.aload_n 0, 1) := by decide +kernel
theorem dX10_read_23 : decode cX10_read 23 = .ok (.iload_n 1, 1) := by decide +kernel
theorem dX10_read_24 : decode cX10_read 24 = .ok (.iload_n 2, 1) := by decide +kernel
theorem dX10_read_25 : decode cX10_read 25 = .ok (.invokevirtual 206, 3) := by decide +kernel
theorem dX10_read_28 : decode cX10_read 28 = .ok (.istore_n 3, 1) := by decide +kernel
theorem dX10_read_29 : decode cX10_read 29 = .ok (.aload_n 0, 1) := by decide +kernel
theorem dX10_read_30 : decode cX10_read 30 = .ok (.iload_n 1, 1) := by decide +kernel
theorem dX10_read_31 : decode cX10_read 31 = .ok (.iload_n 3, 1) := by decide +kernel
theorem dX10_read_32 : decode cX10_read 32 = .ok (.iconst 1, 1) := by decide +kernel
theorem dX10_read_33 : decode cX10_read 33 = .ok (.invokevirtual 73, 3) := by decide +kernel
theorem dX10_read_36 : decode cX10_read 36 = .ok (.ifCond .ne 5, 3) := by decide +kernel
theorem dX10_read_39 : decode cX10_read 39 = .ok (.iconst 1, 1) := by decide +kernel
theorem dX10_read_40 : decode cX10_read 40 = .ok (.ireturn, 1) := by decide +kernel
theorem dX10_read_41 : decode cX10_read 41 = .ok (.iconst 0, 1) := by decide +kernel
theorem dX10_read_42 : decode cX10_read 42 = .ok (.istore 4, 2) := by decide +kernel
theorem dX10_read_44 : decode cX10_read 44 = .ok (.aload_n 0, 1) := by decide +kernel
theorem dX10_read_45 : decode cX10_read 45 = .ok (.iload_n 1, 1) := by decide +kernel
theorem dX10_read_46 : decode cX10_read 46 = .ok (.iload_n 3, 1) := by decide +kernel
theorem dX10_read_47 : decode cX10_read 47 = .ok (.invokevirtual 80, 3) := by decide +kernel
theorem dX10_read_50 : decode cX10_read 50 = .ok (.istore 5, 2) := by decide +kernel
theorem dX10_read_52 : decode cX10_read 52 = .ok (.iload 5, 2) := by decide +kernel
theorem dX10_read_54 : decode cX10_read 54 = .ok (.iload_n 2, 1) := by decide +kernel
theorem dX10_read_55 : decode cX10_read 55 = .ok (.if_icmp .ge 29, 3) := by decide +kernel
theorem dX10_read_58 : decode cX10_read 58 = .ok (.iload 4, 2) := by decide +kernel
theorem dX10_read_60 : decode cX10_read 60 = .ok (.aload_n 0, 1) := by decide +kernel
theorem dX10_read_61 : decode cX10_read 61 = .ok (.iload_n 1, 1) := by decide +kernel
theorem dX10_read_62 : decode cX10_read 62 = .ok (.iload 5, 2) := by decide +kernel
theorem dX10_read_64 : decode cX10_read 64 = .ok (.invokevirtual 97, 3) := by decide +kernel
theorem dX10_read_67 : decode cX10_read 67 = .ok (.ifCond .eq 7, 3) := by decide +kernel
theorem dX10_read_70 : decode cX10_read 70 = .ok (.iconst 0, 1) := by decide +kernel
theorem dX10_read_71 : decode cX10_read 71 = .ok (.goto 4, 3) := by decide +kernel
theorem dX10_read_74 : decode cX10_read 74 = .ok (.iconst 1, 1) := by decide +kernel
theorem dX10_read_75 : decode cX10_read 75 = .ok (.iadd, 1) := by decide +kernel
theorem dX10_read_76 : decode cX10_read 76 = .ok (.istore 4, 2) := by decide +kernel
theorem dX10_read_78 : decode cX10_read 78 = .ok (.iinc 5 1, 3) := by decide +kernel
theorem dX10_read_81 : decode cX10_read 81 = .ok (.goto (-29), 3) := by decide +kernel
theorem dX10_read_84 : decode cX10_read 84 = .ok (.iload 4, 2) := by decide +kernel
theorem dX10_read_86 : decode cX10_read 86 = .ok (.ireturn, 1) := by decide +kernel
theorem dX10_part_0 : decode cX10_part 0 = .ok (.aload_n 0, 1) := by decide +kernel
theorem dX10_part_1 : decode cX10_part 1 = .ok (.iload_n 1, 1) := by decide +kernel
theorem dX10_part_2 : decode cX10_part 2 = .ok (.iload_n 2, 1) := by decide +kernel
theorem dX10_part_3 : decode cX10_part 3 = .ok (.invokevirtual 225, 3) := by decide +kernel
theorem dX10_part_6 : decode cX10_part 6 = .ok (.ifCond .ne 7, 3) := by decide +kernel
theorem dX10_part_9 : decode cX10_part 9 = .ok (.ldc2_w 365, 3) := by decide +kernel
theorem dX10_part_12 : decode cX10_part 12 = .ok (.lreturn, 1) := by decide +kernel
theorem dX10_part_13 : decode cX10_part 13 = .ok (.aload_n 0, 1) := by decide +kernel
theorem dX10_part_14 : decode cX10_part 14 = .ok (.iload_n 1, 1) := by decide +kernel
theorem dX10_part_15 : decode cX10_part 15 = .ok (.iload_n 2, 1) := by decide +kernel
theorem dX10_part_16 : decode cX10_part 16 = .ok (.invokevirtual 174, 3) := by decide +kernel
theorem dX10_part_19 : decode cX10_part 19 = .ok (.iload_n 3, 1) := by decide +kernel
theorem dX10_part_20 : decode cX10_part 20 = .ok (.iconst 0, 1) := by decide +kernel
theorem dX10_part_21 : decode cX10_part 21 = .ok (.aload_n 0, 1) := by decide +kernel
theorem dX10_part_22 : decode cX10_part 22 = .ok (.getfield 112, 3) := by decide +kernel
theorem dX10_part_25 : decode cX10_part 25 = .ok (.iconst 1, 1) := by decide +kernel
theorem dX10_part_26 : decode cX10_part 26 = .ok (.isub, 1) := by decide +kernel
theorem dX10_part_27 : decode cX10_part 27 = .ok (.invokestatic 65, 3) := by decide +kernel
theorem dX10_part_30 : decode cX10_part 30 = .ok (.ifCond .eq 12, 3) := by decide +kernel
theorem dX10_part_33 : decode cX10_part 33 = .ok (.aload_n 0, 1) := by decide +kernel
theorem dX10_part_34 : decode cX10_part 34 = .ok (.getfield 19, 3) := by decide +kernel
theorem dX10_part_37 : decode cX10_part 37 = .ok (.iload_n 3, 1) := by decide +kernel
theorem dX10_part_38 : decode cX10_part 38 = .ok (.laload, 1) := by decide +kernel
theorem dX10_part_39 : decode cX10_part 39 = .ok (.goto 6, 3) := by decide +kernel
theorem dX10_part_42 : decode cX10_part 42 = .ok (.ldc2_w 365, 3) := by decide +kernel
theorem dX10_part_45 : decode cX10_part 45 = .ok (.lreturn, 1) := by decide +kernel
theorem dX10_pending_0 : decode cX10_pending 0 = .ok (.iload_n 1, 1) := by decide +kernel
theorem dX10_pending_1 : decode cX10_pending 1 = .ok (.iconst 0, 1) := by decide +kernel
theorem dX10_pending_2 : decode cX10_pending 2 = .ok (.aload_n 0, 1) := by decide +kernel
theorem dX10_pending_3 : decode cX10_pending 3 = .ok (.getfield 7, 3) := by decide +kernel
theorem dX10_pending_6 : decode cX10_pending 6 = .ok (.iconst 3, 1) := by decide +kernel
theorem dX10_pending_7 : decode cX10_pending 7 = .ok (.iaload, 1) := by decide +kernel
theorem dX10_pending_8 : decode cX10_pending 8 = .ok (.iconst 1, 1) := by decide +kernel
theorem dX10_pending_9 : decode cX10_pending 9 = .ok (.isub, 1) := by decide +kernel
theorem dX10_pending_10 : decode cX10_pending 10 = .ok (.invokestatic 65, 3) := by decide +kernel
theorem dX10_pending_13 : decode cX10_pending 13 = .ok (.ifCond .ne 7, 3) := by decide +kernel
theorem dX10_pending_16 : decode cX10_pending 16 = .ok (.ldc2_w 361, 3) := by decide +kernel
theorem dX10_pending_19 : decode cX10_pending 19 = .ok (.lreturn, 1) := by decide +kernel
theorem dX10_pending_20 : decode cX10_pending 20 = .ok (.aload_n 0, 1) := by decide +kernel
theorem dX10_pending_21 : decode cX10_pending 21 = .ok (.getfield 7, 3) := by decide +kernel
theorem dX10_pending_24 : decode cX10_pending 24 = .ok (.bipush 20, 2) := by decide +kernel
theorem dX10_pending_26 : decode cX10_pending 26 = .ok (.iload_n 1, 1) := by decide +kernel
theorem dX10_pending_27 : decode cX10_pending 27 = .ok (.iadd, 1) := by decide +kernel
theorem dX10_pending_28 : decode cX10_pending 28 = .ok (.iaload, 1) := by decide +kernel
theorem dX10_pending_29 : decode cX10_pending 29 = .ok (.iconst 1, 1) := by decide +kernel
theorem dX10_pending_30 : decode cX10_pending 30 = .ok (.if_icmp .ne 9, 3) := by decide +kernel
theorem dX10_pending_33 : decode cX10_pending 33 = .ok (.ldc2_w 363, 3) := by decide +kernel
theorem dX10_pending_36 : decode cX10_pending 36 = .ok (.goto 12, 3) := by decide +kernel
theorem dX10_pending_39 : decode cX10_pending 39 = .ok (.aload_n 0, 1) := by decide +kernel
theorem dX10_pending_40 : decode cX10_pending 40 = .ok (.getfield 7, 3) := by decide +kernel
theorem dX10_pending_43 : decode cX10_pending 43 = .ok (.iconst 4, 1) := by decide +kernel
theorem dX10_pending_44 : decode cX10_pending 44 = .ok (.iload_n 1, 1) := by decide +kernel
theorem dX10_pending_45 : decode cX10_pending 45 = .ok (.iadd, 1) := by decide +kernel
theorem dX10_pending_46 : decode cX10_pending 46 = .ok (.iaload, 1) := by decide +kernel
theorem dX10_pending_47 : decode cX10_pending 47 = .ok (.i2l, 1) := by decide +kernel
theorem dX10_pending_48 : decode cX10_pending 48 = .ok (.lreturn, 1) := by decide +kernel
theorem dX10_areLaid_0 : decode cX10_areLaid 0 = .ok (.aload_n 0, 1) := by decide +kernel
theorem dX10_areLaid_1 : decode cX10_areLaid 1 = .ok (.invokevirtual 367, 3) := by decide +kernel
theorem dX10_areLaid_4 : decode cX10_areLaid 4 = .ok (.aload_n 0, 1) := by decide +kernel
theorem dX10_areLaid_5 : decode cX10_areLaid 5 = .ok (.getfield 91, 3) := by decide +kernel
theorem dX10_areLaid_8 : decode cX10_areLaid 8 = .ok (.ifCond .eq 11, 3) := by decide +kernel
theorem dX10_areLaid_11 : decode cX10_areLaid 11 = .ok (.aload_n 0, 1) := by decide +kernel
theorem dX10_areLaid_12 : decode cX10_areLaid 12 = .ok (.iload_n 1, 1) := by decide +kernel
theorem dX10_areLaid_13 : decode cX10_areLaid 13 = .ok (.invokevirtual 144, 3) := by decide +kernel
theorem dX10_areLaid_16 : decode cX10_areLaid 16 = .ok (.ifCond .ne 5, 3) := by decide +kernel
theorem dX10_areLaid_19 : decode cX10_areLaid 19 = .ok (.iconst 0, 1) := by decide +kernel
theorem dX10_areLaid_20 : decode cX10_areLaid 20 = .ok (.ireturn, 1) := by decide +kernel
theorem dX10_areLaid_21 : decode cX10_areLaid 21 = .ok (.aload_n 0, 1) := by decide +kernel
theorem dX10_areLaid_22 : decode cX10_areLaid 22 = .ok (.aload_n 0, 1) := by decide +kernel
theorem dX10_areLaid_23 : decode cX10_areLaid 23 = .ok (.getfield 94, 3) := by decide +kernel
theorem dX10_areLaid_26 : decode cX10_areLaid 26 = .ok (.iconst 1, 1) := by decide +kernel
theorem dX10_areLaid_27 : decode cX10_areLaid 27 = .ok (.if_icmp .le 10, 3) := by decide +kernel
theorem dX10_areLaid_30 : decode cX10_areLaid 30 = .ok (.aload_n 0, 1) := by decide +kernel
theorem dX10_areLaid_31 : decode cX10_areLaid 31 = .ok (.invokevirtual 138, 3) := by decide +kernel
theorem dX10_areLaid_34 : decode cX10_areLaid 34 = .ok (.goto 4, 3) := by decide +kernel
theorem dX10_areLaid_37 : decode cX10_areLaid 37 = .ok (.iconst 0, 1) := by decide +kernel
theorem dX10_areLaid_38 : decode cX10_areLaid 38 = .ok (.putfield 123, 3) := by decide +kernel
theorem dX10_areLaid_41 : decode cX10_areLaid 41 = .ok (.aload_n 0, 1) := by decide +kernel
theorem dX10_areLaid_42 : decode cX10_areLaid 42 = .ok (.iload_n 1, 1) := by decide +kernel
theorem dX10_areLaid_43 : decode cX10_areLaid 43 = .ok (.invokevirtual 147, 3) := by decide +kernel
theorem dX10_areLaid_46 : decode cX10_areLaid 46 = .ok (.iconst 1, 1) := by decide +kernel
theorem dX10_areLaid_47 : decode cX10_areLaid 47 = .ok (.ireturn, 1) := by decide +kernel
theorem dX10_total_0 : decode cX10_total 0 = .ok (.iload_n 2, 1) := by decide +kernel
theorem dX10_total_1 : decode cX10_total 1 = .ok (.iconst 0, 1) := by decide +kernel
theorem dX10_total_2 : decode cX10_total 2 = .ok (.bipush 32, 2) := by decide +kernel
theorem dX10_total_4 : decode cX10_total 4 = .ok (.invokestatic 65, 3) := by decide +kernel
theorem dX10_total_7 : decode cX10_total 7 = .ok (.ifCond .eq 20, 3) := by decide +kernel
theorem dX10_total_10 : decode cX10_total 10 = .ok (.aload_n 0, 1) := by decide +kernel
theorem dX10_total_11 : decode cX10_total 11 = .ok (.iload_n 1, 1) := by decide +kernel
theorem dX10_total_12 : decode cX10_total 12 = .ok (.invokevirtual 370, 3) := by decide +kernel
theorem dX10_total_15 : decode cX10_total 15 = .ok (.ifCond .eq 12, 3) := by decide +kernel
theorem dX10_total_18 : decode cX10_total 18 = .ok (.aload_n 0, 1) := by decide +kernel
theorem dX10_total_19 : decode cX10_total 19 = .ok (.iload_n 1, 1) := by decide +kernel
theorem dX10_total_20 : decode cX10_total 20 = .ok (.iload_n 2, 1) := by decide +kernel
theorem dX10_total_21 : decode cX10_total 21 = .ok (.invokevirtual 151, 3) := by decide +kernel
theorem dX10_total_24 : decode cX10_total 24 = .ok (.goto 4, 3) := by decide +kernel
theorem dX10_total_27 : decode cX10_total 27 = .ok (.iconst (-1), 1) := by decide +kernel
theorem dX10_total_28 : decode cX10_total 28 = .ok (.ireturn, 1) := by decide +kernel
theorem dX10_best_0 : decode cX10_best 0 = .ok (.aload_n 0, 1) := by decide +kernel
theorem dX10_best_1 : decode cX10_best 1 = .ok (.invokevirtual 367, 3) := by decide +kernel
theorem dX10_best_4 : decode cX10_best 4 = .ok (.aload_n 0, 1) := by decide +kernel
theorem dX10_best_5 : decode cX10_best 5 = .ok (.getfield 91, 3) := by decide +kernel
theorem dX10_best_8 : decode cX10_best 8 = .ok (.ifCond .ne 5, 3) := by decide +kernel
theorem dX10_best_11 : decode cX10_best 11 = .ok (.iconst (-1), 1) := by decide +kernel
theorem dX10_best_12 : decode cX10_best 12 = .ok (.ireturn, 1) := by decide +kernel
theorem dX10_best_13 : decode cX10_best 13 = .ok (.aload_n 0, 1) := by decide +kernel
theorem dX10_best_14 : decode cX10_best 14 = .ok (.invokevirtual 164, 3) := by decide +kernel
theorem dX10_best_17 : decode cX10_best 17 = .ok (.iload_n 1, 1) := by decide +kernel
theorem dX10_best_18 : decode cX10_best 18 = .ok (.ifCond .ne 8, 3) := by decide +kernel
theorem dX10_best_21 : decode cX10_best 21 = .ok (.aload_n 0, 1) := by decide +kernel
theorem dX10_best_22 : decode cX10_best 22 = .ok (.getfield 154, 3) := by decide +kernel
theorem dX10_best_25 : decode cX10_best 25 = .ok (.ireturn, 1) := by decide +kernel
theorem dX10_best_26 : decode cX10_best 26 = .ok (.iload_n 1, 1) := by decide +kernel
theorem dX10_best_27 : decode cX10_best 27 = .ok (.iconst 1, 1) := by decide +kernel
theorem dX10_best_28 : decode cX10_best 28 = .ok (.if_icmp .ne 8, 3) := by decide +kernel
theorem dX10_best_31 : decode cX10_best 31 = .ok (.aload_n 0, 1) := by decide +kernel
theorem dX10_best_32 : decode cX10_best 32 = .ok (.getfield 157, 3) := by decide +kernel
theorem dX10_best_35 : decode cX10_best 35 = .ok (.ireturn, 1) := by decide +kernel
theorem dX10_best_36 : decode cX10_best 36 = .ok (.iload_n 1, 1) := by decide +kernel
theorem dX10_best_37 : decode cX10_best 37 = .ok (.iconst 2, 1) := by decide +kernel
theorem dX10_best_38 : decode cX10_best 38 = .ok (.if_icmp .ne 8, 3) := by decide +kernel
theorem dX10_best_41 : decode cX10_best 41 = .ok (.aload_n 0, 1) := by decide +kernel
theorem dX10_best_42 : decode cX10_best 42 = .ok (.getfield 135, 3) := by decide +kernel
theorem dX10_best_45 : decode cX10_best 45 = .ok (.ireturn, 1) := by decide +kernel
theorem dX10_best_46 : decode cX10_best 46 = .ok (.iload_n 1, 1) := by decide +kernel
theorem dX10_best_47 : decode cX10_best 47 = .ok (.iconst 3, 1) := by decide +kernel
theorem dX10_best_48 : decode cX10_best 48 = .ok (.if_icmp .ne 25, 3) := by decide +kernel
theorem dX10_best_51 : decode cX10_best 51 = .ok (.aload_n 0, 1) := by decide +kernel
theorem dX10_best_52 : decode cX10_best 52 = .ok (.aload_n 0, 1) := by decide +kernel
theorem dX10_best_53 : decode cX10_best 53 = .ok (.getfield 154, 3) := by decide +kernel
theorem dX10_best_56 : decode cX10_best 56 = .ok (.invokevirtual 370, 3) := by decide +kernel
theorem dX10_best_59 : decode cX10_best 59 = .ok (.ifCond .eq 14, 3) := by decide +kernel
theorem dX10_best_62 : decode cX10_best 62 = .ok (.aload_n 0, 1) := by decide +kernel
theorem dX10_best_63 : decode cX10_best 63 = .ok (.aload_n 0, 1) := by decide +kernel
theorem dX10_best_64 : decode cX10_best 64 = .ok (.getfield 157, 3) := by decide +kernel
theorem dX10_best_67 : decode cX10_best 67 = .ok (.invokevirtual 132, 3) := by decide +kernel
theorem dX10_best_70 : decode cX10_best 70 = .ok (.goto 4, 3) := by decide +kernel
theorem dX10_best_73 : decode cX10_best 73 = .ok (.iconst (-1), 1) := by decide +kernel
theorem dX10_best_74 : decode cX10_best 74 = .ok (.ireturn, 1) := by decide +kernel
theorem dX10_narrow_0 : decode cX10_narrow 0 = .ok (.iload_n 2, 1) := by decide +kernel
theorem dX10_narrow_1 : decode cX10_narrow 1 = .ok (.iconst 0, 1) := by decide +kernel
theorem dX10_narrow_2 : decode cX10_narrow 2 = .ok (.bipush 32, 2) := by decide +kernel
theorem dX10_narrow_4 : decode cX10_narrow 4 = .ok (.invokestatic 65, 3) := by decide +kernel
theorem dX10_narrow_7 : decode cX10_narrow 7 = .ok (.ifCond .eq 11, 3) := by decide +kernel
theorem dX10_narrow_10 : decode cX10_narrow 10 = .ok (.aload_n 0, 1) := by decide +kernel
theorem dX10_narrow_11 : decode cX10_narrow 11 = .ok (.iload_n 1, 1) := by decide +kernel
theorem dX10_narrow_12 : decode cX10_narrow 12 = .ok (.invokevirtual 370, 3) := by decide +kernel
theorem dX10_narrow_15 : decode cX10_narrow 15 = .ok (.ifCond .ne 5, 3) := by decide +kernel
theorem dX10_narrow_18 : decode cX10_narrow 18 = .ok (.iconst (-1), 1) := by decide +kernel
theorem dX10_narrow_19 : decode cX10_narrow 19 = .ok (.ireturn, 1) := by decide +kernel
theorem dX10_narrow_20 : decode cX10_narrow 20 = .ok (.iconst 0, 1) := by decide +kernel
theorem dX10_narrow_21 : decode cX10_narrow 21 = .ok (.istore_n 3, 1) := by decide +kernel
theorem dX10_narrow_22 : decode cX10_narrow 22 = .ok (.iconst 0, 1) := by decide +kernel
theorem dX10_narrow_23 : decode cX10_narrow 23 = .ok (.istore 4, 2) := by decide +kernel
theorem dX10_narrow_25 : decode cX10_narrow 25 = .ok (.iload 4, 2) := by decide +kernel
theorem dX10_narrow_27 : decode cX10_narrow 27 = .ok (.aload_n 0, 1) := by decide +kernel
theorem dX10_narrow_28 : decode cX10_narrow 28 = .ok (.getfield 112, 3) := by decide +kernel
theorem dX10_narrow_31 : decode cX10_narrow 31 = .ok (.if_icmp .ge 31, 3) := by decide +kernel
theorem dX10_narrow_34 : decode cX10_narrow 34 = .ok (.iload_n 3, 1) := by decide +kernel
theorem dX10_narrow_35 : decode cX10_narrow 35 = .ok (.aload_n 0, 1) := by decide +kernel
theorem dX10_narrow_36 : decode cX10_narrow 36 = .ok (.getfield 19, 3) := by decide +kernel
theorem dX10_narrow_39 : decode cX10_narrow 39 = .ok (.iload 4, 2) := by decide +kernel
theorem dX10_narrow_41 : decode cX10_narrow 41 = .ok (.laload, 1) := by decide +kernel
theorem dX10_narrow_42 : decode cX10_narrow 42 = .ok (.invokestatic 128, 3) := by decide +kernel
theorem dX10_narrow_45 : decode cX10_narrow 45 = .ok (.iload_n 2, 1) := by decide +kernel
theorem dX10_narrow_46 : decode cX10_narrow 46 = .ok (.if_icmp .ne 7, 3) := by decide +kernel
theorem dX10_narrow_49 : decode cX10_narrow 49 = .ok (.iconst 1, 1) := by decide +kernel
theorem dX10_narrow_50 : decode cX10_narrow 50 = .ok (.goto 4, 3) := by decide +kernel
theorem dX10_narrow_53 : decode cX10_narrow 53 = .ok (.iconst 0, 1) := by decide +kernel
theorem dX10_narrow_54 : decode cX10_narrow 54 = .ok (.iadd, 1) := by decide +kernel
theorem dX10_narrow_55 : decode cX10_narrow 55 = .ok (.istore_n 3, 1) := by decide +kernel
theorem dX10_narrow_56 : decode cX10_narrow 56 = .ok (.iinc 4 1, 3) := by decide +kernel
theorem dX10_narrow_59 : decode cX10_narrow 59 = .ok (.goto (-34), 3) := by decide +kernel
theorem dX10_narrow_62 : decode cX10_narrow 62 = .ok (.iload_n 3, 1) := by decide +kernel
theorem dX10_narrow_63 : decode cX10_narrow 63 = .ok (.ireturn, 1) := by decide +kernel
theorem dX10_least_0 : decode cX10_least 0 = .ok (.iload_n 1, 1) := by decide +kernel
theorem dX10_least_1 : decode cX10_least 1 = .ok (.invokestatic 84, 3) := by decide +kernel
theorem dX10_least_4 : decode cX10_least 4 = .ok (.ifCond .eq 11, 3) := by decide +kernel
theorem dX10_least_7 : decode cX10_least 7 = .ok (.aload_n 0, 1) := by decide +kernel
theorem dX10_least_8 : decode cX10_least 8 = .ok (.iload_n 1, 1) := by decide +kernel
theorem dX10_least_9 : decode cX10_least 9 = .ok (.invokevirtual 77, 3) := by decide +kernel
theorem dX10_least_12 : decode cX10_least 12 = .ok (.ifCond .ne 5, 3) := by decide +kernel
theorem dX10_least_15 : decode cX10_least 15 = .ok (.iconst (-1), 1) := by decide +kernel
theorem dX10_least_16 : decode cX10_least 16 = .ok (.ireturn, 1) := by decide +kernel
theorem dX10_least_17 : decode cX10_least 17 = .ok (.aload_n 0, 1) := by decide +kernel
theorem dX10_least_18 : decode cX10_least 18 = .ok (.iload_n 1, 1) := by decide +kernel
theorem dX10_least_19 : decode cX10_least 19 = .ok (.invokevirtual 267, 3) := by decide +kernel
theorem dX10_least_22 : decode cX10_least 22 = .ok (.aload_n 0, 1) := by decide +kernel
theorem dX10_least_23 : decode cX10_least 23 = .ok (.getfield 261, 3) := by decide +kernel
theorem dX10_least_26 : decode cX10_least 26 = .ok (.ireturn, 1) := by decide +kernel
theorem dX10_cuts_0 : decode cX10_cuts 0 = .ok (.iload_n 1, 1) := by decide +kernel
theorem dX10_cuts_1 : decode cX10_cuts 1 = .ok (.invokestatic 84, 3) := by decide +kernel
theorem dX10_cuts_4 : decode cX10_cuts 4 = .ok (.ifCond .eq 11, 3) := by decide +kernel
theorem dX10_cuts_7 : decode cX10_cuts 7 = .ok (.aload_n 0, 1) := by decide +kernel
theorem dX10_cuts_8 : decode cX10_cuts 8 = .ok (.iload_n 1, 1) := by decide +kernel
theorem dX10_cuts_9 : decode cX10_cuts 9 = .ok (.invokevirtual 77, 3) := by decide +kernel
theorem dX10_cuts_12 : decode cX10_cuts 12 = .ok (.ifCond .ne 5, 3) := by decide +kernel
theorem dX10_cuts_15 : decode cX10_cuts 15 = .ok (.iconst (-1), 1) := by decide +kernel
theorem dX10_cuts_16 : decode cX10_cuts 16 = .ok (.ireturn, 1) := by decide +kernel
theorem dX10_cuts_17 : decode cX10_cuts 17 = .ok (.aload_n 0, 1) := by decide +kernel
theorem dX10_cuts_18 : decode cX10_cuts 18 = .ok (.iload_n 1, 1) := by decide +kernel
theorem dX10_cuts_19 : decode cX10_cuts 19 = .ok (.invokevirtual 267, 3) := by decide +kernel
theorem dX10_cuts_22 : decode cX10_cuts 22 = .ok (.iload_n 2, 1) := by decide +kernel
theorem dX10_cuts_23 : decode cX10_cuts 23 = .ok (.iconst (-1), 1) := by decide +kernel
theorem dX10_cuts_24 : decode cX10_cuts 24 = .ok (.if_icmp .ne 8, 3) := by decide +kernel
theorem dX10_cuts_27 : decode cX10_cuts 27 = .ok (.aload_n 0, 1) := by decide +kernel
theorem dX10_cuts_28 : decode cX10_cuts 28 = .ok (.getfield 264, 3) := by decide +kernel
theorem dX10_cuts_31 : decode cX10_cuts 31 = .ok (.ireturn, 1) := by decide +kernel
theorem dX10_cuts_32 : decode cX10_cuts 32 = .ok (.iload_n 2, 1) := by decide +kernel
theorem dX10_cuts_33 : decode cX10_cuts 33 = .ok (.iconst 0, 1) := by decide +kernel
theorem dX10_cuts_34 : decode cX10_cuts 34 = .ok (.aload_n 0, 1) := by decide +kernel
theorem dX10_cuts_35 : decode cX10_cuts 35 = .ok (.getfield 264, 3) := by decide +kernel
theorem dX10_cuts_38 : decode cX10_cuts 38 = .ok (.iconst 1, 1) := by decide +kernel
theorem dX10_cuts_39 : decode cX10_cuts 39 = .ok (.isub, 1) := by decide +kernel
theorem dX10_cuts_40 : decode cX10_cuts 40 = .ok (.invokestatic 65, 3) := by decide +kernel
theorem dX10_cuts_43 : decode cX10_cuts 43 = .ok (.ifCond .eq 12, 3) := by decide +kernel
theorem dX10_cuts_46 : decode cX10_cuts 46 = .ok (.aload_n 0, 1) := by decide +kernel
theorem dX10_cuts_47 : decode cX10_cuts 47 = .ok (.getfield 39, 3) := by decide +kernel
theorem dX10_cuts_50 : decode cX10_cuts 50 = .ok (.iload_n 2, 1) := by decide +kernel
theorem dX10_cuts_51 : decode cX10_cuts 51 = .ok (.iaload, 1) := by decide +kernel
theorem dX10_cuts_52 : decode cX10_cuts 52 = .ok (.goto 4, 3) := by decide +kernel
theorem dX10_cuts_55 : decode cX10_cuts 55 = .ok (.iconst (-1), 1) := by decide +kernel
theorem dX10_cuts_56 : decode cX10_cuts 56 = .ok (.ireturn, 1) := by decide +kernel
theorem dX10_evenBits_0 : decode cX10_evenBits 0 = .ok (.iconst 0, 1) := by decide +kernel
theorem dX10_evenBits_1 : decode cX10_evenBits 1 = .ok (.istore_n 3, 1) := by decide +kernel
theorem dX10_evenBits_2 : decode cX10_evenBits 2 = .ok (.aload_n 0, 1) := by decide +kernel
theorem dX10_evenBits_3 : decode cX10_evenBits 3 = .ok (.iload_n 1, 1) := by decide +kernel
theorem dX10_evenBits_4 : decode cX10_evenBits 4 = .ok (.invokevirtual 88, 3) := by decide +kernel
theorem dX10_evenBits_7 : decode cX10_evenBits 7 = .ok (.istore 4, 2) := by decide +kernel
theorem dX10_evenBits_9 : decode cX10_evenBits 9 = .ok (.iconst 0, 1) := by decide +kernel
theorem dX10_evenBits_10 : decode cX10_evenBits 10 = .ok (.istore 5, 2) := by decide +kernel
theorem dX10_evenBits_12 : decode cX10_evenBits 12 = .ok (.iload 5, 2) := by decide +kernel
theorem dX10_evenBits_14 : decode cX10_evenBits 14 = .ok (.iload 4, 2) := by decide +kernel
theorem dX10_evenBits_16 : decode cX10_evenBits 16 = .ok (.if_icmp .ge 40, 3) := by decide +kernel
theorem dX10_evenBits_19 : decode cX10_evenBits 19 = .ok (.iload_n 3, 1) := by decide +kernel
theorem dX10_evenBits_20 : decode cX10_evenBits 20 = .ok (.aload_n 0, 1) := by decide +kernel
theorem dX10_evenBits_21 : decode cX10_evenBits 21 = .ok (.iload_n 1, 1) := by decide +kernel
theorem dX10_evenBits_22 : decode cX10_evenBits 22 = .ok (.iload 5, 2) := by decide +kernel
theorem dX10_evenBits_24 : decode cX10_evenBits 24 = .ok (.iload 4, 2) := by decide +kernel
theorem dX10_evenBits_26 : decode cX10_evenBits 26 = .ok (.iload 5, 2) := by decide +kernel
theorem dX10_evenBits_28 : decode cX10_evenBits 28 = .ok (.isub, 1) := by decide +kernel
theorem dX10_evenBits_29 : decode cX10_evenBits 29 = .ok (.iload_n 2, 1) := by decide +kernel
theorem dX10_evenBits_30 : decode cX10_evenBits 30 = .ok (.if_icmp .ge 11, 3) := by decide +kernel
theorem dX10_evenBits_33 : decode cX10_evenBits 33 = .ok (.iload 4, 2) := by decide +kernel
theorem dX10_evenBits_35 : decode cX10_evenBits 35 = .ok (.iload 5, 2) := by decide +kernel
theorem dX10_evenBits_37 : decode cX10_evenBits 37 = .ok (.isub, 1) := by decide +kernel
theorem dX10_evenBits_38 : decode cX10_evenBits 38 = .ok (.goto 4, 3) := by decide +kernel
theorem dX10_evenBits_41 : decode cX10_evenBits 41 = .ok (.iload_n 2, 1) := by decide +kernel
theorem dX10_evenBits_42 : decode cX10_evenBits 42 = .ok (.invokevirtual 249, 3) := by decide +kernel
theorem dX10_evenBits_45 : decode cX10_evenBits 45 = .ok (.iadd, 1) := by decide +kernel
theorem dX10_evenBits_46 : decode cX10_evenBits 46 = .ok (.istore_n 3, 1) := by decide +kernel
theorem dX10_evenBits_47 : decode cX10_evenBits 47 = .ok (.iload 5, 2) := by decide +kernel
theorem dX10_evenBits_49 : decode cX10_evenBits 49 = .ok (.iload_n 2, 1) := by decide +kernel
theorem dX10_evenBits_50 : decode cX10_evenBits 50 = .ok (.iadd, 1) := by decide +kernel
theorem dX10_evenBits_51 : decode cX10_evenBits 51 = .ok (.istore 5, 2) := by decide +kernel
theorem dX10_evenBits_53 : decode cX10_evenBits 53 = .ok (.goto (-41), 3) := by decide +kernel
theorem dX10_evenBits_56 : decode cX10_evenBits 56 = .ok (.iload_n 3, 1) := by decide +kernel
theorem dX10_evenBits_57 : decode cX10_evenBits 57 = .ok (.ireturn, 1) := by decide +kernel
theorem dX10_evenly_0 : decode cX10_evenly 0 = .ok (.iload_n 1, 1) := by decide +kernel
theorem dX10_evenly_1 : decode cX10_evenly 1 = .ok (.invokestatic 84, 3) := by decide +kernel
theorem dX10_evenly_4 : decode cX10_evenly 4 = .ok (.ifCond .eq 22, 3) := by decide +kernel
theorem dX10_evenly_7 : decode cX10_evenly 7 = .ok (.iload_n 2, 1) := by decide +kernel
theorem dX10_evenly_8 : decode cX10_evenly 8 = .ok (.iconst 1, 1) := by decide +kernel
theorem dX10_evenly_9 : decode cX10_evenly 9 = .ok (.bipush 16, 2) := by decide +kernel
theorem dX10_evenly_11 : decode cX10_evenly 11 = .ok (.invokestatic 65, 3) := by decide +kernel
theorem dX10_evenly_14 : decode cX10_evenly 14 = .ok (.ifCond .eq 12, 3) := by decide +kernel
theorem dX10_evenly_17 : decode cX10_evenly 17 = .ok (.aload_n 0, 1) := by decide +kernel
theorem dX10_evenly_18 : decode cX10_evenly 18 = .ok (.iload_n 1, 1) := by decide +kernel
theorem dX10_evenly_19 : decode cX10_evenly 19 = .ok (.iload_n 2, 1) := by decide +kernel
theorem dX10_evenly_20 : decode cX10_evenly 20 = .ok (.invokevirtual 373, 3) := by decide +kernel
theorem dX10_evenly_23 : decode cX10_evenly 23 = .ok (.goto 4, 3) := by decide +kernel
theorem dX10_evenly_26 : decode cX10_evenly 26 = .ok (.iconst (-1), 1) := by decide +kernel
theorem dX10_evenly_27 : decode cX10_evenly 27 = .ok (.ireturn, 1) := by decide +kernel
theorem dX10_evenest_0 : decode cX10_evenest 0 = .ok (.iload_n 1, 1) := by decide +kernel
theorem dX10_evenest_1 : decode cX10_evenest 1 = .ok (.invokestatic 84, 3) := by decide +kernel
theorem dX10_evenest_4 : decode cX10_evenest 4 = .ok (.ifCond .eq 11, 3) := by decide +kernel
theorem dX10_evenest_7 : decode cX10_evenest 7 = .ok (.aload_n 0, 1) := by decide +kernel
theorem dX10_evenest_8 : decode cX10_evenest 8 = .ok (.iload_n 1, 1) := by decide +kernel
theorem dX10_evenest_9 : decode cX10_evenest 9 = .ok (.invokevirtual 77, 3) := by decide +kernel
theorem dX10_evenest_12 : decode cX10_evenest 12 = .ok (.ifCond .ne 5, 3) := by decide +kernel
theorem dX10_evenest_15 : decode cX10_evenest 15 = .ok (.iconst (-1), 1) := by decide +kernel
theorem dX10_evenest_16 : decode cX10_evenest 16 = .ok (.ireturn, 1) := by decide +kernel
theorem dX10_evenest_17 : decode cX10_evenest 17 = .ok (.iconst 1, 1) := by decide +kernel
theorem dX10_evenest_18 : decode cX10_evenest 18 = .ok (.istore_n 2, 1) := by decide +kernel
theorem dX10_evenest_19 : decode cX10_evenest 19 = .ok (.iconst 2, 1) := by decide +kernel
theorem dX10_evenest_20 : decode cX10_evenest 20 = .ok (.istore_n 3, 1) := by decide +kernel
theorem dX10_evenest_21 : decode cX10_evenest 21 = .ok (.iload_n 3, 1) := by decide +kernel
theorem dX10_evenest_22 : decode cX10_evenest 22 = .ok (.bipush 16, 2) := by decide +kernel
theorem dX10_evenest_24 : decode cX10_evenest 24 = .ok (.if_icmp .gt 26, 3) := by decide +kernel
theorem dX10_evenest_27 : decode cX10_evenest 27 = .ok (.aload_n 0, 1) := by decide +kernel
theorem dX10_evenest_28 : decode cX10_evenest 28 = .ok (.iload_n 1, 1) := by decide +kernel
theorem dX10_evenest_29 : decode cX10_evenest 29 = .ok (.iload_n 3, 1) := by decide +kernel
theorem dX10_evenest_30 : decode cX10_evenest 30 = .ok (.invokevirtual 373, 3) := by decide +kernel
theorem dX10_evenest_33 : decode cX10_evenest 33 = .ok (.aload_n 0, 1) := by decide +kernel
theorem dX10_evenest_34 : decode cX10_evenest 34 = .ok (.iload_n 1, 1) := by decide +kernel
theorem dX10_evenest_35 : decode cX10_evenest 35 = .ok (.iload_n 2, 1) := by decide +kernel
theorem dX10_evenest_36 : decode cX10_evenest 36 = .ok (.invokevirtual 373, 3) := by decide +kernel
theorem dX10_evenest_39 : decode cX10_evenest 39 = .ok (.if_icmp .ge 5, 3) := by decide +kernel
theorem dX10_evenest_42 : decode cX10_evenest 42 = .ok (.iload_n 3, 1) := by decide +kernel
theorem dX10_evenest_43 : decode cX10_evenest 43 = .ok (.istore_n 2, 1) := by decide +kernel
theorem dX10_evenest_44 : decode cX10_evenest 44 = .ok (.iinc 3 1, 3) := by decide +kernel
theorem dX10_evenest_47 : decode cX10_evenest 47 = .ok (.goto (-26), 3) := by decide +kernel
theorem dX10_evenest_50 : decode cX10_evenest 50 = .ok (.iload_n 2, 1) := by decide +kernel
theorem dX10_evenest_51 : decode cX10_evenest 51 = .ok (.ireturn, 1) := by decide +kernel
theorem dX10_heaviest_0 : decode cX10_heaviest 0 = .ok (.iload_n 1, 1) := by decide +kernel
theorem dX10_heaviest_1 : decode cX10_heaviest 1 = .ok (.invokestatic 84, 3) := by decide +kernel
theorem dX10_heaviest_4 : decode cX10_heaviest 4 = .ok (.ifCond .eq 11, 3) := by decide +kernel
theorem dX10_heaviest_7 : decode cX10_heaviest 7 = .ok (.aload_n 0, 1) := by decide +kernel
theorem dX10_heaviest_8 : decode cX10_heaviest 8 = .ok (.iload_n 1, 1) := by decide +kernel
theorem dX10_heaviest_9 : decode cX10_heaviest 9 = .ok (.invokevirtual 77, 3) := by decide +kernel
theorem dX10_heaviest_12 : decode cX10_heaviest 12 = .ok (.ifCond .ne 5, 3) := by decide +kernel
theorem dX10_heaviest_15 : decode cX10_heaviest 15 = .ok (.iconst (-1), 1) := by decide +kernel
theorem dX10_heaviest_16 : decode cX10_heaviest 16 = .ok (.ireturn, 1) := by decide +kernel
theorem dX10_heaviest_17 : decode cX10_heaviest 17 = .ok (.iconst 0, 1) := by decide +kernel
theorem dX10_heaviest_18 : decode cX10_heaviest 18 = .ok (.istore_n 2, 1) := by decide +kernel
theorem dX10_heaviest_19 : decode cX10_heaviest 19 = .ok (.iconst 1, 1) := by decide +kernel
theorem dX10_heaviest_20 : decode cX10_heaviest 20 = .ok (.istore_n 3, 1) := by decide +kernel
theorem dX10_heaviest_21 : decode cX10_heaviest 21 = .ok (.iload_n 3, 1) := by decide +kernel
theorem dX10_heaviest_22 : decode cX10_heaviest 22 = .ok (.aload_n 0, 1) := by decide +kernel
theorem dX10_heaviest_23 : decode cX10_heaviest 23 = .ok (.iload_n 1, 1) := by decide +kernel
theorem dX10_heaviest_24 : decode cX10_heaviest 24 = .ok (.invokevirtual 77, 3) := by decide +kernel
theorem dX10_heaviest_27 : decode cX10_heaviest 27 = .ok (.if_icmp .ge 42, 3) := by decide +kernel
theorem dX10_heaviest_30 : decode cX10_heaviest 30 = .ok (.aload_n 0, 1) := by decide +kernel
theorem dX10_heaviest_31 : decode cX10_heaviest 31 = .ok (.iload_n 1, 1) := by decide +kernel
theorem dX10_heaviest_32 : decode cX10_heaviest 32 = .ok (.iload_n 3, 1) := by decide +kernel
theorem dX10_heaviest_33 : decode cX10_heaviest 33 = .ok (.invokevirtual 177, 3) := by decide +kernel
theorem dX10_heaviest_36 : decode cX10_heaviest 36 = .ok (.aload_n 0, 1) := by decide +kernel
theorem dX10_heaviest_37 : decode cX10_heaviest 37 = .ok (.iload_n 1, 1) := by decide +kernel
theorem dX10_heaviest_38 : decode cX10_heaviest 38 = .ok (.iload_n 2, 1) := by decide +kernel
theorem dX10_heaviest_39 : decode cX10_heaviest 39 = .ok (.iconst 0, 1) := by decide +kernel
theorem dX10_heaviest_40 : decode cX10_heaviest 40 = .ok (.invokevirtual 73, 3) := by decide +kernel
theorem dX10_heaviest_43 : decode cX10_heaviest 43 = .ok (.imul, 1) := by decide +kernel
theorem dX10_heaviest_44 : decode cX10_heaviest 44 = .ok (.aload_n 0, 1) := by decide +kernel
theorem dX10_heaviest_45 : decode cX10_heaviest 45 = .ok (.iload_n 1, 1) := by decide +kernel
theorem dX10_heaviest_46 : decode cX10_heaviest 46 = .ok (.iload_n 2, 1) := by decide +kernel
theorem dX10_heaviest_47 : decode cX10_heaviest 47 = .ok (.invokevirtual 177, 3) := by decide +kernel
theorem dX10_heaviest_50 : decode cX10_heaviest 50 = .ok (.aload_n 0, 1) := by decide +kernel
theorem dX10_heaviest_51 : decode cX10_heaviest 51 = .ok (.iload_n 1, 1) := by decide +kernel
theorem dX10_heaviest_52 : decode cX10_heaviest 52 = .ok (.iload_n 3, 1) := by decide +kernel
theorem dX10_heaviest_53 : decode cX10_heaviest 53 = .ok (.iconst 0, 1) := by decide +kernel
theorem dX10_heaviest_54 : decode cX10_heaviest 54 = .ok (.invokevirtual 73, 3) := by decide +kernel
theorem dX10_heaviest_57 : decode cX10_heaviest 57 = .ok (.imul, 1) := by decide +kernel
theorem dX10_heaviest_58 : decode cX10_heaviest 58 = .ok (.if_icmp .le 5, 3) := by decide +kernel
theorem dX10_heaviest_61 : decode cX10_heaviest 61 = .ok (.iload_n 3, 1) := by decide +kernel
theorem dX10_heaviest_62 : decode cX10_heaviest 62 = .ok (.istore_n 2, 1) := by decide +kernel
theorem dX10_heaviest_63 : decode cX10_heaviest 63 = .ok (.iinc 3 1, 3) := by decide +kernel
theorem dX10_heaviest_66 : decode cX10_heaviest 66 = .ok (.goto (-45), 3) := by decide +kernel
theorem dX10_heaviest_69 : decode cX10_heaviest 69 = .ok (.iload_n 2, 1) := by decide +kernel
theorem dX10_heaviest_70 : decode cX10_heaviest 70 = .ok (.ireturn, 1) := by decide +kernel
theorem dX10_difference_0 : decode cX10_difference 0 = .ok (.aload_n 0, 1) := by decide +kernel
theorem dX10_difference_1 : decode cX10_difference 1 = .ok (.iload_n 1, 1) := by decide +kernel
theorem dX10_difference_2 : decode cX10_difference 2 = .ok (.iload_n 2, 1) := by decide +kernel
theorem dX10_difference_3 : decode cX10_difference 3 = .ok (.invokevirtual 203, 3) := by decide +kernel
theorem dX10_difference_6 : decode cX10_difference 6 = .ok (.ifCond .ne 7, 3) := by decide +kernel
theorem dX10_difference_9 : decode cX10_difference 9 = .ok (.ldc2_w 361, 3) := by decide +kernel
theorem dX10_difference_12 : decode cX10_difference 12 = .ok (.lreturn, 1) := by decide +kernel
theorem dX10_difference_13 : decode cX10_difference 13 = .ok (.iload_n 2, 1) := by decide +kernel
theorem dX10_difference_14 : decode cX10_difference 14 = .ok (.iconst 1, 1) := by decide +kernel
theorem dX10_difference_15 : decode cX10_difference 15 = .ok (.isub, 1) := by decide +kernel
theorem dX10_difference_16 : decode cX10_difference 16 = .ok (.istore_n 3, 1) := by decide +kernel
theorem dX10_difference_17 : decode cX10_difference 17 = .ok (.iload_n 3, 1) := by decide +kernel
theorem dX10_difference_18 : decode cX10_difference 18 = .ok (.ifCond .lt 18, 3) := by decide +kernel
theorem dX10_difference_21 : decode cX10_difference 21 = .ok (.aload_n 0, 1) := by decide +kernel
theorem dX10_difference_22 : decode cX10_difference 22 = .ok (.iload_n 1, 1) := by decide +kernel
theorem dX10_difference_23 : decode cX10_difference 23 = .ok (.iload_n 3, 1) := by decide +kernel
theorem dX10_difference_24 : decode cX10_difference 24 = .ok (.invokevirtual 97, 3) := by decide +kernel
theorem dX10_difference_27 : decode cX10_difference 27 = .ok (.ifCond .eq 9, 3) := by decide +kernel
theorem dX10_difference_30 : decode cX10_difference 30 = .ok (.iinc 3 (-1), 3) := by decide +kernel
theorem dX10_difference_33 : decode cX10_difference 33 = .ok (.goto (-16), 3) := by decide +kernel
theorem dX10_difference_36 : decode cX10_difference 36 = .ok (.iload_n 3, 1) := by decide +kernel
theorem dX10_difference_37 : decode cX10_difference 37 = .ok (.ifCond .lt 12, 3) := by decide +kernel
theorem dX10_difference_40 : decode cX10_difference 40 = .ok (.aload_n 0, 1) := by decide +kernel
theorem dX10_difference_41 : decode cX10_difference 41 = .ok (.iload_n 1, 1) := by decide +kernel
theorem dX10_difference_42 : decode cX10_difference 42 = .ok (.iload_n 2, 1) := by decide +kernel
theorem dX10_difference_43 : decode cX10_difference 43 = .ok (.invokevirtual 97, 3) := by decide +kernel
theorem dX10_difference_46 : decode cX10_difference 46 = .ok (.ifCond .eq 7, 3) := by decide +kernel
theorem dX10_difference_49 : decode cX10_difference 49 = .ok (.ldc2_w 363, 3) := by decide +kernel
theorem dX10_difference_52 : decode cX10_difference 52 = .ok (.lreturn, 1) := by decide +kernel
theorem dX10_difference_53 : decode cX10_difference 53 = .ok (.aload_n 0, 1) := by decide +kernel
theorem dX10_difference_54 : decode cX10_difference 54 = .ok (.iload_n 1, 1) := by decide +kernel
theorem dX10_difference_55 : decode cX10_difference 55 = .ok (.iload_n 2, 1) := by decide +kernel
theorem dX10_difference_56 : decode cX10_difference 56 = .ok (.invokevirtual 101, 3) := by decide +kernel
theorem dX10_difference_59 : decode cX10_difference 59 = .ok (.aload_n 0, 1) := by decide +kernel
theorem dX10_difference_60 : decode cX10_difference 60 = .ok (.iload_n 1, 1) := by decide +kernel
theorem dX10_difference_61 : decode cX10_difference 61 = .ok (.iload_n 3, 1) := by decide +kernel
theorem dX10_difference_62 : decode cX10_difference 62 = .ok (.invokevirtual 101, 3) := by decide +kernel
theorem dX10_difference_65 : decode cX10_difference 65 = .ok (.isub, 1) := by decide +kernel
theorem dX10_difference_66 : decode cX10_difference 66 = .ok (.i2l, 1) := by decide +kernel
theorem dX10_difference_67 : decode cX10_difference 67 = .ok (.lreturn, 1) := by decide +kernel
theorem dX10_would_0 : decode cX10_would 0 = .ok (.aload_n 0, 1) := by decide +kernel
theorem dX10_would_1 : decode cX10_would 1 = .ok (.iload_n 1, 1) := by decide +kernel
theorem dX10_would_2 : decode cX10_would 2 = .ok (.iload_n 2, 1) := by decide +kernel
theorem dX10_would_3 : decode cX10_would 3 = .ok (.invokevirtual 203, 3) := by decide +kernel
theorem dX10_would_6 : decode cX10_would 6 = .ok (.ifCond .ne 5, 3) := by decide +kernel
theorem dX10_would_9 : decode cX10_would 9 = .ok (.iconst (-1), 1) := by decide +kernel
theorem dX10_would_10 : decode cX10_would 10 = .ok (.ireturn, 1) := by decide +kernel
theorem dX10_would_11 : decode cX10_would 11 = .ok (.aload_n 0, 1) := by decide +kernel
theorem dX10_would_12 : decode cX10_would 12 = .ok (.invokevirtual 376, 3) := by decide +kernel
theorem dX10_would_15 : decode cX10_would 15 = .ok (.aload_n 0, 1) := by decide +kernel
theorem dX10_would_16 : decode cX10_would 16 = .ok (.iload_n 1, 1) := by decide +kernel
theorem dX10_would_17 : decode cX10_would 17 = .ok (.iload_n 2, 1) := by decide +kernel
theorem dX10_would_18 : decode cX10_would 18 = .ok (.iload_n 3, 1) := by decide +kernel
theorem dX10_would_19 : decode cX10_would 19 = .ok (.iconst 0, 1) := by decide +kernel
theorem dX10_would_20 : decode cX10_would 20 = .ok (.invokevirtual 183, 3) := by decide +kernel
theorem dX10_would_23 : decode cX10_would 23 = .ok (.aload_n 0, 1) := by decide +kernel
theorem dX10_would_24 : decode cX10_would 24 = .ok (.iload_n 1, 1) := by decide +kernel
theorem dX10_would_25 : decode cX10_would 25 = .ok (.aload_n 0, 1) := by decide +kernel
theorem dX10_would_26 : decode cX10_would 26 = .ok (.iload_n 1, 1) := by decide +kernel
theorem dX10_would_27 : decode cX10_would 27 = .ok (.iload_n 2, 1) := by decide +kernel
theorem dX10_would_28 : decode cX10_would 28 = .ok (.invokevirtual 206, 3) := by decide +kernel
theorem dX10_would_31 : decode cX10_would 31 = .ok (.invokevirtual 171, 3) := by decide +kernel
theorem dX10_would_34 : decode cX10_would 34 = .ok (.aload_n 0, 1) := by decide +kernel
theorem dX10_would_35 : decode cX10_would 35 = .ok (.iload_n 1, 1) := by decide +kernel
theorem dX10_would_36 : decode cX10_would 36 = .ok (.invokevirtual 216, 3) := by decide +kernel
theorem dX10_would_39 : decode cX10_would 39 = .ok (.istore 4, 2) := by decide +kernel
theorem dX10_would_41 : decode cX10_would 41 = .ok (.aload_n 0, 1) := by decide +kernel
theorem dX10_would_42 : decode cX10_would 42 = .ok (.invokevirtual 379, 3) := by decide +kernel
theorem dX10_would_45 : decode cX10_would 45 = .ok (.iload 4, 2) := by decide +kernel
theorem dX10_would_47 : decode cX10_would 47 = .ok (.ireturn, 1) := by decide +kernel
theorem dX10_sorted_0 : decode cX10_sorted 0 = .ok (.iload_n 1, 1) := by decide +kernel
theorem dX10_sorted_1 : decode cX10_sorted 1 = .ok (.invokestatic 84, 3) := by decide +kernel
theorem dX10_sorted_4 : decode cX10_sorted 4 = .ok (.ifCond .ne 5, 3) := by decide +kernel
theorem dX10_sorted_7 : decode cX10_sorted 7 = .ok (.iconst 0, 1) := by decide +kernel
theorem dX10_sorted_8 : decode cX10_sorted 8 = .ok (.ireturn, 1) := by decide +kernel
theorem dX10_sorted_9 : decode cX10_sorted 9 = .ok (.iconst 0, 1) := by decide +kernel
theorem dX10_sorted_10 : decode cX10_sorted 10 = .ok (.istore_n 2, 1) := by decide +kernel
theorem dX10_sorted_11 : decode cX10_sorted 11 = .ok (.iconst 0, 1) := by decide +kernel
theorem dX10_sorted_12 : decode cX10_sorted 12 = .ok (.istore_n 3, 1) := by decide +kernel
theorem dX10_sorted_13 : decode cX10_sorted 13 = .ok (.iconst 0, 1) := by decide +kernel
theorem dX10_sorted_14 : decode cX10_sorted 14 = .ok (.istore 4, 2) := by decide +kernel
theorem dX10_sorted_16 : decode cX10_sorted 16 = .ok (.iload 4, 2) := by decide +kernel
theorem dX10_sorted_18 : decode cX10_sorted 18 = .ok (.aload_n 0, 1) := by decide +kernel
theorem dX10_sorted_19 : decode cX10_sorted 19 = .ok (.iload_n 1, 1) := by decide +kernel
theorem dX10_sorted_20 : decode cX10_sorted 20 = .ok (.invokevirtual 88, 3) := by decide +kernel
theorem dX10_sorted_23 : decode cX10_sorted 23 = .ok (.if_icmp .ge 49, 3) := by decide +kernel
theorem dX10_sorted_26 : decode cX10_sorted 26 = .ok (.aload_n 0, 1) := by decide +kernel
theorem dX10_sorted_27 : decode cX10_sorted 27 = .ok (.iload_n 1, 1) := by decide +kernel
theorem dX10_sorted_28 : decode cX10_sorted 28 = .ok (.iload 4, 2) := by decide +kernel
theorem dX10_sorted_30 : decode cX10_sorted 30 = .ok (.invokevirtual 97, 3) := by decide +kernel
theorem dX10_sorted_33 : decode cX10_sorted 33 = .ok (.ifCond .eq 6, 3) := by decide +kernel
theorem dX10_sorted_36 : decode cX10_sorted 36 = .ok (.goto 30, 3) := by decide +kernel
theorem dX10_sorted_39 : decode cX10_sorted 39 = .ok (.iload_n 2, 1) := by decide +kernel
theorem dX10_sorted_40 : decode cX10_sorted 40 = .ok (.ifCond .eq 16, 3) := by decide +kernel
theorem dX10_sorted_43 : decode cX10_sorted 43 = .ok (.aload_n 0, 1) := by decide +kernel
theorem dX10_sorted_44 : decode cX10_sorted 44 = .ok (.iload_n 1, 1) := by decide +kernel
theorem dX10_sorted_45 : decode cX10_sorted 45 = .ok (.iload 4, 2) := by decide +kernel
theorem dX10_sorted_47 : decode cX10_sorted 47 = .ok (.invokevirtual 101, 3) := by decide +kernel
theorem dX10_sorted_50 : decode cX10_sorted 50 = .ok (.iload_n 3, 1) := by decide +kernel
theorem dX10_sorted_51 : decode cX10_sorted 51 = .ok (.if_icmp .ge 5, 3) := by decide +kernel
theorem dX10_sorted_54 : decode cX10_sorted 54 = .ok (.iconst 0, 1) := by decide +kernel
theorem dX10_sorted_55 : decode cX10_sorted 55 = .ok (.ireturn, 1) := by decide +kernel
theorem dX10_sorted_56 : decode cX10_sorted 56 = .ok (.iconst 1, 1) := by decide +kernel
theorem dX10_sorted_57 : decode cX10_sorted 57 = .ok (.istore_n 2, 1) := by decide +kernel
theorem dX10_sorted_58 : decode cX10_sorted 58 = .ok (.aload_n 0, 1) := by decide +kernel
theorem dX10_sorted_59 : decode cX10_sorted 59 = .ok (.iload_n 1, 1) := by decide +kernel
theorem dX10_sorted_60 : decode cX10_sorted 60 = .ok (.iload 4, 2) := by decide +kernel
theorem dX10_sorted_62 : decode cX10_sorted 62 = .ok (.invokevirtual 101, 3) := by decide +kernel
theorem dX10_sorted_65 : decode cX10_sorted 65 = .ok (.istore_n 3, 1) := by decide +kernel
theorem dX10_sorted_66 : decode cX10_sorted 66 = .ok (.iinc 4 1, 3) := by decide +kernel
theorem dX10_sorted_69 : decode cX10_sorted 69 = .ok (.goto (-53), 3) := by decide +kernel
theorem dX10_sorted_72 : decode cX10_sorted 72 = .ok (.iconst 1, 1) := by decide +kernel
theorem dX10_sorted_73 : decode cX10_sorted 73 = .ok (.ireturn, 1) := by decide +kernel
theorem dX10_find_0 : decode cX10_find 0 = .ok (.aload_n 0, 1) := by decide +kernel
theorem dX10_find_1 : decode cX10_find 1 = .ok (.iload_n 1, 1) := by decide +kernel
theorem dX10_find_2 : decode cX10_find 2 = .ok (.invokevirtual 237, 3) := by decide +kernel
theorem dX10_find_5 : decode cX10_find 5 = .ok (.ifCond .ne 6, 3) := by decide +kernel
theorem dX10_find_8 : decode cX10_find 8 = .ok (.bipush (-2), 2) := by decide +kernel
theorem dX10_find_10 : decode cX10_find 10 = .ok (.ireturn, 1) := by decide +kernel
theorem dX10_find_11 : decode cX10_find 11 = .ok (.iconst 0, 1) := by decide +kernel
theorem dX10_find_12 : decode cX10_find 12 = .ok (.istore_n 3, 1) := by decide +kernel
theorem dX10_find_13 : decode cX10_find 13 = .ok (.iload_n 3, 1) := by decide +kernel
theorem dX10_find_14 : decode cX10_find 14 = .ok (.aload_n 0, 1) := by decide +kernel
theorem dX10_find_15 : decode cX10_find 15 = .ok (.iload_n 1, 1) := by decide +kernel
theorem dX10_find_16 : decode cX10_find 16 = .ok (.invokevirtual 88, 3) := by decide +kernel
theorem dX10_find_19 : decode cX10_find 19 = .ok (.if_icmp .ge 30, 3) := by decide +kernel
theorem dX10_find_22 : decode cX10_find 22 = .ok (.aload_n 0, 1) := by decide +kernel
theorem dX10_find_23 : decode cX10_find 23 = .ok (.iload_n 1, 1) := by decide +kernel
theorem dX10_find_24 : decode cX10_find 24 = .ok (.iload_n 3, 1) := by decide +kernel
theorem dX10_find_25 : decode cX10_find 25 = .ok (.invokevirtual 97, 3) := by decide +kernel
theorem dX10_find_28 : decode cX10_find 28 = .ok (.ifCond .ne 15, 3) := by decide +kernel
theorem dX10_find_31 : decode cX10_find 31 = .ok (.aload_n 0, 1) := by decide +kernel
theorem dX10_find_32 : decode cX10_find 32 = .ok (.iload_n 1, 1) := by decide +kernel
theorem dX10_find_33 : decode cX10_find 33 = .ok (.iload_n 3, 1) := by decide +kernel
theorem dX10_find_34 : decode cX10_find 34 = .ok (.invokevirtual 101, 3) := by decide +kernel
theorem dX10_find_37 : decode cX10_find 37 = .ok (.iload_n 2, 1) := by decide +kernel
theorem dX10_find_38 : decode cX10_find 38 = .ok (.if_icmp .lt 5, 3) := by decide +kernel
theorem dX10_find_41 : decode cX10_find 41 = .ok (.iload_n 3, 1) := by decide +kernel
theorem dX10_find_42 : decode cX10_find 42 = .ok (.ireturn, 1) := by decide +kernel
theorem dX10_find_43 : decode cX10_find 43 = .ok (.iinc 3 1, 3) := by decide +kernel
theorem dX10_find_46 : decode cX10_find 46 = .ok (.goto (-33), 3) := by decide +kernel
theorem dX10_find_49 : decode cX10_find 49 = .ok (.iconst (-1), 1) := by decide +kernel
theorem dX10_find_50 : decode cX10_find 50 = .ok (.ireturn, 1) := by decide +kernel
theorem dX10_layBases_0 : decode cX10_layBases 0 = .ok (.iconst 0, 1) := by decide +kernel
theorem dX10_layBases_1 : decode cX10_layBases 1 = .ok (.istore_n 2, 1) := by decide +kernel
theorem dX10_layBases_2 : decode cX10_layBases 2 = .ok (.iconst 0, 1) := by decide +kernel
theorem dX10_layBases_3 : decode cX10_layBases 3 = .ok (.istore_n 3, 1) := by decide +kernel
theorem dX10_layBases_4 : decode cX10_layBases 4 = .ok (.iload_n 3, 1) := by decide +kernel
theorem dX10_layBases_5 : decode cX10_layBases 5 = .ok (.aload_n 0, 1) := by decide +kernel
theorem dX10_layBases_6 : decode cX10_layBases 6 = .ok (.iload_n 1, 1) := by decide +kernel
theorem dX10_layBases_7 : decode cX10_layBases 7 = .ok (.invokevirtual 77, 3) := by decide +kernel
theorem dX10_layBases_10 : decode cX10_layBases 10 = .ok (.if_icmp .ge 38, 3) := by decide +kernel
theorem dX10_layBases_13 : decode cX10_layBases 13 = .ok (.aload_n 0, 1) := by decide +kernel
theorem dX10_layBases_14 : decode cX10_layBases 14 = .ok (.iload_n 1, 1) := by decide +kernel
theorem dX10_layBases_15 : decode cX10_layBases 15 = .ok (.iload_n 3, 1) := by decide +kernel
theorem dX10_layBases_16 : decode cX10_layBases 16 = .ok (.invokevirtual 277, 3) := by decide +kernel
theorem dX10_layBases_19 : decode cX10_layBases 19 = .ok (.istore 4, 2) := by decide +kernel
theorem dX10_layBases_21 : decode cX10_layBases 21 = .ok (.aload_n 0, 1) := by decide +kernel
theorem dX10_layBases_22 : decode cX10_layBases 22 = .ok (.getfield 94, 3) := by decide +kernel
theorem dX10_layBases_25 : decode cX10_layBases 25 = .ok (.ifCond .ne 6, 3) := by decide +kernel
theorem dX10_layBases_28 : decode cX10_layBases 28 = .ok (.goto 14, 3) := by decide +kernel
theorem dX10_layBases_31 : decode cX10_layBases 31 = .ok (.aload_n 0, 1) := by decide +kernel
theorem dX10_layBases_32 : decode cX10_layBases 32 = .ok (.getfield 58, 3) := by decide +kernel
theorem dX10_layBases_35 : decode cX10_layBases 35 = .ok (.iload_n 2, 1) := by decide +kernel
theorem dX10_layBases_36 : decode cX10_layBases 36 = .ok (.iload 4, 2) := by decide +kernel
theorem dX10_layBases_38 : decode cX10_layBases 38 = .ok (.iastore, 1) := by decide +kernel
theorem dX10_layBases_39 : decode cX10_layBases 39 = .ok (.iinc 2 1, 3) := by decide +kernel
theorem dX10_layBases_42 : decode cX10_layBases 42 = .ok (.iinc 3 1, 3) := by decide +kernel
theorem dX10_layBases_45 : decode cX10_layBases 45 = .ok (.goto (-41), 3) := by decide +kernel
theorem dX10_layBases_48 : decode cX10_layBases 48 = .ok (.iload_n 2, 1) := by decide +kernel
theorem dX10_layBases_49 : decode cX10_layBases 49 = .ok (.ireturn, 1) := by decide +kernel
theorem dX10_looks_0 : decode cX10_looks 0 = .ok (.aload_n 0, 1) := by decide +kernel
theorem dX10_looks_1 : decode cX10_looks 1 = .ok (.iload_n 1, 1) := by decide +kernel
theorem dX10_looks_2 : decode cX10_looks 2 = .ok (.invokevirtual 237, 3) := by decide +kernel
theorem dX10_looks_5 : decode cX10_looks 5 = .ok (.ifCond .ne 6, 3) := by decide +kernel
theorem dX10_looks_8 : decode cX10_looks 8 = .ok (.bipush (-2), 2) := by decide +kernel
theorem dX10_looks_10 : decode cX10_looks 10 = .ok (.ireturn, 1) := by decide +kernel
theorem dX10_looks_11 : decode cX10_looks 11 = .ok (.iconst 0, 1) := by decide +kernel
theorem dX10_looks_12 : decode cX10_looks 12 = .ok (.istore_n 3, 1) := by decide +kernel
theorem dX10_looks_13 : decode cX10_looks 13 = .ok (.aload_n 0, 1) := by decide +kernel
theorem dX10_looks_14 : decode cX10_looks 14 = .ok (.iload_n 1, 1) := by decide +kernel
theorem dX10_looks_15 : decode cX10_looks 15 = .ok (.invokevirtual 382, 3) := by decide +kernel
theorem dX10_looks_18 : decode cX10_looks 18 = .ok (.istore 4, 2) := by decide +kernel
theorem dX10_looks_20 : decode cX10_looks 20 = .ok (.iconst 0, 1) := by decide +kernel
theorem dX10_looks_21 : decode cX10_looks 21 = .ok (.istore 5, 2) := by decide +kernel
theorem dX10_looks_23 : decode cX10_looks 23 = .ok (.iload_n 3, 1) := by decide +kernel
theorem dX10_looks_24 : decode cX10_looks 24 = .ok (.iload 4, 2) := by decide +kernel
theorem dX10_looks_26 : decode cX10_looks 26 = .ok (.if_icmp .ge 40, 3) := by decide +kernel
theorem dX10_looks_29 : decode cX10_looks 29 = .ok (.iload_n 3, 1) := by decide +kernel
theorem dX10_looks_30 : decode cX10_looks 30 = .ok (.iload 4, 2) := by decide +kernel
theorem dX10_looks_32 : decode cX10_looks 32 = .ok (.iadd, 1) := by decide +kernel
theorem dX10_looks_33 : decode cX10_looks 33 = .ok (.iconst 2, 1) := by decide +kernel
theorem dX10_looks_34 : decode cX10_looks 34 = .ok (.idiv, 1) := by decide +kernel
theorem dX10_looks_35 : decode cX10_looks 35 = .ok (.istore 6, 2) := by decide +kernel
theorem dX10_looks_37 : decode cX10_looks 37 = .ok (.iinc 5 1, 3) := by decide +kernel
theorem dX10_looks_40 : decode cX10_looks 40 = .ok (.aload_n 0, 1) := by decide +kernel
theorem dX10_looks_41 : decode cX10_looks 41 = .ok (.getfield 58, 3) := by decide +kernel
theorem dX10_looks_44 : decode cX10_looks 44 = .ok (.iload 6, 2) := by decide +kernel
theorem dX10_looks_46 : decode cX10_looks 46 = .ok (.iaload, 1) := by decide +kernel
theorem dX10_looks_47 : decode cX10_looks 47 = .ok (.iload_n 2, 1) := by decide +kernel
theorem dX10_looks_48 : decode cX10_looks 48 = .ok (.if_icmp .ge 11, 3) := by decide +kernel
theorem dX10_looks_51 : decode cX10_looks 51 = .ok (.iload 6, 2) := by decide +kernel
theorem dX10_looks_53 : decode cX10_looks 53 = .ok (.iconst 1, 1) := by decide +kernel
theorem dX10_looks_54 : decode cX10_looks 54 = .ok (.iadd, 1) := by decide +kernel
theorem dX10_looks_55 : decode cX10_looks 55 = .ok (.istore_n 3, 1) := by decide +kernel
theorem dX10_looks_56 : decode cX10_looks 56 = .ok (.goto 7, 3) := by decide +kernel
theorem dX10_looks_59 : decode cX10_looks 59 = .ok (.iload 6, 2) := by decide +kernel
theorem dX10_looks_61 : decode cX10_looks 61 = .ok (.istore 4, 2) := by decide +kernel
theorem dX10_looks_63 : decode cX10_looks 63 = .ok (.goto (-40), 3) := by decide +kernel
theorem dX10_looks_66 : decode cX10_looks 66 = .ok (.iload 5, 2) := by decide +kernel
theorem dX10_looks_68 : decode cX10_looks 68 = .ok (.ireturn, 1) := by decide +kernel
theorem dX10_sum_0 : decode cX10_sum 0 = .ok (.iload_n 1, 1) := by decide +kernel
theorem dX10_sum_1 : decode cX10_sum 1 = .ok (.invokestatic 84, 3) := by decide +kernel
theorem dX10_sum_4 : decode cX10_sum 4 = .ok (.ifCond .eq 21, 3) := by decide +kernel
theorem dX10_sum_7 : decode cX10_sum 7 = .ok (.iload_n 2, 1) := by decide +kernel
theorem dX10_sum_8 : decode cX10_sum 8 = .ok (.ifCond .lt 17, 3) := by decide +kernel
theorem dX10_sum_11 : decode cX10_sum 11 = .ok (.iload_n 2, 1) := by decide +kernel
theorem dX10_sum_12 : decode cX10_sum 12 = .ok (.iload_n 3, 1) := by decide +kernel
theorem dX10_sum_13 : decode cX10_sum 13 = .ok (.if_icmp .gt 12, 3) := by decide +kernel
theorem dX10_sum_16 : decode cX10_sum 16 = .ok (.iload_n 3, 1) := by decide +kernel
theorem dX10_sum_17 : decode cX10_sum 17 = .ok (.aload_n 0, 1) := by decide +kernel
theorem dX10_sum_18 : decode cX10_sum 18 = .ok (.iload_n 1, 1) := by decide +kernel
theorem dX10_sum_19 : decode cX10_sum 19 = .ok (.invokevirtual 88, 3) := by decide +kernel
theorem dX10_sum_22 : decode cX10_sum 22 = .ok (.if_icmp .le 5, 3) := by decide +kernel
theorem dX10_sum_25 : decode cX10_sum 25 = .ok (.lconst 0, 1) := by decide +kernel
theorem dX10_sum_26 : decode cX10_sum 26 = .ok (.lreturn, 1) := by decide +kernel
theorem dX10_sum_27 : decode cX10_sum 27 = .ok (.lconst 0, 1) := by decide +kernel
theorem dX10_sum_28 : decode cX10_sum 28 = .ok (.lstore 4, 2) := by decide +kernel
theorem dX10_sum_30 : decode cX10_sum 30 = .ok (.iload_n 2, 1) := by decide +kernel
theorem dX10_sum_31 : decode cX10_sum 31 = .ok (.istore 6, 2) := by decide +kernel
theorem dX10_sum_33 : decode cX10_sum 33 = .ok (.iload 6, 2) := by decide +kernel
theorem dX10_sum_35 : decode cX10_sum 35 = .ok (.iload_n 3, 1) := by decide +kernel
theorem dX10_sum_36 : decode cX10_sum 36 = .ok (.if_icmp .ge 36, 3) := by decide +kernel
theorem dX10_sum_39 : decode cX10_sum 39 = .ok (.lload 4, 2) := by decide +kernel
theorem dX10_sum_41 : decode cX10_sum 41 = .ok (.aload_n 0, 1) := by decide +kernel
theorem dX10_sum_42 : decode cX10_sum 42 = .ok (.iload_n 1, 1) := by decide +kernel
theorem dX10_sum_43 : decode cX10_sum 43 = .ok (.iload 6, 2) := by decide +kernel
theorem dX10_sum_45 : decode cX10_sum 45 = .ok (.invokevirtual 97, 3) := by decide +kernel
theorem dX10_sum_48 : decode cX10_sum 48 = .ok (.ifCond .eq 7, 3) := by decide +kernel
theorem dX10_sum_51 : decode cX10_sum 51 = .ok (.lconst 0, 1) := by decide +kernel
theorem dX10_sum_52 : decode cX10_sum 52 = .ok (.goto 11, 3) := by decide +kernel
theorem dX10_sum_55 : decode cX10_sum 55 = .ok (.aload_n 0, 1) := by decide +kernel
theorem dX10_sum_56 : decode cX10_sum 56 = .ok (.iload_n 1, 1) := by decide +kernel
theorem dX10_sum_57 : decode cX10_sum 57 = .ok (.iload 6, 2) := by decide +kernel
theorem dX10_sum_59 : decode cX10_sum 59 = .ok (.invokevirtual 101, 3) := by decide +kernel
theorem dX10_sum_62 : decode cX10_sum 62 = .ok (.i2l, 1) := by decide +kernel
theorem dX10_sum_63 : decode cX10_sum 63 = .ok (.ladd, 1) := by decide +kernel
theorem dX10_sum_64 : decode cX10_sum 64 = .ok (.lstore 4, 2) := by decide +kernel
theorem dX10_sum_66 : decode cX10_sum 66 = .ok (.iinc 6 1, 3) := by decide +kernel
theorem dX10_sum_69 : decode cX10_sum 69 = .ok (.goto (-36), 3) := by decide +kernel
theorem dX10_sum_72 : decode cX10_sum 72 = .ok (.lload 4, 2) := by decide +kernel
theorem dX10_sum_74 : decode cX10_sum 74 = .ok (.lreturn, 1) := by decide +kernel
theorem dX10_count_0 : decode cX10_count 0 = .ok (.iload_n 1, 1) := by decide +kernel
theorem dX10_count_1 : decode cX10_count 1 = .ok (.invokestatic 84, 3) := by decide +kernel
theorem dX10_count_4 : decode cX10_count 4 = .ok (.ifCond .ne 5, 3) := by decide +kernel
theorem dX10_count_7 : decode cX10_count 7 = .ok (.iconst (-1), 1) := by decide +kernel
theorem dX10_count_8 : decode cX10_count 8 = .ok (.ireturn, 1) := by decide +kernel
theorem dX10_count_9 : decode cX10_count 9 = .ok (.iconst 0, 1) := by decide +kernel
theorem dX10_count_10 : decode cX10_count 10 = .ok (.istore 4, 2) := by decide +kernel
theorem dX10_count_12 : decode cX10_count 12 = .ok (.iconst 0, 1) := by decide +kernel
theorem dX10_count_13 : decode cX10_count 13 = .ok (.istore 5, 2) := by decide +kernel
theorem dX10_count_15 : decode cX10_count 15 = .ok (.iload 5, 2) := by decide +kernel
theorem dX10_count_17 : decode cX10_count 17 = .ok (.aload_n 0, 1) := by decide +kernel
theorem dX10_count_18 : decode cX10_count 18 = .ok (.iload_n 1, 1) := by decide +kernel
theorem dX10_count_19 : decode cX10_count 19 = .ok (.invokevirtual 88, 3) := by decide +kernel
theorem dX10_count_22 : decode cX10_count 22 = .ok (.if_icmp .ge 44, 3) := by decide +kernel
theorem dX10_count_25 : decode cX10_count 25 = .ok (.iload 4, 2) := by decide +kernel
theorem dX10_count_27 : decode cX10_count 27 = .ok (.aload_n 0, 1) := by decide +kernel
theorem dX10_count_28 : decode cX10_count 28 = .ok (.iload_n 1, 1) := by decide +kernel
theorem dX10_count_29 : decode cX10_count 29 = .ok (.iload 5, 2) := by decide +kernel
theorem dX10_count_31 : decode cX10_count 31 = .ok (.invokevirtual 97, 3) := by decide +kernel
theorem dX10_count_34 : decode cX10_count 34 = .ok (.ifCond .ne 22, 3) := by decide +kernel
theorem dX10_count_37 : decode cX10_count 37 = .ok (.aload_n 0, 1) := by decide +kernel
theorem dX10_count_38 : decode cX10_count 38 = .ok (.iload_n 1, 1) := by decide +kernel
theorem dX10_count_39 : decode cX10_count 39 = .ok (.iload 5, 2) := by decide +kernel
theorem dX10_count_41 : decode cX10_count 41 = .ok (.invokevirtual 101, 3) := by decide +kernel
theorem dX10_count_44 : decode cX10_count 44 = .ok (.iload_n 2, 1) := by decide +kernel
theorem dX10_count_45 : decode cX10_count 45 = .ok (.iload_n 3, 1) := by decide +kernel
theorem dX10_count_46 : decode cX10_count 46 = .ok (.invokestatic 65, 3) := by decide +kernel
theorem dX10_count_49 : decode cX10_count 49 = .ok (.ifCond .eq 7, 3) := by decide +kernel
theorem dX10_count_52 : decode cX10_count 52 = .ok (.iconst 1, 1) := by decide +kernel
theorem dX10_count_53 : decode cX10_count 53 = .ok (.goto 4, 3) := by decide +kernel
theorem dX10_count_56 : decode cX10_count 56 = .ok (.iconst 0, 1) := by decide +kernel
theorem dX10_count_57 : decode cX10_count 57 = .ok (.iadd, 1) := by decide +kernel
theorem dX10_count_58 : decode cX10_count 58 = .ok (.istore 4, 2) := by decide +kernel
theorem dX10_count_60 : decode cX10_count 60 = .ok (.iinc 5 1, 3) := by decide +kernel
theorem dX10_count_63 : decode cX10_count 63 = .ok (.goto (-48), 3) := by decide +kernel
theorem dX10_count_66 : decode cX10_count 66 = .ok (.iload 4, 2) := by decide +kernel
theorem dX10_count_68 : decode cX10_count 68 = .ok (.ireturn, 1) := by decide +kernel
theorem dX10_isSkipped_0 : decode cX10_isSkipped 0 = .ok (.aload_n 0, 1) := by decide +kernel
theorem dX10_isSkipped_1 : decode cX10_isSkipped 1 = .ok (.iload_n 1, 1) := by decide +kernel
theorem dX10_isSkipped_2 : decode cX10_isSkipped 2 = .ok (.iload_n 2, 1) := by decide +kernel
theorem dX10_isSkipped_3 : decode cX10_isSkipped 3 = .ok (.iconst 1, 1) := by decide +kernel
theorem dX10_isSkipped_4 : decode cX10_isSkipped 4 = .ok (.invokevirtual 385, 3) := by decide +kernel
theorem dX10_isSkipped_7 : decode cX10_isSkipped 7 = .ok (.ifCond .ne 5, 3) := by decide +kernel
theorem dX10_isSkipped_10 : decode cX10_isSkipped 10 = .ok (.iconst 1, 1) := by decide +kernel
theorem dX10_isSkipped_11 : decode cX10_isSkipped 11 = .ok (.ireturn, 1) := by decide +kernel
theorem dX10_isSkipped_12 : decode cX10_isSkipped 12 = .ok (.aload_n 0, 1) := by decide +kernel
theorem dX10_isSkipped_13 : decode cX10_isSkipped 13 = .ok (.iload_n 1, 1) := by decide +kernel
theorem dX10_isSkipped_14 : decode cX10_isSkipped 14 = .ok (.iload_n 2, 1) := by decide +kernel
theorem dX10_isSkipped_15 : decode cX10_isSkipped 15 = .ok (.iconst 1, 1) := by decide +kernel
theorem dX10_isSkipped_16 : decode cX10_isSkipped 16 = .ok (.invokevirtual 73, 3) := by decide +kernel
theorem dX10_isSkipped_19 : decode cX10_isSkipped 19 = .ok (.ifCond .ne 12, 3) := by decide +kernel
theorem dX10_isSkipped_22 : decode cX10_isSkipped 22 = .ok (.aload_n 0, 1) := by decide +kernel
theorem dX10_isSkipped_23 : decode cX10_isSkipped 23 = .ok (.iload_n 1, 1) := by decide +kernel
theorem dX10_isSkipped_24 : decode cX10_isSkipped 24 = .ok (.iload_n 2, 1) := by decide +kernel
theorem dX10_isSkipped_25 : decode cX10_isSkipped 25 = .ok (.invokevirtual 354, 3) := by decide +kernel
theorem dX10_isSkipped_28 : decode cX10_isSkipped 28 = .ok (.ifCond .le 5, 3) := by decide +kernel
theorem dX10_isSkipped_31 : decode cX10_isSkipped 31 = .ok (.iconst 0, 1) := by decide +kernel
theorem dX10_isSkipped_32 : decode cX10_isSkipped 32 = .ok (.ireturn, 1) := by decide +kernel
theorem dX10_isSkipped_33 : decode cX10_isSkipped 33 = .ok (.aload_n 0, 1) := by decide +kernel
theorem dX10_isSkipped_34 : decode cX10_isSkipped 34 = .ok (.iload_n 1, 1) := by decide +kernel
theorem dX10_isSkipped_35 : decode cX10_isSkipped 35 = .ok (.iload_n 2, 1) := by decide +kernel
theorem dX10_isSkipped_36 : decode cX10_isSkipped 36 = .ok (.invokevirtual 277, 3) := by decide +kernel
theorem dX10_isSkipped_39 : decode cX10_isSkipped 39 = .ok (.i2l, 1) := by decide +kernel
theorem dX10_isSkipped_40 : decode cX10_isSkipped 40 = .ok (.lstore 5, 2) := by decide +kernel
theorem dX10_isSkipped_42 : decode cX10_isSkipped 42 = .ok (.lload 5, 2) := by decide +kernel
theorem dX10_isSkipped_44 : decode cX10_isSkipped 44 = .ok (.iload 4, 2) := by decide +kernel
theorem dX10_isSkipped_46 : decode cX10_isSkipped 46 = .ok (.i2l, 1) := by decide +kernel
theorem dX10_isSkipped_47 : decode cX10_isSkipped 47 = .ok (.lcmp, 1) := by decide +kernel
theorem dX10_isSkipped_48 : decode cX10_isSkipped 48 = .ok (.ifCond .gt 23, 3) := by decide +kernel
theorem dX10_isSkipped_51 : decode cX10_isSkipped 51 = .ok (.lload 5, 2) := by decide +kernel
theorem dX10_isSkipped_53 : decode cX10_isSkipped 53 = .ok (.lconst 1, 1) := by decide +kernel
theorem dX10_isSkipped_54 : decode cX10_isSkipped 54 = .ok (.aload_n 0, 1) := by decide +kernel
theorem dX10_isSkipped_55 : decode cX10_isSkipped 55 = .ok (.iload_n 1, 1) := by decide +kernel
theorem dX10_isSkipped_56 : decode cX10_isSkipped 56 = .ok (.iload_n 2, 1) := by decide +kernel
theorem dX10_isSkipped_57 : decode cX10_isSkipped 57 = .ok (.iconst 2, 1) := by decide +kernel
theorem dX10_isSkipped_58 : decode cX10_isSkipped 58 = .ok (.invokevirtual 73, 3) := by decide +kernel
theorem dX10_isSkipped_61 : decode cX10_isSkipped 61 = .ok (.lshl, 1) := by decide +kernel
theorem dX10_isSkipped_62 : decode cX10_isSkipped 62 = .ok (.ladd, 1) := by decide +kernel
theorem dX10_isSkipped_63 : decode cX10_isSkipped 63 = .ok (.lconst 1, 1) := by decide +kernel
theorem dX10_isSkipped_64 : decode cX10_isSkipped 64 = .ok (.lsub, 1) := by decide +kernel
theorem dX10_isSkipped_65 : decode cX10_isSkipped 65 = .ok (.iload_n 3, 1) := by decide +kernel
theorem dX10_isSkipped_66 : decode cX10_isSkipped 66 = .ok (.i2l, 1) := by decide +kernel
theorem dX10_isSkipped_67 : decode cX10_isSkipped 67 = .ok (.lcmp, 1) := by decide +kernel
theorem dX10_isSkipped_68 : decode cX10_isSkipped 68 = .ok (.ifCond .ge 7, 3) := by decide +kernel
theorem dX10_isSkipped_71 : decode cX10_isSkipped 71 = .ok (.iconst 1, 1) := by decide +kernel
theorem dX10_isSkipped_72 : decode cX10_isSkipped 72 = .ok (.goto 4, 3) := by decide +kernel
theorem dX10_isSkipped_75 : decode cX10_isSkipped 75 = .ok (.iconst 0, 1) := by decide +kernel
theorem dX10_isSkipped_76 : decode cX10_isSkipped 76 = .ok (.ireturn, 1) := by decide +kernel
theorem dX10_bound_0 : decode cX10_bound 0 = .ok (.aload_n 0, 1) := by decide +kernel
theorem dX10_bound_1 : decode cX10_bound 1 = .ok (.iload_n 1, 1) := by decide +kernel
theorem dX10_bound_2 : decode cX10_bound 2 = .ok (.iload_n 2, 1) := by decide +kernel
theorem dX10_bound_3 : decode cX10_bound 3 = .ok (.invokevirtual 225, 3) := by decide +kernel
theorem dX10_bound_6 : decode cX10_bound 6 = .ok (.ifCond .eq 23, 3) := by decide +kernel
theorem dX10_bound_9 : decode cX10_bound 9 = .ok (.aload_n 0, 1) := by decide +kernel
theorem dX10_bound_10 : decode cX10_bound 10 = .ok (.iload_n 1, 1) := by decide +kernel
theorem dX10_bound_11 : decode cX10_bound 11 = .ok (.iload_n 2, 1) := by decide +kernel
theorem dX10_bound_12 : decode cX10_bound 12 = .ok (.iconst 1, 1) := by decide +kernel
theorem dX10_bound_13 : decode cX10_bound 13 = .ok (.invokevirtual 73, 3) := by decide +kernel
theorem dX10_bound_16 : decode cX10_bound 16 = .ok (.ifCond .ne 13, 3) := by decide +kernel
theorem dX10_bound_19 : decode cX10_bound 19 = .ok (.aload_n 0, 1) := by decide +kernel
theorem dX10_bound_20 : decode cX10_bound 20 = .ok (.iload_n 1, 1) := by decide +kernel
theorem dX10_bound_21 : decode cX10_bound 21 = .ok (.iload_n 2, 1) := by decide +kernel
theorem dX10_bound_22 : decode cX10_bound 22 = .ok (.iconst 1, 1) := by decide +kernel
theorem dX10_bound_23 : decode cX10_bound 23 = .ok (.invokevirtual 385, 3) := by decide +kernel
theorem dX10_bound_26 : decode cX10_bound 26 = .ok (.ifCond .ne 7, 3) := by decide +kernel
theorem dX10_bound_29 : decode cX10_bound 29 = .ok (.ldc2_w 361, 3) := by decide +kernel
theorem dX10_bound_32 : decode cX10_bound 32 = .ok (.lreturn, 1) := by decide +kernel
theorem dX10_bound_33 : decode cX10_bound 33 = .ok (.aload_n 0, 1) := by decide +kernel
theorem dX10_bound_34 : decode cX10_bound 34 = .ok (.iload_n 1, 1) := by decide +kernel
theorem dX10_bound_35 : decode cX10_bound 35 = .ok (.iload_n 2, 1) := by decide +kernel
theorem dX10_bound_36 : decode cX10_bound 36 = .ok (.invokevirtual 277, 3) := by decide +kernel
theorem dX10_bound_39 : decode cX10_bound 39 = .ok (.i2l, 1) := by decide +kernel
theorem dX10_bound_40 : decode cX10_bound 40 = .ok (.lstore 4, 2) := by decide +kernel
theorem dX10_bound_42 : decode cX10_bound 42 = .ok (.iload_n 3, 1) := by decide +kernel
theorem dX10_bound_43 : decode cX10_bound 43 = .ok (.ifCond .ne 6, 3) := by decide +kernel
theorem dX10_bound_46 : decode cX10_bound 46 = .ok (.lload 4, 2) := by decide +kernel
theorem dX10_bound_48 : decode cX10_bound 48 = .ok (.lreturn, 1) := by decide +kernel
theorem dX10_bound_49 : decode cX10_bound 49 = .ok (.lload 4, 2) := by decide +kernel
theorem dX10_bound_51 : decode cX10_bound 51 = .ok (.lconst 1, 1) := by decide +kernel
theorem dX10_bound_52 : decode cX10_bound 52 = .ok (.aload_n 0, 1) := by decide +kernel
theorem dX10_bound_53 : decode cX10_bound 53 = .ok (.iload_n 1, 1) := by decide +kernel
theorem dX10_bound_54 : decode cX10_bound 54 = .ok (.iload_n 2, 1) := by decide +kernel
theorem dX10_bound_55 : decode cX10_bound 55 = .ok (.iconst 2, 1) := by decide +kernel
theorem dX10_bound_56 : decode cX10_bound 56 = .ok (.invokevirtual 73, 3) := by decide +kernel
theorem dX10_bound_59 : decode cX10_bound 59 = .ok (.lshl, 1) := by decide +kernel
theorem dX10_bound_60 : decode cX10_bound 60 = .ok (.ladd, 1) := by decide +kernel
theorem dX10_bound_61 : decode cX10_bound 61 = .ok (.lconst 1, 1) := by decide +kernel
theorem dX10_bound_62 : decode cX10_bound 62 = .ok (.lsub, 1) := by decide +kernel
theorem dX10_bound_63 : decode cX10_bound 63 = .ok (.lstore 6, 2) := by decide +kernel
theorem dX10_bound_65 : decode cX10_bound 65 = .ok (.aload_n 0, 1) := by decide +kernel
theorem dX10_bound_66 : decode cX10_bound 66 = .ok (.iload_n 1, 1) := by decide +kernel
theorem dX10_bound_67 : decode cX10_bound 67 = .ok (.iload_n 2, 1) := by decide +kernel
theorem dX10_bound_68 : decode cX10_bound 68 = .ok (.invokevirtual 354, 3) := by decide +kernel
theorem dX10_bound_71 : decode cX10_bound 71 = .ok (.ifCond .gt 12, 3) := by decide +kernel
theorem dX10_bound_74 : decode cX10_bound 74 = .ok (.lload 6, 2) := by decide +kernel
theorem dX10_bound_76 : decode cX10_bound 76 = .ok (.ldc2_w 388, 3) := by decide +kernel
theorem dX10_bound_79 : decode cX10_bound 79 = .ok (.lcmp, 1) := by decide +kernel
theorem dX10_bound_80 : decode cX10_bound 80 = .ok (.ifCond .le 9, 3) := by decide +kernel
theorem dX10_bound_83 : decode cX10_bound 83 = .ok (.ldc2_w 388, 3) := by decide +kernel
theorem dX10_bound_86 : decode cX10_bound 86 = .ok (.goto 5, 3) := by decide +kernel
theorem dX10_bound_89 : decode cX10_bound 89 = .ok (.lload 6, 2) := by decide +kernel
theorem dX10_bound_91 : decode cX10_bound 91 = .ok (.lreturn, 1) := by decide +kernel
theorem dX10_patched_0 : decode cX10_patched 0 = .ok (.aload_n 0, 1) := by decide +kernel
theorem dX10_patched_1 : decode cX10_patched 1 = .ok (.iload_n 1, 1) := by decide +kernel
theorem dX10_patched_2 : decode cX10_patched 2 = .ok (.iload_n 2, 1) := by decide +kernel
theorem dX10_patched_3 : decode cX10_patched 3 = .ok (.invokevirtual 203, 3) := by decide +kernel
theorem dX10_patched_6 : decode cX10_patched 6 = .ok (.ifCond .eq 12, 3) := by decide +kernel
theorem dX10_patched_9 : decode cX10_patched 9 = .ok (.aload_n 0, 1) := by decide +kernel
theorem dX10_patched_10 : decode cX10_patched 10 = .ok (.iload_n 1, 1) := by decide +kernel
theorem dX10_patched_11 : decode cX10_patched 11 = .ok (.iload_n 2, 1) := by decide +kernel
theorem dX10_patched_12 : decode cX10_patched 12 = .ok (.invokevirtual 97, 3) := by decide +kernel
theorem dX10_patched_15 : decode cX10_patched 15 = .ok (.ifCond .eq 5, 3) := by decide +kernel
theorem dX10_patched_18 : decode cX10_patched 18 = .ok (.iconst 0, 1) := by decide +kernel
theorem dX10_patched_19 : decode cX10_patched 19 = .ok (.ireturn, 1) := by decide +kernel
theorem dX10_patched_20 : decode cX10_patched 20 = .ok (.aload_n 0, 1) := by decide +kernel
theorem dX10_patched_21 : decode cX10_patched 21 = .ok (.iload_n 1, 1) := by decide +kernel
theorem dX10_patched_22 : decode cX10_patched 22 = .ok (.iload_n 2, 1) := by decide +kernel
theorem dX10_patched_23 : decode cX10_patched 23 = .ok (.invokevirtual 206, 3) := by decide +kernel
theorem dX10_patched_26 : decode cX10_patched 26 = .ok (.istore_n 3, 1) := by decide +kernel
theorem dX10_patched_27 : decode cX10_patched 27 = .ok (.aload_n 0, 1) := by decide +kernel
theorem dX10_patched_28 : decode cX10_patched 28 = .ok (.iload_n 1, 1) := by decide +kernel
theorem dX10_patched_29 : decode cX10_patched 29 = .ok (.iload_n 3, 1) := by decide +kernel
theorem dX10_patched_30 : decode cX10_patched 30 = .ok (.iconst 1, 1) := by decide +kernel
theorem dX10_patched_31 : decode cX10_patched 31 = .ok (.invokevirtual 73, 3) := by decide +kernel
theorem dX10_patched_34 : decode cX10_patched 34 = .ok (.ifCond .ne 7, 3) := by decide +kernel
theorem dX10_patched_37 : decode cX10_patched 37 = .ok (.iconst 0, 1) := by decide +kernel
theorem dX10_patched_38 : decode cX10_patched 38 = .ok (.goto 4, 3) := by decide +kernel
theorem dX10_patched_41 : decode cX10_patched 41 = .ok (.iconst (-1), 1) := by decide +kernel
theorem dX10_patched_42 : decode cX10_patched 42 = .ok (.istore 4, 2) := by decide +kernel
theorem dX10_patched_44 : decode cX10_patched 44 = .ok (.aload_n 0, 1) := by decide +kernel
theorem dX10_patched_45 : decode cX10_patched 45 = .ok (.iload_n 1, 1) := by decide +kernel
theorem dX10_patched_46 : decode cX10_patched 46 = .ok (.iload_n 3, 1) := by decide +kernel
theorem dX10_patched_47 : decode cX10_patched 47 = .ok (.invokevirtual 80, 3) := by decide +kernel
theorem dX10_patched_50 : decode cX10_patched 50 = .ok (.istore 5, 2) := by decide +kernel
theorem dX10_patched_52 : decode cX10_patched 52 = .ok (.iload 5, 2) := by decide +kernel
theorem dX10_patched_54 : decode cX10_patched 54 = .ok (.iload_n 2, 1) := by decide +kernel
theorem dX10_patched_55 : decode cX10_patched 55 = .ok (.if_icmp .ge 29, 3) := by decide +kernel
theorem dX10_patched_58 : decode cX10_patched 58 = .ok (.iload 4, 2) := by decide +kernel
theorem dX10_patched_60 : decode cX10_patched 60 = .ok (.aload_n 0, 1) := by decide +kernel
theorem dX10_patched_61 : decode cX10_patched 61 = .ok (.iload_n 1, 1) := by decide +kernel
theorem dX10_patched_62 : decode cX10_patched 62 = .ok (.iload 5, 2) := by decide +kernel
theorem dX10_patched_64 : decode cX10_patched 64 = .ok (.invokevirtual 97, 3) := by decide +kernel
theorem dX10_patched_67 : decode cX10_patched 67 = .ok (.ifCond .eq 7, 3) := by decide +kernel
theorem dX10_patched_70 : decode cX10_patched 70 = .ok (.iconst 0, 1) := by decide +kernel
theorem dX10_patched_71 : decode cX10_patched 71 = .ok (.goto 4, 3) := by decide +kernel
theorem dX10_patched_74 : decode cX10_patched 74 = .ok (.iconst 1, 1) := by decide +kernel
theorem dX10_patched_75 : decode cX10_patched 75 = .ok (.iadd, 1) := by decide +kernel
theorem dX10_patched_76 : decode cX10_patched 76 = .ok (.istore 4, 2) := by decide +kernel
theorem dX10_patched_78 : decode cX10_patched 78 = .ok (.iinc 5 1, 3) := by decide +kernel
theorem dX10_patched_81 : decode cX10_patched 81 = .ok (.goto (-29), 3) := by decide +kernel
theorem dX10_patched_84 : decode cX10_patched 84 = .ok (.aload_n 0, 1) := by decide +kernel
theorem dX10_patched_85 : decode cX10_patched 85 = .ok (.iload_n 1, 1) := by decide +kernel
theorem dX10_patched_86 : decode cX10_patched 86 = .ok (.iload_n 3, 1) := by decide +kernel
theorem dX10_patched_87 : decode cX10_patched 87 = .ok (.invokevirtual 174, 3) := by decide +kernel
theorem dX10_patched_90 : decode cX10_patched 90 = .ok (.iload 4, 2) := by decide +kernel
theorem dX10_patched_92 : decode cX10_patched 92 = .ok (.ifCond .lt 27, 3) := by decide +kernel
theorem dX10_patched_95 : decode cX10_patched 95 = .ok (.aload_n 0, 1) := by decide +kernel
theorem dX10_patched_96 : decode cX10_patched 96 = .ok (.getfield 19, 3) := by decide +kernel
theorem dX10_patched_99 : decode cX10_patched 99 = .ok (.iload 4, 2) := by decide +kernel
theorem dX10_patched_101 : decode cX10_patched 101 = .ok (.laload, 1) := by decide +kernel
theorem dX10_patched_102 : decode cX10_patched 102 = .ok (.invokestatic 128, 3) := by decide +kernel
theorem dX10_patched_105 : decode cX10_patched 105 = .ok (.aload_n 0, 1) := by decide +kernel
theorem dX10_patched_106 : decode cX10_patched 106 = .ok (.iload_n 1, 1) := by decide +kernel
theorem dX10_patched_107 : decode cX10_patched 107 = .ok (.iload_n 3, 1) := by decide +kernel
theorem dX10_patched_108 : decode cX10_patched 108 = .ok (.iconst 2, 1) := by decide +kernel
theorem dX10_patched_109 : decode cX10_patched 109 = .ok (.invokevirtual 73, 3) := by decide +kernel
theorem dX10_patched_112 : decode cX10_patched 112 = .ok (.if_icmp .le 7, 3) := by decide +kernel
theorem dX10_patched_115 : decode cX10_patched 115 = .ok (.iconst 1, 1) := by decide +kernel
theorem dX10_patched_116 : decode cX10_patched 116 = .ok (.goto 4, 3) := by decide +kernel
theorem dX10_patched_119 : decode cX10_patched 119 = .ok (.iconst 0, 1) := by decide +kernel
theorem dX10_patched_120 : decode cX10_patched 120 = .ok (.ireturn, 1) := by decide +kernel
theorem dX10_skipped_0 : decode cX10_skipped 0 = .ok (.iload_n 1, 1) := by decide +kernel
theorem dX10_skipped_1 : decode cX10_skipped 1 = .ok (.invokestatic 84, 3) := by decide +kernel
theorem dX10_skipped_4 : decode cX10_skipped 4 = .ok (.ifCond .ne 5, 3) := by decide +kernel
theorem dX10_skipped_7 : decode cX10_skipped 7 = .ok (.iconst (-1), 1) := by decide +kernel
theorem dX10_skipped_8 : decode cX10_skipped 8 = .ok (.ireturn, 1) := by decide +kernel
theorem dX10_skipped_9 : decode cX10_skipped 9 = .ok (.iconst 0, 1) := by decide +kernel
theorem dX10_skipped_10 : decode cX10_skipped 10 = .ok (.istore 4, 2) := by decide +kernel
theorem dX10_skipped_12 : decode cX10_skipped 12 = .ok (.iconst 0, 1) := by decide +kernel
theorem dX10_skipped_13 : decode cX10_skipped 13 = .ok (.istore 5, 2) := by decide +kernel
theorem dX10_skipped_15 : decode cX10_skipped 15 = .ok (.iload 5, 2) := by decide +kernel
theorem dX10_skipped_17 : decode cX10_skipped 17 = .ok (.aload_n 0, 1) := by decide +kernel
theorem dX10_skipped_18 : decode cX10_skipped 18 = .ok (.iload_n 1, 1) := by decide +kernel
theorem dX10_skipped_19 : decode cX10_skipped 19 = .ok (.invokevirtual 77, 3) := by decide +kernel
theorem dX10_skipped_22 : decode cX10_skipped 22 = .ok (.if_icmp .ge 31, 3) := by decide +kernel
theorem dX10_skipped_25 : decode cX10_skipped 25 = .ok (.iload 4, 2) := by decide +kernel
theorem dX10_skipped_27 : decode cX10_skipped 27 = .ok (.aload_n 0, 1) := by decide +kernel
theorem dX10_skipped_28 : decode cX10_skipped 28 = .ok (.iload_n 1, 1) := by decide +kernel
theorem dX10_skipped_29 : decode cX10_skipped 29 = .ok (.iload 5, 2) := by decide +kernel
theorem dX10_skipped_31 : decode cX10_skipped 31 = .ok (.iload_n 2, 1) := by decide +kernel
theorem dX10_skipped_32 : decode cX10_skipped 32 = .ok (.iload_n 3, 1) := by decide +kernel
theorem dX10_skipped_33 : decode cX10_skipped 33 = .ok (.invokevirtual 390, 3) := by decide +kernel
theorem dX10_skipped_36 : decode cX10_skipped 36 = .ok (.ifCond .eq 7, 3) := by decide +kernel
theorem dX10_skipped_39 : decode cX10_skipped 39 = .ok (.iconst 1, 1) := by decide +kernel
theorem dX10_skipped_40 : decode cX10_skipped 40 = .ok (.goto 4, 3) := by decide +kernel
theorem dX10_skipped_43 : decode cX10_skipped 43 = .ok (.iconst 0, 1) := by decide +kernel
theorem dX10_skipped_44 : decode cX10_skipped 44 = .ok (.iadd, 1) := by decide +kernel
theorem dX10_skipped_45 : decode cX10_skipped 45 = .ok (.istore 4, 2) := by decide +kernel
theorem dX10_skipped_47 : decode cX10_skipped 47 = .ok (.iinc 5 1, 3) := by decide +kernel
theorem dX10_skipped_50 : decode cX10_skipped 50 = .ok (.goto (-35), 3) := by decide +kernel
theorem dX10_skipped_53 : decode cX10_skipped 53 = .ok (.iload 4, 2) := by decide +kernel
theorem dX10_skipped_55 : decode cX10_skipped 55 = .ok (.ireturn, 1) := by decide +kernel
theorem dX10_ranked_0 : decode cX10_ranked 0 = .ok (.iload_n 1, 1) := by decide +kernel
theorem dX10_ranked_1 : decode cX10_ranked 1 = .ok (.invokestatic 84, 3) := by decide +kernel
theorem dX10_ranked_4 : decode cX10_ranked 4 = .ok (.ifCond .eq 18, 3) := by decide +kernel
theorem dX10_ranked_7 : decode cX10_ranked 7 = .ok (.iload_n 2, 1) := by decide +kernel
theorem dX10_ranked_8 : decode cX10_ranked 8 = .ok (.iconst 0, 1) := by decide +kernel
theorem dX10_ranked_9 : decode cX10_ranked 9 = .ok (.aload_n 0, 1) := by decide +kernel
theorem dX10_ranked_10 : decode cX10_ranked 10 = .ok (.iload_n 1, 1) := by decide +kernel
theorem dX10_ranked_11 : decode cX10_ranked 11 = .ok (.invokevirtual 240, 3) := by decide +kernel
theorem dX10_ranked_14 : decode cX10_ranked 14 = .ok (.iconst 1, 1) := by decide +kernel
theorem dX10_ranked_15 : decode cX10_ranked 15 = .ok (.isub, 1) := by decide +kernel
theorem dX10_ranked_16 : decode cX10_ranked 16 = .ok (.invokestatic 65, 3) := by decide +kernel
theorem dX10_ranked_19 : decode cX10_ranked 19 = .ok (.ifCond .ne 7, 3) := by decide +kernel
theorem dX10_ranked_22 : decode cX10_ranked 22 = .ok (.ldc2_w 361, 3) := by decide +kernel
theorem dX10_ranked_25 : decode cX10_ranked 25 = .ok (.lreturn, 1) := by decide +kernel
theorem dX10_ranked_26 : decode cX10_ranked 26 = .ok (.aload_n 0, 1) := by decide +kernel
theorem dX10_ranked_27 : decode cX10_ranked 27 = .ok (.iload_n 1, 1) := by decide +kernel
theorem dX10_ranked_28 : decode cX10_ranked 28 = .ok (.iconst 0, 1) := by decide +kernel
theorem dX10_ranked_29 : decode cX10_ranked 29 = .ok (.invokevirtual 243, 3) := by decide +kernel
theorem dX10_ranked_32 : decode cX10_ranked 32 = .ok (.istore_n 3, 1) := by decide +kernel
theorem dX10_ranked_33 : decode cX10_ranked 33 = .ok (.aload_n 0, 1) := by decide +kernel
theorem dX10_ranked_34 : decode cX10_ranked 34 = .ok (.getfield 26, 3) := by decide +kernel
theorem dX10_ranked_37 : decode cX10_ranked 37 = .ok (.iload_n 2, 1) := by decide +kernel
theorem dX10_ranked_38 : decode cX10_ranked 38 = .ok (.iaload, 1) := by decide +kernel
theorem dX10_ranked_39 : decode cX10_ranked 39 = .ok (.i2l, 1) := by decide +kernel
theorem dX10_ranked_40 : decode cX10_ranked 40 = .ok (.lreturn, 1) := by decide +kernel
theorem dX10_distinct_0 : decode cX10_distinct 0 = .ok (.iload_n 1, 1) := by decide +kernel
theorem dX10_distinct_1 : decode cX10_distinct 1 = .ok (.invokestatic 84, 3) := by decide +kernel
theorem dX10_distinct_4 : decode cX10_distinct 4 = .ok (.ifCond .ne 5, 3) := by decide +kernel
theorem dX10_distinct_7 : decode cX10_distinct 7 = .ok (.iconst (-1), 1) := by decide +kernel
theorem dX10_distinct_8 : decode cX10_distinct 8 = .ok (.ireturn, 1) := by decide +kernel
theorem dX10_distinct_9 : decode cX10_distinct 9 = .ok (.aload_n 0, 1) := by decide +kernel
theorem dX10_distinct_10 : decode cX10_distinct 10 = .ok (.iload_n 1, 1) := by decide +kernel
theorem dX10_distinct_11 : decode cX10_distinct 11 = .ok (.iconst 0, 1) := by decide +kernel
theorem dX10_distinct_12 : decode cX10_distinct 12 = .ok (.invokevirtual 243, 3) := by decide +kernel
theorem dX10_distinct_15 : decode cX10_distinct 15 = .ok (.istore_n 2, 1) := by decide +kernel
theorem dX10_distinct_16 : decode cX10_distinct 16 = .ok (.iload_n 2, 1) := by decide +kernel
theorem dX10_distinct_17 : decode cX10_distinct 17 = .ok (.ifCond .ne 7, 3) := by decide +kernel
theorem dX10_distinct_20 : decode cX10_distinct 20 = .ok (.iconst 0, 1) := by decide +kernel
theorem dX10_distinct_21 : decode cX10_distinct 21 = .ok (.goto 4, 3) := by decide +kernel
theorem dX10_distinct_24 : decode cX10_distinct 24 = .ok (.iconst 1, 1) := by decide +kernel
theorem dX10_distinct_25 : decode cX10_distinct 25 = .ok (.istore_n 3, 1) := by decide +kernel
theorem dX10_distinct_26 : decode cX10_distinct 26 = .ok (.iconst 1, 1) := by decide +kernel
theorem dX10_distinct_27 : decode cX10_distinct 27 = .ok (.istore 4, 2) := by decide +kernel
theorem dX10_distinct_29 : decode cX10_distinct 29 = .ok (.iload 4, 2) := by decide +kernel
theorem dX10_distinct_31 : decode cX10_distinct 31 = .ok (.iload_n 2, 1) := by decide +kernel
theorem dX10_distinct_32 : decode cX10_distinct 32 = .ok (.if_icmp .ge 36, 3) := by decide +kernel
theorem dX10_distinct_35 : decode cX10_distinct 35 = .ok (.iload_n 3, 1) := by decide +kernel
theorem dX10_distinct_36 : decode cX10_distinct 36 = .ok (.aload_n 0, 1) := by decide +kernel
theorem dX10_distinct_37 : decode cX10_distinct 37 = .ok (.getfield 26, 3) := by decide +kernel
theorem dX10_distinct_40 : decode cX10_distinct 40 = .ok (.iload 4, 2) := by decide +kernel
theorem dX10_distinct_42 : decode cX10_distinct 42 = .ok (.iaload, 1) := by decide +kernel
theorem dX10_distinct_43 : decode cX10_distinct 43 = .ok (.aload_n 0, 1) := by decide +kernel
theorem dX10_distinct_44 : decode cX10_distinct 44 = .ok (.getfield 26, 3) := by decide +kernel
theorem dX10_distinct_47 : decode cX10_distinct 47 = .ok (.iload 4, 2) := by decide +kernel
theorem dX10_distinct_49 : decode cX10_distinct 49 = .ok (.iconst 1, 1) := by decide +kernel
theorem dX10_distinct_50 : decode cX10_distinct 50 = .ok (.isub, 1) := by decide +kernel
theorem dX10_distinct_51 : decode cX10_distinct 51 = .ok (.iaload, 1) := by decide +kernel
theorem dX10_distinct_52 : decode cX10_distinct 52 = .ok (.if_icmp .ne 7, 3) := by decide +kernel
theorem dX10_distinct_55 : decode cX10_distinct 55 = .ok (.iconst 0, 1) := by decide +kernel
theorem dX10_distinct_56 : decode cX10_distinct 56 = .ok (.goto 4, 3) := by decide +kernel
theorem dX10_distinct_59 : decode cX10_distinct 59 = .ok (.iconst 1, 1) := by decide +kernel
theorem dX10_distinct_60 : decode cX10_distinct 60 = .ok (.iadd, 1) := by decide +kernel
theorem dX10_distinct_61 : decode cX10_distinct 61 = .ok (.istore_n 3, 1) := by decide +kernel
theorem dX10_distinct_62 : decode cX10_distinct 62 = .ok (.iinc 4 1, 3) := by decide +kernel
theorem dX10_distinct_65 : decode cX10_distinct 65 = .ok (.goto (-36), 3) := by decide +kernel
theorem dX10_distinct_68 : decode cX10_distinct 68 = .ok (.iload_n 3, 1) := by decide +kernel
theorem dX10_distinct_69 : decode cX10_distinct 69 = .ok (.ireturn, 1) := by decide +kernel
theorem dX10_run_0 : decode cX10_run 0 = .ok (.iload_n 1, 1) := by decide +kernel
theorem dX10_run_1 : decode cX10_run 1 = .ok (.invokestatic 84, 3) := by decide +kernel
theorem dX10_run_4 : decode cX10_run 4 = .ok (.ifCond .ne 5, 3) := by decide +kernel
theorem dX10_run_7 : decode cX10_run 7 = .ok (.iconst (-1), 1) := by decide +kernel
theorem dX10_run_8 : decode cX10_run 8 = .ok (.ireturn, 1) := by decide +kernel
theorem dX10_run_9 : decode cX10_run 9 = .ok (.iconst 0, 1) := by decide +kernel
theorem dX10_run_10 : decode cX10_run 10 = .ok (.istore_n 2, 1) := by decide +kernel
theorem dX10_run_11 : decode cX10_run 11 = .ok (.iconst 0, 1) := by decide +kernel
theorem dX10_run_12 : decode cX10_run 12 = .ok (.istore_n 3, 1) := by decide +kernel
theorem dX10_run_13 : decode cX10_run 13 = .ok (.iconst 0, 1) := by decide +kernel
theorem dX10_run_14 : decode cX10_run 14 = .ok (.istore 4, 2) := by decide +kernel
theorem dX10_run_16 : decode cX10_run 16 = .ok (.iconst 0, 1) := by decide +kernel
theorem dX10_run_17 : decode cX10_run 17 = .ok (.istore 5, 2) := by decide +kernel
theorem dX10_run_19 : decode cX10_run 19 = .ok (.iload 5, 2) := by decide +kernel
theorem dX10_run_21 : decode cX10_run 21 = .ok (.aload_n 0, 1) := by decide +kernel
theorem dX10_run_22 : decode cX10_run 22 = .ok (.iload_n 1, 1) := by decide +kernel
theorem dX10_run_23 : decode cX10_run 23 = .ok (.invokevirtual 88, 3) := by decide +kernel
theorem dX10_run_26 : decode cX10_run 26 = .ok (.if_icmp .ge 66, 3) := by decide +kernel
theorem dX10_run_29 : decode cX10_run 29 = .ok (.aload_n 0, 1) := by decide +kernel
theorem dX10_run_30 : decode cX10_run 30 = .ok (.iload_n 1, 1) := by decide +kernel
theorem dX10_run_31 : decode cX10_run 31 = .ok (.iload 5, 2) := by decide +kernel
theorem dX10_run_33 : decode cX10_run 33 = .ok (.invokevirtual 97, 3) := by decide +kernel
theorem dX10_run_36 : decode cX10_run 36 = .ok (.ifCond .eq 6, 3) := by decide +kernel
theorem dX10_run_39 : decode cX10_run 39 = .ok (.goto 47, 3) := by decide +kernel
theorem dX10_run_42 : decode cX10_run 42 = .ok (.iload_n 3, 1) := by decide +kernel
theorem dX10_run_43 : decode cX10_run 43 = .ok (.ifCond .le 21, 3) := by decide +kernel
theorem dX10_run_46 : decode cX10_run 46 = .ok (.aload_n 0, 1) := by decide +kernel
theorem dX10_run_47 : decode cX10_run 47 = .ok (.iload_n 1, 1) := by decide +kernel
theorem dX10_run_48 : decode cX10_run 48 = .ok (.iload 5, 2) := by decide +kernel
theorem dX10_run_50 : decode cX10_run 50 = .ok (.invokevirtual 101, 3) := by decide +kernel
theorem dX10_run_53 : decode cX10_run 53 = .ok (.iload 4, 2) := by decide +kernel
theorem dX10_run_55 : decode cX10_run 55 = .ok (.if_icmp .ne 9, 3) := by decide +kernel
theorem dX10_run_58 : decode cX10_run 58 = .ok (.iload_n 3, 1) := by decide +kernel
theorem dX10_run_59 : decode cX10_run 59 = .ok (.iconst 1, 1) := by decide +kernel
theorem dX10_run_60 : decode cX10_run 60 = .ok (.iadd, 1) := by decide +kernel
theorem dX10_run_61 : decode cX10_run 61 = .ok (.goto 4, 3) := by decide +kernel
theorem dX10_run_64 : decode cX10_run 64 = .ok (.iconst 1, 1) := by decide +kernel
theorem dX10_run_65 : decode cX10_run 65 = .ok (.istore_n 3, 1) := by decide +kernel
theorem dX10_run_66 : decode cX10_run 66 = .ok (.aload_n 0, 1) := by decide +kernel
theorem dX10_run_67 : decode cX10_run 67 = .ok (.iload_n 1, 1) := by decide +kernel
theorem dX10_run_68 : decode cX10_run 68 = .ok (.iload 5, 2) := by decide +kernel
theorem dX10_run_70 : decode cX10_run 70 = .ok (.invokevirtual 101, 3) := by decide +kernel
theorem dX10_run_73 : decode cX10_run 73 = .ok (.istore 4, 2) := by decide +kernel
theorem dX10_run_75 : decode cX10_run 75 = .ok (.iload_n 3, 1) := by decide +kernel
theorem dX10_run_76 : decode cX10_run 76 = .ok (.iload_n 2, 1) := by decide +kernel
theorem dX10_run_77 : decode cX10_run 77 = .ok (.if_icmp .le 7, 3) := by decide +kernel
theorem dX10_run_80 : decode cX10_run 80 = .ok (.iload_n 3, 1) := by decide +kernel
theorem dX10_run_81 : decode cX10_run 81 = .ok (.goto 4, 3) := by decide +kernel
theorem dX10_run_84 : decode cX10_run 84 = .ok (.iload_n 2, 1) := by decide +kernel
theorem dX10_run_85 : decode cX10_run 85 = .ok (.istore_n 2, 1) := by decide +kernel
theorem dX10_run_86 : decode cX10_run 86 = .ok (.iinc 5 1, 3) := by decide +kernel
theorem dX10_run_89 : decode cX10_run 89 = .ok (.goto (-70), 3) := by decide +kernel
theorem dX10_run_92 : decode cX10_run 92 = .ok (.iload_n 2, 1) := by decide +kernel
theorem dX10_run_93 : decode cX10_run 93 = .ok (.ireturn, 1) := by decide +kernel
theorem dX10_unlike_0 : decode cX10_unlike 0 = .ok (.iload_n 1, 1) := by decide +kernel
theorem dX10_unlike_1 : decode cX10_unlike 1 = .ok (.invokestatic 84, 3) := by decide +kernel
theorem dX10_unlike_4 : decode cX10_unlike 4 = .ok (.ifCond .eq 10, 3) := by decide +kernel
theorem dX10_unlike_7 : decode cX10_unlike 7 = .ok (.iload_n 2, 1) := by decide +kernel
theorem dX10_unlike_8 : decode cX10_unlike 8 = .ok (.invokestatic 84, 3) := by decide +kernel
theorem dX10_unlike_11 : decode cX10_unlike 11 = .ok (.ifCond .ne 5, 3) := by decide +kernel
theorem dX10_unlike_14 : decode cX10_unlike 14 = .ok (.iconst (-1), 1) := by decide +kernel
theorem dX10_unlike_15 : decode cX10_unlike 15 = .ok (.ireturn, 1) := by decide +kernel
theorem dX10_unlike_16 : decode cX10_unlike 16 = .ok (.iconst 0, 1) := by decide +kernel
theorem dX10_unlike_17 : decode cX10_unlike 17 = .ok (.istore_n 3, 1) := by decide +kernel
theorem dX10_unlike_18 : decode cX10_unlike 18 = .ok (.iload_n 3, 1) := by decide +kernel
theorem dX10_unlike_19 : decode cX10_unlike 19 = .ok (.sipush 128, 3) := by decide +kernel
theorem dX10_unlike_22 : decode cX10_unlike 22 = .ok (.if_icmp .ge 27, 3) := by decide +kernel
theorem dX10_unlike_25 : decode cX10_unlike 25 = .ok (.aload_n 0, 1) := by decide +kernel
theorem dX10_unlike_26 : decode cX10_unlike 26 = .ok (.iload_n 1, 1) := by decide +kernel
theorem dX10_unlike_27 : decode cX10_unlike 27 = .ok (.iload_n 3, 1) := by decide +kernel
theorem dX10_unlike_28 : decode cX10_unlike 28 = .ok (.invokevirtual 393, 3) := by decide +kernel
theorem dX10_unlike_31 : decode cX10_unlike 31 = .ok (.aload_n 0, 1) := by decide +kernel
theorem dX10_unlike_32 : decode cX10_unlike 32 = .ok (.iload_n 2, 1) := by decide +kernel
theorem dX10_unlike_33 : decode cX10_unlike 33 = .ok (.iload_n 3, 1) := by decide +kernel
theorem dX10_unlike_34 : decode cX10_unlike 34 = .ok (.invokevirtual 393, 3) := by decide +kernel
theorem dX10_unlike_37 : decode cX10_unlike 37 = .ok (.lcmp, 1) := by decide +kernel
theorem dX10_unlike_38 : decode cX10_unlike 38 = .ok (.ifCond .eq 5, 3) := by decide +kernel
theorem dX10_unlike_41 : decode cX10_unlike 41 = .ok (.iload_n 3, 1) := by decide +kernel
theorem dX10_unlike_42 : decode cX10_unlike 42 = .ok (.ireturn, 1) := by decide +kernel
theorem dX10_unlike_43 : decode cX10_unlike 43 = .ok (.iinc 3 1, 3) := by decide +kernel
theorem dX10_unlike_46 : decode cX10_unlike 46 = .ok (.goto (-28), 3) := by decide +kernel
theorem dX10_unlike_49 : decode cX10_unlike 49 = .ok (.iconst (-1), 1) := by decide +kernel
theorem dX10_unlike_50 : decode cX10_unlike 50 = .ok (.ireturn, 1) := by decide +kernel
theorem dX10_alike_0 : decode cX10_alike 0 = .ok (.iload_n 1, 1) := by decide +kernel
theorem dX10_alike_1 : decode cX10_alike 1 = .ok (.invokestatic 84, 3) := by decide +kernel
theorem dX10_alike_4 : decode cX10_alike 4 = .ok (.ifCond .eq 24, 3) := by decide +kernel
theorem dX10_alike_7 : decode cX10_alike 7 = .ok (.iload_n 2, 1) := by decide +kernel
theorem dX10_alike_8 : decode cX10_alike 8 = .ok (.invokestatic 84, 3) := by decide +kernel
theorem dX10_alike_11 : decode cX10_alike 11 = .ok (.ifCond .eq 17, 3) := by decide +kernel
theorem dX10_alike_14 : decode cX10_alike 14 = .ok (.aload_n 0, 1) := by decide +kernel
theorem dX10_alike_15 : decode cX10_alike 15 = .ok (.iload_n 1, 1) := by decide +kernel
theorem dX10_alike_16 : decode cX10_alike 16 = .ok (.iload_n 2, 1) := by decide +kernel
theorem dX10_alike_17 : decode cX10_alike 17 = .ok (.invokevirtual 397, 3) := by decide +kernel
theorem dX10_alike_20 : decode cX10_alike 20 = .ok (.iconst (-1), 1) := by decide +kernel
theorem dX10_alike_21 : decode cX10_alike 21 = .ok (.if_icmp .ne 7, 3) := by decide +kernel
theorem dX10_alike_24 : decode cX10_alike 24 = .ok (.iconst 1, 1) := by decide +kernel
theorem dX10_alike_25 : decode cX10_alike 25 = .ok (.goto 4, 3) := by decide +kernel
theorem dX10_alike_28 : decode cX10_alike 28 = .ok (.iconst 0, 1) := by decide +kernel
theorem dX10_alike_29 : decode cX10_alike 29 = .ok (.ireturn, 1) := by decide +kernel
theorem dX10_ratio_0 : decode cX10_ratio 0 = .ok (.iload_n 1, 1) := by decide +kernel
theorem dX10_ratio_1 : decode cX10_ratio 1 = .ok (.invokestatic 84, 3) := by decide +kernel
theorem dX10_ratio_4 : decode cX10_ratio 4 = .ok (.ifCond .eq 11, 3) := by decide +kernel
theorem dX10_ratio_7 : decode cX10_ratio 7 = .ok (.aload_n 0, 1) := by decide +kernel
theorem dX10_ratio_8 : decode cX10_ratio 8 = .ok (.iload_n 1, 1) := by decide +kernel
theorem dX10_ratio_9 : decode cX10_ratio 9 = .ok (.invokevirtual 88, 3) := by decide +kernel
theorem dX10_ratio_12 : decode cX10_ratio 12 = .ok (.ifCond .ne 5, 3) := by decide +kernel
theorem dX10_ratio_15 : decode cX10_ratio 15 = .ok (.lconst 0, 1) := by decide +kernel
theorem dX10_ratio_16 : decode cX10_ratio 16 = .ok (.lreturn, 1) := by decide +kernel
theorem dX10_ratio_17 : decode cX10_ratio 17 = .ok (.aload_n 0, 1) := by decide +kernel
theorem dX10_ratio_18 : decode cX10_ratio 18 = .ok (.iload_n 1, 1) := by decide +kernel
theorem dX10_ratio_19 : decode cX10_ratio 19 = .ok (.invokevirtual 216, 3) := by decide +kernel
theorem dX10_ratio_22 : decode cX10_ratio 22 = .ok (.i2d, 1) := by decide +kernel
theorem dX10_ratio_23 : decode cX10_ratio 23 = .ok (.bipush 32, 2) := by decide +kernel
theorem dX10_ratio_25 : decode cX10_ratio 25 = .ok (.aload_n 0, 1) := by decide +kernel
theorem dX10_ratio_26 : decode cX10_ratio 26 = .ok (.iload_n 1, 1) := by decide +kernel
theorem dX10_ratio_27 : decode cX10_ratio 27 = .ok (.invokevirtual 88, 3) := by decide +kernel
theorem dX10_ratio_30 : decode cX10_ratio 30 = .ok (.imul, 1) := by decide +kernel
theorem dX10_ratio_31 : decode cX10_ratio 31 = .ok (.i2d, 1) := by decide +kernel
theorem dX10_ratio_32 : decode cX10_ratio 32 = .ok (.ddiv, 1) := by decide +kernel
theorem dX10_ratio_33 : decode cX10_ratio 33 = .ok (.invokestatic 400, 3) := by decide +kernel
theorem dX10_ratio_36 : decode cX10_ratio 36 = .ok (.lreturn, 1) := by decide +kernel
theorem dX10_placesOfAll_0 : decode cX10_placesOfAll 0 = .ok (.aload_n 0, 1) := by decide +kernel
theorem dX10_placesOfAll_1 : decode cX10_placesOfAll 1 = .ok (.iconst 0, 1) := by decide +kernel
theorem dX10_placesOfAll_2 : decode cX10_placesOfAll 2 = .ok (.invokevirtual 88, 3) := by decide +kernel
theorem dX10_placesOfAll_5 : decode cX10_placesOfAll 5 = .ok (.aload_n 0, 1) := by decide +kernel
theorem dX10_placesOfAll_6 : decode cX10_placesOfAll 6 = .ok (.iconst 1, 1) := by decide +kernel
theorem dX10_placesOfAll_7 : decode cX10_placesOfAll 7 = .ok (.invokevirtual 88, 3) := by decide +kernel
theorem dX10_placesOfAll_10 : decode cX10_placesOfAll 10 = .ok (.iadd, 1) := by decide +kernel
theorem dX10_placesOfAll_11 : decode cX10_placesOfAll 11 = .ok (.aload_n 0, 1) := by decide +kernel
theorem dX10_placesOfAll_12 : decode cX10_placesOfAll 12 = .ok (.iconst 2, 1) := by decide +kernel
theorem dX10_placesOfAll_13 : decode cX10_placesOfAll 13 = .ok (.invokevirtual 88, 3) := by decide +kernel
theorem dX10_placesOfAll_16 : decode cX10_placesOfAll 16 = .ok (.iadd, 1) := by decide +kernel
theorem dX10_placesOfAll_17 : decode cX10_placesOfAll 17 = .ok (.ireturn, 1) := by decide +kernel
theorem dX10_image_0 : decode cX10_image 0 = .ok (.aload_n 0, 1) := by decide +kernel
theorem dX10_image_1 : decode cX10_image 1 = .ok (.getfield 7, 3) := by decide +kernel
theorem dX10_image_4 : decode cX10_image 4 = .ok (.aload_n 0, 1) := by decide +kernel
theorem dX10_image_5 : decode cX10_image 5 = .ok (.getfield 13, 3) := by decide +kernel
theorem dX10_image_8 : decode cX10_image 8 = .ok (.invokestatic 61, 3) := by decide +kernel
theorem dX10_image_11 : decode cX10_image 11 = .ok (.aload_n 0, 1) := by decide +kernel
theorem dX10_image_12 : decode cX10_image 12 = .ok (.invokevirtual 406, 3) := by decide +kernel
theorem dX10_image_15 : decode cX10_image 15 = .ok (.ireturn, 1) := by decide +kernel
theorem dX10_back_0 : decode cX10_back 0 = .ok (.aload_n 0, 1) := by decide +kernel
theorem dX10_back_1 : decode cX10_back 1 = .ok (.getfield 13, 3) := by decide +kernel
theorem dX10_back_4 : decode cX10_back 4 = .ok (.aload_n 0, 1) := by decide +kernel
theorem dX10_back_5 : decode cX10_back 5 = .ok (.getfield 7, 3) := by decide +kernel
theorem dX10_back_8 : decode cX10_back 8 = .ok (.invokestatic 61, 3) := by decide +kernel
theorem dX10_back_11 : decode cX10_back 11 = .ok (.aload_n 0, 1) := by decide +kernel
theorem dX10_back_12 : decode cX10_back 12 = .ok (.invokevirtual 406, 3) := by decide +kernel
theorem dX10_back_15 : decode cX10_back 15 = .ok (.ireturn, 1) := by decide +kernel
theorem dX10_about_0 : decode cX10_about 0 = .ok (.iload_n 1, 1) := by decide +kernel
theorem dX10_about_1 : decode cX10_about 1 = .ok (.tableswitch 57 0 3 #[31, 38, 45, 50], 31) := by decide +kernel
theorem dX10_about_32 : decode cX10_about 32 = .ok (.aload_n 0, 1) := by decide +kernel
theorem dX10_about_33 : decode cX10_about 33 = .ok (.getfield 7, 3) := by decide +kernel
theorem dX10_about_36 : decode cX10_about 36 = .ok (.iconst 3, 1) := by decide +kernel
theorem dX10_about_37 : decode cX10_about 37 = .ok (.iaload, 1) := by decide +kernel
theorem dX10_about_38 : decode cX10_about 38 = .ok (.ireturn, 1) := by decide +kernel
theorem dX10_about_39 : decode cX10_about 39 = .ok (.aload_n 0, 1) := by decide +kernel
theorem dX10_about_40 : decode cX10_about 40 = .ok (.getfield 7, 3) := by decide +kernel
theorem dX10_about_43 : decode cX10_about 43 = .ok (.iconst 0, 1) := by decide +kernel
theorem dX10_about_44 : decode cX10_about 44 = .ok (.iaload, 1) := by decide +kernel
theorem dX10_about_45 : decode cX10_about 45 = .ok (.ireturn, 1) := by decide +kernel
theorem dX10_about_46 : decode cX10_about 46 = .ok (.aload_n 0, 1) := by decide +kernel
theorem dX10_about_47 : decode cX10_about 47 = .ok (.getfield 287, 3) := by decide +kernel
theorem dX10_about_50 : decode cX10_about 50 = .ok (.ireturn, 1) := by decide +kernel
theorem dX10_about_51 : decode cX10_about 51 = .ok (.aload_n 0, 1) := by decide +kernel
theorem dX10_about_52 : decode cX10_about 52 = .ok (.getfield 7, 3) := by decide +kernel
theorem dX10_about_55 : decode cX10_about 55 = .ok (.iconst 2, 1) := by decide +kernel
theorem dX10_about_56 : decode cX10_about 56 = .ok (.iaload, 1) := by decide +kernel
theorem dX10_about_57 : decode cX10_about 57 = .ok (.ireturn, 1) := by decide +kernel
theorem dX10_about_58 : decode cX10_about 58 = .ok (.iconst (-1), 1) := by decide +kernel
theorem dX10_about_59 : decode cX10_about 59 = .ok (.ireturn, 1) := by decide +kernel

