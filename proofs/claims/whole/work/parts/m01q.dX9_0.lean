theorem dX9_init_0 : decode cX9_init 0 = .ok (.aload_n 0, 1) := by decide +kernel
theorem dX9_init_1 : decode cX9_init 1 = .ok (.invokespecial 3, 3) := by decide +kernel
theorem dX9_init_4 : decode cX9_init 4 = .ok (.aload_n 0, 1) := by decide +kernel
theorem dX9_init_5 : decode cX9_init 5 = .ok (.new 9, 3) := by decide +kernel
theorem dX9_init_8 : decode cX9_init 8 = .ok (.dup, 1) := by decide +kernel
theorem dX9_init_9 : decode cX9_init 9 = .ok (.invokespecial 11, 3) := by decide +kernel
theorem dX9_init_12 : decode cX9_init 12 = .ok (.putfield 12, 3) := by decide +kernel
theorem dX9_init_15 : decode cX9_init 15 = .ok (.aload_n 0, 1) := by decide +kernel
theorem dX9_init_16 : decode cX9_init 16 = .ok (.new 16, 3) := by decide +kernel
theorem dX9_init_19 : decode cX9_init 19 = .ok (.dup, 1) := by decide +kernel
theorem dX9_init_20 : decode cX9_init 20 = .ok (.invokespecial 18, 3) := by decide +kernel
theorem dX9_init_23 : decode cX9_init 23 = .ok (.putfield 19, 3) := by decide +kernel
theorem dX9_init_26 : decode cX9_init 26 = .ok (.aload_n 0, 1) := by decide +kernel
theorem dX9_init_27 : decode cX9_init 27 = .ok (.new 9, 3) := by decide +kernel
theorem dX9_init_30 : decode cX9_init 30 = .ok (.dup, 1) := by decide +kernel
theorem dX9_init_31 : decode cX9_init 31 = .ok (.invokespecial 11, 3) := by decide +kernel
theorem dX9_init_34 : decode cX9_init 34 = .ok (.putfield 23, 3) := by decide +kernel
theorem dX9_init_37 : decode cX9_init 37 = .ok (.aload_n 0, 1) := by decide +kernel
theorem dX9_init_38 : decode cX9_init 38 = .ok (.new 16, 3) := by decide +kernel
theorem dX9_init_41 : decode cX9_init 41 = .ok (.dup, 1) := by decide +kernel
theorem dX9_init_42 : decode cX9_init 42 = .ok (.invokespecial 18, 3) := by decide +kernel
theorem dX9_init_45 : decode cX9_init 45 = .ok (.putfield 26, 3) := by decide +kernel
theorem dX9_init_48 : decode cX9_init 48 = .ok (.aload_n 0, 1) := by decide +kernel
theorem dX9_init_49 : decode cX9_init 49 = .ok (.new 29, 3) := by decide +kernel
theorem dX9_init_52 : decode cX9_init 52 = .ok (.dup, 1) := by decide +kernel
theorem dX9_init_53 : decode cX9_init 53 = .ok (.invokespecial 31, 3) := by decide +kernel
theorem dX9_init_56 : decode cX9_init 56 = .ok (.putfield 32, 3) := by decide +kernel
theorem dX9_init_59 : decode cX9_init 59 = .ok (.aload_n 0, 1) := by decide +kernel
theorem dX9_init_60 : decode cX9_init 60 = .ok (.new 36, 3) := by decide +kernel
theorem dX9_init_63 : decode cX9_init 63 = .ok (.dup, 1) := by decide +kernel
theorem dX9_init_64 : decode cX9_init 64 = .ok (.invokespecial 38, 3) := by decide +kernel
theorem dX9_init_67 : decode cX9_init 67 = .ok (.putfield 39, 3) := by decide +kernel
theorem dX9_init_70 : decode cX9_init 70 = .ok (.aload_n 0, 1) := by decide +kernel
theorem dX9_init_71 : decode cX9_init 71 = .ok (.new 43, 3) := by decide +kernel
theorem dX9_init_74 : decode cX9_init 74 = .ok (.dup, 1) := by decide +kernel
theorem dX9_init_75 : decode cX9_init 75 = .ok (.invokespecial 45, 3) := by decide +kernel
theorem dX9_init_78 : decode cX9_init 78 = .ok (.putfield 46, 3) := by decide +kernel
theorem dX9_init_81 : decode cX9_init 81 = .ok (.aload_n 0, 1) := by decide +kernel
theorem dX9_init_82 : decode cX9_init 82 = .ok (.new 50, 3) := by decide +kernel
theorem dX9_init_85 : decode cX9_init 85 = .ok (.dup, 1) := by decide +kernel
theorem dX9_init_86 : decode cX9_init 86 = .ok (.aload_n 0, 1) := by decide +kernel
theorem dX9_init_87 : decode cX9_init 87 = .ok (.getfield 32, 3) := by decide +kernel
theorem dX9_init_90 : decode cX9_init 90 = .ok (.invokespecial 52, 3) := by decide +kernel
theorem dX9_init_93 : decode cX9_init 93 = .ok (.putfield 55, 3) := by decide +kernel
theorem dX9_init_96 : decode cX9_init 96 = .ok (.aload_n 0, 1) := by decide +kernel
theorem dX9_init_97 : decode cX9_init 97 = .ok (.new 59, 3) := by decide +kernel
theorem dX9_init_100 : decode cX9_init 100 = .ok (.dup, 1) := by decide +kernel
theorem dX9_init_101 : decode cX9_init 101 = .ok (.invokespecial 61, 3) := by decide +kernel
theorem dX9_init_104 : decode cX9_init 104 = .ok (.putfield 62, 3) := by decide +kernel
theorem dX9_init_107 : decode cX9_init 107 = .ok (.aload_n 0, 1) := by decide +kernel
theorem dX9_init_108 : decode cX9_init 108 = .ok (.new 66, 3) := by decide +kernel
theorem dX9_init_111 : decode cX9_init 111 = .ok (.dup, 1) := by decide +kernel
theorem dX9_init_112 : decode cX9_init 112 = .ok (.invokespecial 68, 3) := by decide +kernel
theorem dX9_init_115 : decode cX9_init 115 = .ok (.putfield 69, 3) := by decide +kernel
theorem dX9_init_118 : decode cX9_init 118 = .ok (.return_, 1) := by decide +kernel
theorem dX9_put_0 : decode cX9_put 0 = .ok (.aload_n 0, 1) := by decide +kernel
theorem dX9_put_1 : decode cX9_put 1 = .ok (.iload_n 1, 1) := by decide +kernel
theorem dX9_put_2 : decode cX9_put 2 = .ok (.i2l, 1) := by decide +kernel
theorem dX9_put_3 : decode cX9_put 3 = .ok (.invokevirtual 73, 3) := by decide +kernel
theorem dX9_put_6 : decode cX9_put 6 = .ok (.ireturn, 1) := by decide +kernel
theorem dX9_gap_0 : decode cX9_gap 0 = .ok (.aload_n 0, 1) := by decide +kernel
theorem dX9_gap_1 : decode cX9_gap 1 = .ok (.ldc2_w 77, 3) := by decide +kernel
theorem dX9_gap_4 : decode cX9_gap 4 = .ok (.invokevirtual 73, 3) := by decide +kernel
theorem dX9_gap_7 : decode cX9_gap 7 = .ok (.ireturn, 1) := by decide +kernel
theorem dX9_forget_0 : decode cX9_forget 0 = .ok (.aload_n 0, 1) := by decide +kernel
theorem dX9_forget_1 : decode cX9_forget 1 = .ok (.getfield 12, 3) := by decide +kernel
theorem dX9_forget_4 : decode cX9_forget 4 = .ok (.getfield 79, 3) := by decide +kernel
theorem dX9_forget_7 : decode cX9_forget 7 = .ok (.getfield 83, 3) := by decide +kernel
theorem dX9_forget_10 : decode cX9_forget 10 = .ok (.istore_n 1, 1) := by decide +kernel
theorem dX9_forget_11 : decode cX9_forget 11 = .ok (.aload_n 0, 1) := by decide +kernel
theorem dX9_forget_12 : decode cX9_forget 12 = .ok (.getfield 12, 3) := by decide +kernel
theorem dX9_forget_15 : decode cX9_forget 15 = .ok (.getfield 79, 3) := by decide +kernel
theorem dX9_forget_18 : decode cX9_forget 18 = .ok (.iconst 0, 1) := by decide +kernel
theorem dX9_forget_19 : decode cX9_forget 19 = .ok (.putfield 83, 3) := by decide +kernel
theorem dX9_forget_22 : decode cX9_forget 22 = .ok (.iload_n 1, 1) := by decide +kernel
theorem dX9_forget_23 : decode cX9_forget 23 = .ok (.ireturn, 1) := by decide +kernel
theorem dX9_flush_0 : decode cX9_flush 0 = .ok (.aload_n 0, 1) := by decide +kernel
theorem dX9_flush_1 : decode cX9_flush 1 = .ok (.iload_n 1, 1) := by decide +kernel
theorem dX9_flush_2 : decode cX9_flush 2 = .ok (.invokevirtual 89, 3) := by decide +kernel
theorem dX9_flush_5 : decode cX9_flush 5 = .ok (.astore_n 2, 1) := by decide +kernel
theorem dX9_flush_6 : decode cX9_flush 6 = .ok (.aload_n 0, 1) := by decide +kernel
theorem dX9_flush_7 : decode cX9_flush 7 = .ok (.getfield 12, 3) := by decide +kernel
theorem dX9_flush_10 : decode cX9_flush 10 = .ok (.getfield 79, 3) := by decide +kernel
theorem dX9_flush_13 : decode cX9_flush 13 = .ok (.getfield 83, 3) := by decide +kernel
theorem dX9_flush_16 : decode cX9_flush 16 = .ok (.istore_n 3, 1) := by decide +kernel
theorem dX9_flush_17 : decode cX9_flush 17 = .ok (.aload_n 2, 1) := by decide +kernel
theorem dX9_flush_18 : decode cX9_flush 18 = .ok (.ifnull 16, 3) := by decide +kernel
theorem dX9_flush_21 : decode cX9_flush 21 = .ok (.iload_n 3, 1) := by decide +kernel
theorem dX9_flush_22 : decode cX9_flush 22 = .ok (.ifCond .eq 12, 3) := by decide +kernel
theorem dX9_flush_25 : decode cX9_flush 25 = .ok (.aload_n 2, 1) := by decide +kernel
theorem dX9_flush_26 : decode cX9_flush 26 = .ok (.iload_n 3, 1) := by decide +kernel
theorem dX9_flush_27 : decode cX9_flush 27 = .ok (.iconst 1, 1) := by decide +kernel
theorem dX9_flush_28 : decode cX9_flush 28 = .ok (.invokevirtual 93, 3) := by decide +kernel
theorem dX9_flush_31 : decode cX9_flush 31 = .ok (.ifCond .ne 5, 3) := by decide +kernel
theorem dX9_flush_34 : decode cX9_flush 34 = .ok (.iconst (-1), 1) := by decide +kernel
theorem dX9_flush_35 : decode cX9_flush 35 = .ok (.ireturn, 1) := by decide +kernel
theorem dX9_flush_36 : decode cX9_flush 36 = .ok (.aload_n 0, 1) := by decide +kernel
theorem dX9_flush_37 : decode cX9_flush 37 = .ok (.getfield 19, 3) := by decide +kernel
theorem dX9_flush_40 : decode cX9_flush 40 = .ok (.aload_n 0, 1) := by decide +kernel
theorem dX9_flush_41 : decode cX9_flush 41 = .ok (.getfield 12, 3) := by decide +kernel
theorem dX9_flush_44 : decode cX9_flush 44 = .ok (.invokevirtual 97, 3) := by decide +kernel
theorem dX9_flush_47 : decode cX9_flush 47 = .ok (.aload_n 2, 1) := by decide +kernel
theorem dX9_flush_48 : decode cX9_flush 48 = .ok (.getfield 101, 3) := by decide +kernel
theorem dX9_flush_51 : decode cX9_flush 51 = .ok (.aload_n 0, 1) := by decide +kernel
theorem dX9_flush_52 : decode cX9_flush 52 = .ok (.getfield 12, 3) := by decide +kernel
theorem dX9_flush_55 : decode cX9_flush 55 = .ok (.getfield 79, 3) := by decide +kernel
theorem dX9_flush_58 : decode cX9_flush 58 = .ok (.iconst 0, 1) := by decide +kernel
theorem dX9_flush_59 : decode cX9_flush 59 = .ok (.iload_n 3, 1) := by decide +kernel
theorem dX9_flush_60 : decode cX9_flush 60 = .ok (.invokevirtual 104, 3) := by decide +kernel
theorem dX9_flush_63 : decode cX9_flush 63 = .ok (.aload_n 0, 1) := by decide +kernel
theorem dX9_flush_64 : decode cX9_flush 64 = .ok (.getfield 12, 3) := by decide +kernel
theorem dX9_flush_67 : decode cX9_flush 67 = .ok (.getfield 79, 3) := by decide +kernel
theorem dX9_flush_70 : decode cX9_flush 70 = .ok (.iconst 0, 1) := by decide +kernel
theorem dX9_flush_71 : decode cX9_flush 71 = .ok (.putfield 83, 3) := by decide +kernel
theorem dX9_flush_74 : decode cX9_flush 74 = .ok (.aload_n 2, 1) := by decide +kernel
theorem dX9_flush_75 : decode cX9_flush 75 = .ok (.aload_n 0, 1) := by decide +kernel
theorem dX9_flush_76 : decode cX9_flush 76 = .ok (.getfield 39, 3) := by decide +kernel
theorem dX9_flush_79 : decode cX9_flush 79 = .ok (.invokevirtual 108, 3) := by decide +kernel
theorem dX9_flush_82 : decode cX9_flush 82 = .ok (.pop, 1) := by decide +kernel
theorem dX9_flush_83 : decode cX9_flush 83 = .ok (.aload_n 2, 1) := by decide +kernel
theorem dX9_flush_84 : decode cX9_flush 84 = .ok (.aload_n 2, 1) := by decide +kernel
theorem dX9_flush_85 : decode cX9_flush 85 = .ok (.getfield 112, 3) := by decide +kernel
theorem dX9_flush_88 : decode cX9_flush 88 = .ok (.iconst 1, 1) := by decide +kernel
theorem dX9_flush_89 : decode cX9_flush 89 = .ok (.isub, 1) := by decide +kernel
theorem dX9_flush_90 : decode cX9_flush 90 = .ok (.iconst 5, 1) := by decide +kernel
theorem dX9_flush_91 : decode cX9_flush 91 = .ok (.invokevirtual 115, 3) := by decide +kernel
theorem dX9_flush_94 : decode cX9_flush 94 = .ok (.ireturn, 1) := by decide +kernel
theorem dX9_set_0 : decode cX9_set 0 = .ok (.aload_n 0, 1) := by decide +kernel
theorem dX9_set_1 : decode cX9_set 1 = .ok (.iload_n 1, 1) := by decide +kernel
theorem dX9_set_2 : decode cX9_set 2 = .ok (.iload_n 2, 1) := by decide +kernel
theorem dX9_set_3 : decode cX9_set 3 = .ok (.iload_n 3, 1) := by decide +kernel
theorem dX9_set_4 : decode cX9_set 4 = .ok (.i2l, 1) := by decide +kernel
theorem dX9_set_5 : decode cX9_set 5 = .ok (.invokevirtual 119, 3) := by decide +kernel
theorem dX9_set_8 : decode cX9_set 8 = .ok (.ireturn, 1) := by decide +kernel
theorem dX9_clear_0 : decode cX9_clear 0 = .ok (.aload_n 0, 1) := by decide +kernel
theorem dX9_clear_1 : decode cX9_clear 1 = .ok (.iload_n 1, 1) := by decide +kernel
theorem dX9_clear_2 : decode cX9_clear 2 = .ok (.iload_n 2, 1) := by decide +kernel
theorem dX9_clear_3 : decode cX9_clear 3 = .ok (.ldc2_w 77, 3) := by decide +kernel
theorem dX9_clear_6 : decode cX9_clear 6 = .ok (.invokevirtual 119, 3) := by decide +kernel
theorem dX9_clear_9 : decode cX9_clear 9 = .ok (.ireturn, 1) := by decide +kernel
theorem dX9_insert_0 : decode cX9_insert 0 = .ok (.aload_n 0, 1) := by decide +kernel
theorem dX9_insert_1 : decode cX9_insert 1 = .ok (.iload_n 1, 1) := by decide +kernel
theorem dX9_insert_2 : decode cX9_insert 2 = .ok (.invokevirtual 89, 3) := by decide +kernel
theorem dX9_insert_5 : decode cX9_insert 5 = .ok (.astore 4, 2) := by decide +kernel
theorem dX9_insert_7 : decode cX9_insert 7 = .ok (.aload 4, 2) := by decide +kernel
theorem dX9_insert_9 : decode cX9_insert 9 = .ok (.ifnull 12, 3) := by decide +kernel
theorem dX9_insert_12 : decode cX9_insert 12 = .ok (.aload 4, 2) := by decide +kernel
theorem dX9_insert_14 : decode cX9_insert 14 = .ok (.iload_n 2, 1) := by decide +kernel
theorem dX9_insert_15 : decode cX9_insert 15 = .ok (.invokevirtual 123, 3) := by decide +kernel
theorem dX9_insert_18 : decode cX9_insert 18 = .ok (.ifCond .ne 5, 3) := by decide +kernel
theorem dX9_insert_21 : decode cX9_insert 21 = .ok (.iconst (-1), 1) := by decide +kernel
theorem dX9_insert_22 : decode cX9_insert 22 = .ok (.ireturn, 1) := by decide +kernel
theorem dX9_insert_23 : decode cX9_insert 23 = .ok (.aload_n 0, 1) := by decide +kernel
theorem dX9_insert_24 : decode cX9_insert 24 = .ok (.getfield 19, 3) := by decide +kernel
theorem dX9_insert_27 : decode cX9_insert 27 = .ok (.aload_n 0, 1) := by decide +kernel
theorem dX9_insert_28 : decode cX9_insert 28 = .ok (.getfield 12, 3) := by decide +kernel
theorem dX9_insert_31 : decode cX9_insert 31 = .ok (.invokevirtual 97, 3) := by decide +kernel
theorem dX9_insert_34 : decode cX9_insert 34 = .ok (.aload 4, 2) := by decide +kernel
theorem dX9_insert_36 : decode cX9_insert 36 = .ok (.aload_n 0, 1) := by decide +kernel
theorem dX9_insert_37 : decode cX9_insert 37 = .ok (.getfield 39, 3) := by decide +kernel
theorem dX9_insert_40 : decode cX9_insert 40 = .ok (.iload_n 2, 1) := by decide +kernel
theorem dX9_insert_41 : decode cX9_insert 41 = .ok (.iload_n 3, 1) := by decide +kernel
theorem dX9_insert_42 : decode cX9_insert 42 = .ok (.invokevirtual 127, 3) := by decide +kernel
theorem dX9_insert_45 : decode cX9_insert 45 = .ok (.aload 4, 2) := by decide +kernel
theorem dX9_insert_47 : decode cX9_insert 47 = .ok (.iconst 5, 1) := by decide +kernel
theorem dX9_insert_48 : decode cX9_insert 48 = .ok (.invokevirtual 131, 3) := by decide +kernel
theorem dX9_insert_51 : decode cX9_insert 51 = .ok (.ireturn, 1) := by decide +kernel
theorem dX9_remove_0 : decode cX9_remove 0 = .ok (.aload_n 0, 1) := by decide +kernel
theorem dX9_remove_1 : decode cX9_remove 1 = .ok (.iload_n 1, 1) := by decide +kernel
theorem dX9_remove_2 : decode cX9_remove 2 = .ok (.invokevirtual 89, 3) := by decide +kernel
theorem dX9_remove_5 : decode cX9_remove 5 = .ok (.astore_n 3, 1) := by decide +kernel
theorem dX9_remove_6 : decode cX9_remove 6 = .ok (.aload_n 3, 1) := by decide +kernel
theorem dX9_remove_7 : decode cX9_remove 7 = .ok (.ifnull 14, 3) := by decide +kernel
theorem dX9_remove_10 : decode cX9_remove 10 = .ok (.aload_n 3, 1) := by decide +kernel
theorem dX9_remove_11 : decode cX9_remove 11 = .ok (.getfield 101, 3) := by decide +kernel
theorem dX9_remove_14 : decode cX9_remove 14 = .ok (.iload_n 2, 1) := by decide +kernel
theorem dX9_remove_15 : decode cX9_remove 15 = .ok (.invokevirtual 135, 3) := by decide +kernel
theorem dX9_remove_18 : decode cX9_remove 18 = .ok (.ifCond .ne 5, 3) := by decide +kernel
theorem dX9_remove_21 : decode cX9_remove 21 = .ok (.iconst (-1), 1) := by decide +kernel
theorem dX9_remove_22 : decode cX9_remove 22 = .ok (.ireturn, 1) := by decide +kernel
theorem dX9_remove_23 : decode cX9_remove 23 = .ok (.aload_n 0, 1) := by decide +kernel
theorem dX9_remove_24 : decode cX9_remove 24 = .ok (.getfield 19, 3) := by decide +kernel
theorem dX9_remove_27 : decode cX9_remove 27 = .ok (.aload_n 0, 1) := by decide +kernel
theorem dX9_remove_28 : decode cX9_remove 28 = .ok (.getfield 12, 3) := by decide +kernel
theorem dX9_remove_31 : decode cX9_remove 31 = .ok (.invokevirtual 97, 3) := by decide +kernel
theorem dX9_remove_34 : decode cX9_remove 34 = .ok (.aload_n 3, 1) := by decide +kernel
theorem dX9_remove_35 : decode cX9_remove 35 = .ok (.aload_n 0, 1) := by decide +kernel
theorem dX9_remove_36 : decode cX9_remove 36 = .ok (.getfield 39, 3) := by decide +kernel
theorem dX9_remove_39 : decode cX9_remove 39 = .ok (.iload_n 2, 1) := by decide +kernel
theorem dX9_remove_40 : decode cX9_remove 40 = .ok (.invokevirtual 138, 3) := by decide +kernel
theorem dX9_remove_43 : decode cX9_remove 43 = .ok (.aload_n 3, 1) := by decide +kernel
theorem dX9_remove_44 : decode cX9_remove 44 = .ok (.iconst 5, 1) := by decide +kernel
theorem dX9_remove_45 : decode cX9_remove 45 = .ok (.invokevirtual 131, 3) := by decide +kernel
theorem dX9_remove_48 : decode cX9_remove 48 = .ok (.ireturn, 1) := by decide +kernel
theorem dX9_split_0 : decode cX9_split 0 = .ok (.aload_n 0, 1) := by decide +kernel
theorem dX9_split_1 : decode cX9_split 1 = .ok (.iload_n 1, 1) := by decide +kernel
theorem dX9_split_2 : decode cX9_split 2 = .ok (.invokevirtual 89, 3) := by decide +kernel
theorem dX9_split_5 : decode cX9_split 5 = .ok (.astore 4, 2) := by decide +kernel
theorem dX9_split_7 : decode cX9_split 7 = .ok (.aload 4, 2) := by decide +kernel
theorem dX9_split_9 : decode cX9_split 9 = .ok (.ifnull 29, 3) := by decide +kernel
theorem dX9_split_12 : decode cX9_split 12 = .ok (.aload 4, 2) := by decide +kernel
theorem dX9_split_14 : decode cX9_split 14 = .ok (.getfield 112, 3) := by decide +kernel
theorem dX9_split_17 : decode cX9_split 17 = .ok (.bipush 24, 2) := by decide +kernel
theorem dX9_split_19 : decode cX9_split 19 = .ok (.if_icmp .ge 19, 3) := by decide +kernel
theorem dX9_split_22 : decode cX9_split 22 = .ok (.iload_n 3, 1) := by decide +kernel
theorem dX9_split_23 : decode cX9_split 23 = .ok (.iconst 1, 1) := by decide +kernel
theorem dX9_split_24 : decode cX9_split 24 = .ok (.if_icmp .lt 14, 3) := by decide +kernel
theorem dX9_split_27 : decode cX9_split 27 = .ok (.iload_n 3, 1) := by decide +kernel
theorem dX9_split_28 : decode cX9_split 28 = .ok (.aload 4, 2) := by decide +kernel
theorem dX9_split_30 : decode cX9_split 30 = .ok (.iload_n 2, 1) := by decide +kernel
theorem dX9_split_31 : decode cX9_split 31 = .ok (.iconst 0, 1) := by decide +kernel
theorem dX9_split_32 : decode cX9_split 32 = .ok (.invokevirtual 115, 3) := by decide +kernel
theorem dX9_split_35 : decode cX9_split 35 = .ok (.if_icmp .lt 5, 3) := by decide +kernel
theorem dX9_split_38 : decode cX9_split 38 = .ok (.iconst (-1), 1) := by decide +kernel
theorem dX9_split_39 : decode cX9_split 39 = .ok (.ireturn, 1) := by decide +kernel
theorem dX9_split_40 : decode cX9_split 40 = .ok (.aload_n 0, 1) := by decide +kernel
theorem dX9_split_41 : decode cX9_split 41 = .ok (.getfield 19, 3) := by decide +kernel
theorem dX9_split_44 : decode cX9_split 44 = .ok (.aload_n 0, 1) := by decide +kernel
theorem dX9_split_45 : decode cX9_split 45 = .ok (.getfield 12, 3) := by decide +kernel
theorem dX9_split_48 : decode cX9_split 48 = .ok (.invokevirtual 97, 3) := by decide +kernel
theorem dX9_split_51 : decode cX9_split 51 = .ok (.aload 4, 2) := by decide +kernel
theorem dX9_split_53 : decode cX9_split 53 = .ok (.aload_n 0, 1) := by decide +kernel
theorem dX9_split_54 : decode cX9_split 54 = .ok (.getfield 39, 3) := by decide +kernel
theorem dX9_split_57 : decode cX9_split 57 = .ok (.iload_n 2, 1) := by decide +kernel
theorem dX9_split_58 : decode cX9_split 58 = .ok (.iload_n 3, 1) := by decide +kernel
theorem dX9_split_59 : decode cX9_split 59 = .ok (.invokevirtual 142, 3) := by decide +kernel
theorem dX9_split_62 : decode cX9_split 62 = .ok (.aload 4, 2) := by decide +kernel
theorem dX9_split_64 : decode cX9_split 64 = .ok (.iload_n 2, 1) := by decide +kernel
theorem dX9_split_65 : decode cX9_split 65 = .ok (.iconst 5, 1) := by decide +kernel
theorem dX9_split_66 : decode cX9_split 66 = .ok (.invokevirtual 115, 3) := by decide +kernel
theorem dX9_split_69 : decode cX9_split 69 = .ok (.aload 4, 2) := by decide +kernel
theorem dX9_split_71 : decode cX9_split 71 = .ok (.iload_n 2, 1) := by decide +kernel
theorem dX9_split_72 : decode cX9_split 72 = .ok (.iconst 1, 1) := by decide +kernel
theorem dX9_split_73 : decode cX9_split 73 = .ok (.iadd, 1) := by decide +kernel
theorem dX9_split_74 : decode cX9_split 74 = .ok (.iconst 5, 1) := by decide +kernel
theorem dX9_split_75 : decode cX9_split 75 = .ok (.invokevirtual 115, 3) := by decide +kernel
theorem dX9_split_78 : decode cX9_split 78 = .ok (.iadd, 1) := by decide +kernel
theorem dX9_split_79 : decode cX9_split 79 = .ok (.ireturn, 1) := by decide +kernel
theorem dX9_shift_0 : decode cX9_shift 0 = .ok (.aload_n 0, 1) := by decide +kernel
theorem dX9_shift_1 : decode cX9_shift 1 = .ok (.iload_n 1, 1) := by decide +kernel
theorem dX9_shift_2 : decode cX9_shift 2 = .ok (.invokevirtual 89, 3) := by decide +kernel
theorem dX9_shift_5 : decode cX9_shift 5 = .ok (.astore_n 3, 1) := by decide +kernel
theorem dX9_shift_6 : decode cX9_shift 6 = .ok (.aload_n 3, 1) := by decide +kernel
theorem dX9_shift_7 : decode cX9_shift 7 = .ok (.ifnonnull 5, 3) := by decide +kernel
theorem dX9_shift_10 : decode cX9_shift 10 = .ok (.iconst (-1), 1) := by decide +kernel
theorem dX9_shift_11 : decode cX9_shift 11 = .ok (.ireturn, 1) := by decide +kernel
theorem dX9_shift_12 : decode cX9_shift 12 = .ok (.aload_n 0, 1) := by decide +kernel
theorem dX9_shift_13 : decode cX9_shift 13 = .ok (.getfield 19, 3) := by decide +kernel
theorem dX9_shift_16 : decode cX9_shift 16 = .ok (.aload_n 0, 1) := by decide +kernel
theorem dX9_shift_17 : decode cX9_shift 17 = .ok (.getfield 12, 3) := by decide +kernel
theorem dX9_shift_20 : decode cX9_shift 20 = .ok (.invokevirtual 97, 3) := by decide +kernel
theorem dX9_shift_23 : decode cX9_shift 23 = .ok (.aload_n 3, 1) := by decide +kernel
theorem dX9_shift_24 : decode cX9_shift 24 = .ok (.getfield 101, 3) := by decide +kernel
theorem dX9_shift_27 : decode cX9_shift 27 = .ok (.iload_n 2, 1) := by decide +kernel
theorem dX9_shift_28 : decode cX9_shift 28 = .ok (.invokevirtual 145, 3) := by decide +kernel
theorem dX9_shift_31 : decode cX9_shift 31 = .ok (.aload_n 3, 1) := by decide +kernel
theorem dX9_shift_32 : decode cX9_shift 32 = .ok (.aload_n 0, 1) := by decide +kernel
theorem dX9_shift_33 : decode cX9_shift 33 = .ok (.getfield 39, 3) := by decide +kernel
theorem dX9_shift_36 : decode cX9_shift 36 = .ok (.invokevirtual 149, 3) := by decide +kernel
theorem dX9_shift_39 : decode cX9_shift 39 = .ok (.aload_n 3, 1) := by decide +kernel
theorem dX9_shift_40 : decode cX9_shift 40 = .ok (.iconst 5, 1) := by decide +kernel
theorem dX9_shift_41 : decode cX9_shift 41 = .ok (.invokevirtual 131, 3) := by decide +kernel
theorem dX9_shift_44 : decode cX9_shift 44 = .ok (.ireturn, 1) := by decide +kernel
theorem dX9_merge_0 : decode cX9_merge 0 = .ok (.aload_n 0, 1) := by decide +kernel
theorem dX9_merge_1 : decode cX9_merge 1 = .ok (.iload_n 1, 1) := by decide +kernel
theorem dX9_merge_2 : decode cX9_merge 2 = .ok (.invokevirtual 89, 3) := by decide +kernel
theorem dX9_merge_5 : decode cX9_merge 5 = .ok (.astore 4, 2) := by decide +kernel
theorem dX9_merge_7 : decode cX9_merge 7 = .ok (.aload_n 0, 1) := by decide +kernel
theorem dX9_merge_8 : decode cX9_merge 8 = .ok (.iload_n 2, 1) := by decide +kernel
theorem dX9_merge_9 : decode cX9_merge 9 = .ok (.invokevirtual 89, 3) := by decide +kernel
theorem dX9_merge_12 : decode cX9_merge 12 = .ok (.astore 5, 2) := by decide +kernel
theorem dX9_merge_14 : decode cX9_merge 14 = .ok (.aload_n 0, 1) := by decide +kernel
theorem dX9_merge_15 : decode cX9_merge 15 = .ok (.iload_n 3, 1) := by decide +kernel
theorem dX9_merge_16 : decode cX9_merge 16 = .ok (.invokevirtual 89, 3) := by decide +kernel
theorem dX9_merge_19 : decode cX9_merge 19 = .ok (.astore 6, 2) := by decide +kernel
theorem dX9_merge_21 : decode cX9_merge 21 = .ok (.aload 4, 2) := by decide +kernel
theorem dX9_merge_23 : decode cX9_merge 23 = .ok (.ifnull 13, 3) := by decide +kernel
theorem dX9_merge_26 : decode cX9_merge 26 = .ok (.aload 5, 2) := by decide +kernel
theorem dX9_merge_28 : decode cX9_merge 28 = .ok (.ifnull 8, 3) := by decide +kernel
theorem dX9_merge_31 : decode cX9_merge 31 = .ok (.aload 6, 2) := by decide +kernel
theorem dX9_merge_33 : decode cX9_merge 33 = .ok (.ifnonnull 5, 3) := by decide +kernel
theorem dX9_merge_36 : decode cX9_merge 36 = .ok (.iconst (-1), 1) := by decide +kernel
theorem dX9_merge_37 : decode cX9_merge 37 = .ok (.ireturn, 1) := by decide +kernel
theorem dX9_merge_38 : decode cX9_merge 38 = .ok (.aload 4, 2) := by decide +kernel
theorem dX9_merge_40 : decode cX9_merge 40 = .ok (.getfield 101, 3) := by decide +kernel
theorem dX9_merge_43 : decode cX9_merge 43 = .ok (.invokevirtual 153, 3) := by decide +kernel
theorem dX9_merge_46 : decode cX9_merge 46 = .ok (.ifCond .eq 33, 3) := by decide +kernel
theorem dX9_merge_49 : decode cX9_merge 49 = .ok (.aload 5, 2) := by decide +kernel
theorem dX9_merge_51 : decode cX9_merge 51 = .ok (.getfield 101, 3) := by decide +kernel
theorem dX9_merge_54 : decode cX9_merge 54 = .ok (.invokevirtual 153, 3) := by decide +kernel
theorem dX9_merge_57 : decode cX9_merge 57 = .ok (.ifCond .eq 22, 3) := by decide +kernel
theorem dX9_merge_60 : decode cX9_merge 60 = .ok (.aload 4, 2) := by decide +kernel
theorem dX9_merge_62 : decode cX9_merge 62 = .ok (.iconst 1, 1) := by decide +kernel
theorem dX9_merge_63 : decode cX9_merge 63 = .ok (.invokevirtual 131, 3) := by decide +kernel
theorem dX9_merge_66 : decode cX9_merge 66 = .ok (.aload 5, 2) := by decide +kernel
theorem dX9_merge_68 : decode cX9_merge 68 = .ok (.iconst 1, 1) := by decide +kernel
theorem dX9_merge_69 : decode cX9_merge 69 = .ok (.invokevirtual 131, 3) := by decide +kernel
theorem dX9_merge_72 : decode cX9_merge 72 = .ok (.iadd, 1) := by decide +kernel
theorem dX9_merge_73 : decode cX9_merge 73 = .ok (.sipush 128, 3) := by decide +kernel
theorem dX9_merge_76 : decode cX9_merge 76 = .ok (.if_icmp .le 5, 3) := by decide +kernel
theorem dX9_merge_79 : decode cX9_merge 79 = .ok (.iconst (-1), 1) := by decide +kernel
theorem dX9_merge_80 : decode cX9_merge 80 = .ok (.ireturn, 1) := by decide +kernel
theorem dX9_merge_81 : decode cX9_merge 81 = .ok (.aload_n 0, 1) := by decide +kernel
theorem dX9_merge_82 : decode cX9_merge 82 = .ok (.getfield 19, 3) := by decide +kernel
theorem dX9_merge_85 : decode cX9_merge 85 = .ok (.aload_n 0, 1) := by decide +kernel
theorem dX9_merge_86 : decode cX9_merge 86 = .ok (.getfield 12, 3) := by decide +kernel
theorem dX9_merge_89 : decode cX9_merge 89 = .ok (.invokevirtual 97, 3) := by decide +kernel
theorem dX9_merge_92 : decode cX9_merge 92 = .ok (.aload_n 0, 1) := by decide +kernel
theorem dX9_merge_93 : decode cX9_merge 93 = .ok (.getfield 69, 3) := by decide +kernel
theorem dX9_merge_96 : decode cX9_merge 96 = .ok (.invokevirtual 157, 3) := by decide +kernel
theorem dX9_merge_99 : decode cX9_merge 99 = .ok (.aload_n 0, 1) := by decide +kernel
theorem dX9_merge_100 : decode cX9_merge 100 = .ok (.getfield 69, 3) := by decide +kernel
theorem dX9_merge_103 : decode cX9_merge 103 = .ok (.getfield 101, 3) := by decide +kernel
theorem dX9_merge_106 : decode cX9_merge 106 = .ok (.aload 4, 2) := by decide +kernel
theorem dX9_merge_108 : decode cX9_merge 108 = .ok (.getfield 101, 3) := by decide +kernel
theorem dX9_merge_111 : decode cX9_merge 111 = .ok (.aload 5, 2) := by decide +kernel
theorem dX9_merge_113 : decode cX9_merge 113 = .ok (.getfield 101, 3) := by decide +kernel
theorem dX9_merge_116 : decode cX9_merge 116 = .ok (.invokevirtual 160, 3) := by decide +kernel
theorem dX9_merge_119 : decode cX9_merge 119 = .ok (.aload_n 0, 1) := by decide +kernel
theorem dX9_merge_120 : decode cX9_merge 120 = .ok (.getfield 69, 3) := by decide +kernel
theorem dX9_merge_123 : decode cX9_merge 123 = .ok (.aload_n 0, 1) := by decide +kernel
theorem dX9_merge_124 : decode cX9_merge 124 = .ok (.getfield 39, 3) := by decide +kernel
theorem dX9_merge_127 : decode cX9_merge 127 = .ok (.invokevirtual 108, 3) := by decide +kernel
theorem dX9_merge_130 : decode cX9_merge 130 = .ok (.pop, 1) := by decide +kernel
theorem dX9_merge_131 : decode cX9_merge 131 = .ok (.aload 6, 2) := by decide +kernel
theorem dX9_merge_133 : decode cX9_merge 133 = .ok (.aload_n 0, 1) := by decide +kernel
theorem dX9_merge_134 : decode cX9_merge 134 = .ok (.getfield 69, 3) := by decide +kernel
theorem dX9_merge_137 : decode cX9_merge 137 = .ok (.invokevirtual 164, 3) := by decide +kernel
theorem dX9_merge_140 : decode cX9_merge 140 = .ok (.aload 6, 2) := by decide +kernel
theorem dX9_merge_142 : decode cX9_merge 142 = .ok (.getfield 101, 3) := by decide +kernel
theorem dX9_merge_145 : decode cX9_merge 145 = .ok (.getfield 83, 3) := by decide +kernel
theorem dX9_merge_148 : decode cX9_merge 148 = .ok (.ireturn, 1) := by decide +kernel
theorem dX9_copy_0 : decode cX9_copy 0 = .ok (.aload_n 0, 1) := by decide +kernel
theorem dX9_copy_1 : decode cX9_copy 1 = .ok (.iload_n 1, 1) := by decide +kernel
theorem dX9_copy_2 : decode cX9_copy 2 = .ok (.invokevirtual 89, 3) := by decide +kernel
theorem dX9_copy_5 : decode cX9_copy 5 = .ok (.astore 5, 2) := by decide +kernel
theorem dX9_copy_7 : decode cX9_copy 7 = .ok (.aload_n 0, 1) := by decide +kernel
theorem dX9_copy_8 : decode cX9_copy 8 = .ok (.iload 4, 2) := by decide +kernel
theorem dX9_copy_10 : decode cX9_copy 10 = .ok (.invokevirtual 89, 3) := by decide +kernel
theorem dX9_copy_13 : decode cX9_copy 13 = .ok (.astore 6, 2) := by decide +kernel
theorem dX9_copy_15 : decode cX9_copy 15 = .ok (.aload 5, 2) := by decide +kernel
theorem dX9_copy_17 : decode cX9_copy 17 = .ok (.ifnull 43, 3) := by decide +kernel
theorem dX9_copy_20 : decode cX9_copy 20 = .ok (.aload 6, 2) := by decide +kernel
theorem dX9_copy_22 : decode cX9_copy 22 = .ok (.ifnull 38, 3) := by decide +kernel
theorem dX9_copy_25 : decode cX9_copy 25 = .ok (.aload 5, 2) := by decide +kernel
theorem dX9_copy_27 : decode cX9_copy 27 = .ok (.getfield 101, 3) := by decide +kernel
theorem dX9_copy_30 : decode cX9_copy 30 = .ok (.iload_n 2, 1) := by decide +kernel
theorem dX9_copy_31 : decode cX9_copy 31 = .ok (.iload_n 3, 1) := by decide +kernel
theorem dX9_copy_32 : decode cX9_copy 32 = .ok (.invokevirtual 168, 3) := by decide +kernel
theorem dX9_copy_35 : decode cX9_copy 35 = .ok (.ifCond .eq 25, 3) := by decide +kernel
theorem dX9_copy_38 : decode cX9_copy 38 = .ok (.iload_n 2, 1) := by decide +kernel
theorem dX9_copy_39 : decode cX9_copy 39 = .ok (.iload_n 3, 1) := by decide +kernel
theorem dX9_copy_40 : decode cX9_copy 40 = .ok (.if_icmp .eq 20, 3) := by decide +kernel
theorem dX9_copy_43 : decode cX9_copy 43 = .ok (.aload 6, 2) := by decide +kernel
theorem dX9_copy_45 : decode cX9_copy 45 = .ok (.iload_n 3, 1) := by decide +kernel
theorem dX9_copy_46 : decode cX9_copy 46 = .ok (.iload_n 2, 1) := by decide +kernel
theorem dX9_copy_47 : decode cX9_copy 47 = .ok (.isub, 1) := by decide +kernel
theorem dX9_copy_48 : decode cX9_copy 48 = .ok (.iload_n 3, 1) := by decide +kernel
theorem dX9_copy_49 : decode cX9_copy 49 = .ok (.iload_n 2, 1) := by decide +kernel
theorem dX9_copy_50 : decode cX9_copy 50 = .ok (.isub, 1) := by decide +kernel
theorem dX9_copy_51 : decode cX9_copy 51 = .ok (.invokestatic 171, 3) := by decide +kernel
theorem dX9_copy_54 : decode cX9_copy 54 = .ok (.invokevirtual 93, 3) := by decide +kernel
theorem dX9_copy_57 : decode cX9_copy 57 = .ok (.ifCond .ne 5, 3) := by decide +kernel
theorem dX9_copy_60 : decode cX9_copy 60 = .ok (.iconst (-1), 1) := by decide +kernel
theorem dX9_copy_61 : decode cX9_copy 61 = .ok (.ireturn, 1) := by decide +kernel
theorem dX9_copy_62 : decode cX9_copy 62 = .ok (.aload_n 0, 1) := by decide +kernel
theorem dX9_copy_63 : decode cX9_copy 63 = .ok (.getfield 19, 3) := by decide +kernel
theorem dX9_copy_66 : decode cX9_copy 66 = .ok (.aload_n 0, 1) := by decide +kernel
theorem dX9_copy_67 : decode cX9_copy 67 = .ok (.getfield 12, 3) := by decide +kernel
theorem dX9_copy_70 : decode cX9_copy 70 = .ok (.invokevirtual 97, 3) := by decide +kernel
theorem dX9_copy_73 : decode cX9_copy 73 = .ok (.aload 6, 2) := by decide +kernel
theorem dX9_copy_75 : decode cX9_copy 75 = .ok (.getfield 101, 3) := by decide +kernel
theorem dX9_copy_78 : decode cX9_copy 78 = .ok (.aload 5, 2) := by decide +kernel
theorem dX9_copy_80 : decode cX9_copy 80 = .ok (.getfield 101, 3) := by decide +kernel
theorem dX9_copy_83 : decode cX9_copy 83 = .ok (.iload_n 2, 1) := by decide +kernel
theorem dX9_copy_84 : decode cX9_copy 84 = .ok (.iload_n 3, 1) := by decide +kernel
theorem dX9_copy_85 : decode cX9_copy 85 = .ok (.invokevirtual 104, 3) := by decide +kernel
theorem dX9_copy_88 : decode cX9_copy 88 = .ok (.aload 6, 2) := by decide +kernel
theorem dX9_copy_90 : decode cX9_copy 90 = .ok (.aload_n 0, 1) := by decide +kernel
theorem dX9_copy_91 : decode cX9_copy 91 = .ok (.getfield 39, 3) := by decide +kernel
theorem dX9_copy_94 : decode cX9_copy 94 = .ok (.invokevirtual 108, 3) := by decide +kernel
theorem dX9_copy_97 : decode cX9_copy 97 = .ok (.ireturn, 1) := by decide +kernel
theorem dX9_swap_0 : decode cX9_swap 0 = .ok (.aload_n 0, 1) := by decide +kernel
theorem dX9_swap_1 : decode cX9_swap 1 = .ok (.iload_n 1, 1) := by decide +kernel
theorem dX9_swap_2 : decode cX9_swap 2 = .ok (.invokevirtual 89, 3) := by decide +kernel
theorem dX9_swap_5 : decode cX9_swap 5 = .ok (.ifnull 16, 3) := by decide +kernel
theorem dX9_swap_8 : decode cX9_swap 8 = .ok (.aload_n 0, 1) := by decide +kernel
theorem dX9_swap_9 : decode cX9_swap 9 = .ok (.iload_n 2, 1) := by decide +kernel
theorem dX9_swap_10 : decode cX9_swap 10 = .ok (.invokevirtual 89, 3) := by decide +kernel
theorem dX9_swap_13 : decode cX9_swap 13 = .ok (.ifnull 8, 3) := by decide +kernel
theorem dX9_swap_16 : decode cX9_swap 16 = .ok (.iload_n 1, 1) := by decide +kernel
theorem dX9_swap_17 : decode cX9_swap 17 = .ok (.iload_n 2, 1) := by decide +kernel
theorem dX9_swap_18 : decode cX9_swap 18 = .ok (.if_icmp .ne 5, 3) := by decide +kernel
theorem dX9_swap_21 : decode cX9_swap 21 = .ok (.iconst 0, 1) := by decide +kernel
theorem dX9_swap_22 : decode cX9_swap 22 = .ok (.ireturn, 1) := by decide +kernel
theorem dX9_swap_23 : decode cX9_swap 23 = .ok (.aload_n 0, 1) := by decide +kernel
theorem dX9_swap_24 : decode cX9_swap 24 = .ok (.getfield 19, 3) := by decide +kernel
theorem dX9_swap_27 : decode cX9_swap 27 = .ok (.aload_n 0, 1) := by decide +kernel
theorem dX9_swap_28 : decode cX9_swap 28 = .ok (.getfield 12, 3) := by decide +kernel
theorem dX9_swap_31 : decode cX9_swap 31 = .ok (.invokevirtual 97, 3) := by decide +kernel
theorem dX9_swap_34 : decode cX9_swap 34 = .ok (.aload_n 0, 1) := by decide +kernel
theorem dX9_swap_35 : decode cX9_swap 35 = .ok (.getfield 12, 3) := by decide +kernel
theorem dX9_swap_38 : decode cX9_swap 38 = .ok (.iload_n 1, 1) := by decide +kernel
theorem dX9_swap_39 : decode cX9_swap 39 = .ok (.iload_n 2, 1) := by decide +kernel
theorem dX9_swap_40 : decode cX9_swap 40 = .ok (.invokevirtual 174, 3) := by decide +kernel
theorem dX9_swap_43 : decode cX9_swap 43 = .ok (.iconst 1, 1) := by decide +kernel
theorem dX9_swap_44 : decode cX9_swap 44 = .ok (.ireturn, 1) := by decide +kernel
theorem dX9_drop_0 : decode cX9_drop 0 = .ok (.aload_n 0, 1) := by decide +kernel
theorem dX9_drop_1 : decode cX9_drop 1 = .ok (.iload_n 1, 1) := by decide +kernel
theorem dX9_drop_2 : decode cX9_drop 2 = .ok (.invokevirtual 89, 3) := by decide +kernel
theorem dX9_drop_5 : decode cX9_drop 5 = .ok (.astore_n 3, 1) := by decide +kernel
theorem dX9_drop_6 : decode cX9_drop 6 = .ok (.aload_n 3, 1) := by decide +kernel
theorem dX9_drop_7 : decode cX9_drop 7 = .ok (.ifnull 11, 3) := by decide +kernel
theorem dX9_drop_10 : decode cX9_drop 10 = .ok (.aload_n 3, 1) := by decide +kernel
theorem dX9_drop_11 : decode cX9_drop 11 = .ok (.iload_n 2, 1) := by decide +kernel
theorem dX9_drop_12 : decode cX9_drop 12 = .ok (.invokevirtual 178, 3) := by decide +kernel
theorem dX9_drop_15 : decode cX9_drop 15 = .ok (.ifCond .ne 5, 3) := by decide +kernel
theorem dX9_drop_18 : decode cX9_drop 18 = .ok (.iconst (-1), 1) := by decide +kernel
theorem dX9_drop_19 : decode cX9_drop 19 = .ok (.ireturn, 1) := by decide +kernel
theorem dX9_drop_20 : decode cX9_drop 20 = .ok (.aload_n 0, 1) := by decide +kernel
theorem dX9_drop_21 : decode cX9_drop 21 = .ok (.getfield 19, 3) := by decide +kernel
theorem dX9_drop_24 : decode cX9_drop 24 = .ok (.aload_n 0, 1) := by decide +kernel
theorem dX9_drop_25 : decode cX9_drop 25 = .ok (.getfield 12, 3) := by decide +kernel
theorem dX9_drop_28 : decode cX9_drop 28 = .ok (.invokevirtual 97, 3) := by decide +kernel
theorem dX9_drop_31 : decode cX9_drop 31 = .ok (.aload_n 3, 1) := by decide +kernel
theorem dX9_drop_32 : decode cX9_drop 32 = .ok (.iload_n 2, 1) := by decide +kernel
theorem dX9_drop_33 : decode cX9_drop 33 = .ok (.iconst 0, 1) := by decide +kernel
theorem dX9_drop_34 : decode cX9_drop 34 = .ok (.invokevirtual 115, 3) := by decide +kernel
theorem dX9_drop_37 : decode cX9_drop 37 = .ok (.istore 4, 2) := by decide +kernel
theorem dX9_drop_39 : decode cX9_drop 39 = .ok (.aload_n 3, 1) := by decide +kernel
theorem dX9_drop_40 : decode cX9_drop 40 = .ok (.iload_n 2, 1) := by decide +kernel
theorem dX9_drop_41 : decode cX9_drop 41 = .ok (.invokevirtual 181, 3) := by decide +kernel
theorem dX9_drop_44 : decode cX9_drop 44 = .ok (.iload 4, 2) := by decide +kernel
theorem dX9_drop_46 : decode cX9_drop 46 = .ok (.ireturn, 1) := by decide +kernel
theorem dX9_join_0 : decode cX9_join 0 = .ok (.aload_n 0, 1) := by decide +kernel
theorem dX9_join_1 : decode cX9_join 1 = .ok (.iload_n 1, 1) := by decide +kernel
theorem dX9_join_2 : decode cX9_join 2 = .ok (.invokevirtual 89, 3) := by decide +kernel
theorem dX9_join_5 : decode cX9_join 5 = .ok (.astore_n 2, 1) := by decide +kernel
theorem dX9_join_6 : decode cX9_join 6 = .ok (.aload_n 2, 1) := by decide +kernel
theorem dX9_join_7 : decode cX9_join 7 = .ok (.ifnonnull 5, 3) := by decide +kernel
theorem dX9_join_10 : decode cX9_join 10 = .ok (.iconst (-1), 1) := by decide +kernel
theorem dX9_join_11 : decode cX9_join 11 = .ok (.ireturn, 1) := by decide +kernel
theorem dX9_join_12 : decode cX9_join 12 = .ok (.aload_n 0, 1) := by decide +kernel
theorem dX9_join_13 : decode cX9_join 13 = .ok (.getfield 19, 3) := by decide +kernel
theorem dX9_join_16 : decode cX9_join 16 = .ok (.aload_n 0, 1) := by decide +kernel
theorem dX9_join_17 : decode cX9_join 17 = .ok (.getfield 12, 3) := by decide +kernel
theorem dX9_join_20 : decode cX9_join 20 = .ok (.invokevirtual 97, 3) := by decide +kernel
theorem dX9_join_23 : decode cX9_join 23 = .ok (.aload_n 2, 1) := by decide +kernel
theorem dX9_join_24 : decode cX9_join 24 = .ok (.aload_n 0, 1) := by decide +kernel
theorem dX9_join_25 : decode cX9_join 25 = .ok (.getfield 39, 3) := by decide +kernel
theorem dX9_join_28 : decode cX9_join 28 = .ok (.invokevirtual 184, 3) := by decide +kernel
theorem dX9_join_31 : decode cX9_join 31 = .ok (.ireturn, 1) := by decide +kernel
theorem dX9_recut_0 : decode cX9_recut 0 = .ok (.aload_n 0, 1) := by decide +kernel
theorem dX9_recut_1 : decode cX9_recut 1 = .ok (.iload_n 1, 1) := by decide +kernel
theorem dX9_recut_2 : decode cX9_recut 2 = .ok (.invokevirtual 187, 3) := by decide +kernel
theorem dX9_recut_5 : decode cX9_recut 5 = .ok (.astore_n 2, 1) := by decide +kernel
theorem dX9_recut_6 : decode cX9_recut 6 = .ok (.aload_n 2, 1) := by decide +kernel
theorem dX9_recut_7 : decode cX9_recut 7 = .ok (.ifnonnull 5, 3) := by decide +kernel
theorem dX9_recut_10 : decode cX9_recut 10 = .ok (.iconst (-1), 1) := by decide +kernel
theorem dX9_recut_11 : decode cX9_recut 11 = .ok (.ireturn, 1) := by decide +kernel
theorem dX9_recut_12 : decode cX9_recut 12 = .ok (.aload_n 0, 1) := by decide +kernel
theorem dX9_recut_13 : decode cX9_recut 13 = .ok (.getfield 19, 3) := by decide +kernel
theorem dX9_recut_16 : decode cX9_recut 16 = .ok (.aload_n 0, 1) := by decide +kernel
theorem dX9_recut_17 : decode cX9_recut 17 = .ok (.getfield 12, 3) := by decide +kernel
theorem dX9_recut_20 : decode cX9_recut 20 = .ok (.invokevirtual 97, 3) := by decide +kernel
theorem dX9_recut_23 : decode cX9_recut 23 = .ok (.aload_n 0, 1) := by decide +kernel
theorem dX9_recut_24 : decode cX9_recut 24 = .ok (.getfield 62, 3) := by decide +kernel
theorem dX9_recut_27 : decode cX9_recut 27 = .ok (.aload_n 2, 1) := by decide +kernel
theorem dX9_recut_28 : decode cX9_recut 28 = .ok (.getfield 101, 3) := by decide +kernel
theorem dX9_recut_31 : decode cX9_recut 31 = .ok (.aload_n 0, 1) := by decide +kernel
theorem dX9_recut_32 : decode cX9_recut 32 = .ok (.getfield 39, 3) := by decide +kernel
theorem dX9_recut_35 : decode cX9_recut 35 = .ok (.invokevirtual 190, 3) := by decide +kernel
theorem dX9_recut_38 : decode cX9_recut 38 = .ok (.aload_n 2, 1) := by decide +kernel
theorem dX9_recut_39 : decode cX9_recut 39 = .ok (.aload_n 0, 1) := by decide +kernel
theorem dX9_recut_40 : decode cX9_recut 40 = .ok (.getfield 39, 3) := by decide +kernel
theorem dX9_recut_43 : decode cX9_recut 43 = .ok (.aload_n 0, 1) := by decide +kernel
theorem dX9_recut_44 : decode cX9_recut 44 = .ok (.getfield 62, 3) := by decide +kernel
theorem dX9_recut_47 : decode cX9_recut 47 = .ok (.invokevirtual 194, 3) := by decide +kernel
theorem dX9_recut_50 : decode cX9_recut 50 = .ok (.aload_n 2, 1) := by decide +kernel
theorem dX9_recut_51 : decode cX9_recut 51 = .ok (.iconst 5, 1) := by decide +kernel
theorem dX9_recut_52 : decode cX9_recut 52 = .ok (.invokevirtual 131, 3) := by decide +kernel
theorem dX9_recut_55 : decode cX9_recut 55 = .ok (.ireturn, 1) := by decide +kernel
theorem dX9_walk_0 : decode cX9_walk 0 = .ok (.aload_n 0, 1) := by decide +kernel
theorem dX9_walk_1 : decode cX9_walk 1 = .ok (.iload_n 1, 1) := by decide +kernel
theorem dX9_walk_2 : decode cX9_walk 2 = .ok (.invokevirtual 89, 3) := by decide +kernel
theorem dX9_walk_5 : decode cX9_walk 5 = .ok (.astore 5, 2) := by decide +kernel
theorem dX9_walk_7 : decode cX9_walk 7 = .ok (.aload 5, 2) := by decide +kernel
theorem dX9_walk_9 : decode cX9_walk 9 = .ok (.ifnull 41, 3) := by decide +kernel
theorem dX9_walk_12 : decode cX9_walk 12 = .ok (.iload_n 3, 1) := by decide +kernel
theorem dX9_walk_13 : decode cX9_walk 13 = .ok (.ifCond .lt 37, 3) := by decide +kernel
theorem dX9_walk_16 : decode cX9_walk 16 = .ok (.iload_n 3, 1) := by decide +kernel
theorem dX9_walk_17 : decode cX9_walk 17 = .ok (.ldc 198, 2) := by decide +kernel
theorem dX9_walk_19 : decode cX9_walk 19 = .ok (.if_icmp .gt 31, 3) := by decide +kernel
theorem dX9_walk_22 : decode cX9_walk 22 = .ok (.iload 4, 2) := by decide +kernel
theorem dX9_walk_24 : decode cX9_walk 24 = .ok (.iconst 1, 1) := by decide +kernel
theorem dX9_walk_25 : decode cX9_walk 25 = .ok (.if_icmp .lt 25, 3) := by decide +kernel
theorem dX9_walk_28 : decode cX9_walk 28 = .ok (.iload 4, 2) := by decide +kernel
theorem dX9_walk_30 : decode cX9_walk 30 = .ok (.bipush 48, 2) := by decide +kernel
theorem dX9_walk_32 : decode cX9_walk 32 = .ok (.if_icmp .gt 18, 3) := by decide +kernel
theorem dX9_walk_35 : decode cX9_walk 35 = .ok (.aload 5, 2) := by decide +kernel
theorem dX9_walk_37 : decode cX9_walk 37 = .ok (.iload 4, 2) := by decide +kernel
theorem dX9_walk_39 : decode cX9_walk 39 = .ok (.iload 4, 2) := by decide +kernel
theorem dX9_walk_41 : decode cX9_walk 41 = .ok (.invokestatic 171, 3) := by decide +kernel
theorem dX9_walk_44 : decode cX9_walk 44 = .ok (.invokevirtual 93, 3) := by decide +kernel
theorem dX9_walk_47 : decode cX9_walk 47 = .ok (.ifCond .ne 5, 3) := by decide +kernel
theorem dX9_walk_50 : decode cX9_walk 50 = .ok (.iconst (-1), 1) := by decide +kernel
theorem dX9_walk_51 : decode cX9_walk 51 = .ok (.ireturn, 1) := by decide +kernel
theorem dX9_walk_52 : decode cX9_walk 52 = .ok (.aload_n 0, 1) := by decide +kernel
theorem dX9_walk_53 : decode cX9_walk 53 = .ok (.getfield 19, 3) := by decide +kernel
theorem dX9_walk_56 : decode cX9_walk 56 = .ok (.aload_n 0, 1) := by decide +kernel
theorem dX9_walk_57 : decode cX9_walk 57 = .ok (.getfield 12, 3) := by decide +kernel
theorem dX9_walk_60 : decode cX9_walk 60 = .ok (.invokevirtual 97, 3) := by decide +kernel
theorem dX9_walk_63 : decode cX9_walk 63 = .ok (.aload_n 0, 1) := by decide +kernel
theorem dX9_walk_64 : decode cX9_walk 64 = .ok (.getfield 12, 3) := by decide +kernel
theorem dX9_walk_67 : decode cX9_walk 67 = .ok (.aload 5, 2) := by decide +kernel
theorem dX9_walk_69 : decode cX9_walk 69 = .ok (.getfield 101, 3) := by decide +kernel
theorem dX9_walk_72 : decode cX9_walk 72 = .ok (.iload_n 2, 1) := by decide +kernel
theorem dX9_walk_73 : decode cX9_walk 73 = .ok (.iload_n 3, 1) := by decide +kernel
theorem dX9_walk_74 : decode cX9_walk 74 = .ok (.iload 4, 2) := by decide +kernel
theorem dX9_walk_76 : decode cX9_walk 76 = .ok (.invokevirtual 199, 3) := by decide +kernel
theorem dX9_walk_79 : decode cX9_walk 79 = .ok (.aload 5, 2) := by decide +kernel
theorem dX9_walk_81 : decode cX9_walk 81 = .ok (.aload_n 0, 1) := by decide +kernel
theorem dX9_walk_82 : decode cX9_walk 82 = .ok (.getfield 39, 3) := by decide +kernel
theorem dX9_walk_85 : decode cX9_walk 85 = .ok (.invokevirtual 108, 3) := by decide +kernel
theorem dX9_walk_88 : decode cX9_walk 88 = .ok (.ireturn, 1) := by decide +kernel
theorem dX9_tell_0 : decode cX9_tell 0 = .ok (.iload_n 1, 1) := by decide +kernel
theorem dX9_tell_1 : decode cX9_tell 1 = .ok (.ifCond .lt 10, 3) := by decide +kernel
theorem dX9_tell_4 : decode cX9_tell 4 = .ok (.iload_n 1, 1) := by decide +kernel
theorem dX9_tell_5 : decode cX9_tell 5 = .ok (.sipush 29989, 3) := by decide +kernel
theorem dX9_tell_8 : decode cX9_tell 8 = .ok (.if_icmp .lt 5, 3) := by decide +kernel
theorem dX9_tell_11 : decode cX9_tell 11 = .ok (.iconst 0, 1) := by decide +kernel
theorem dX9_tell_12 : decode cX9_tell 12 = .ok (.ireturn, 1) := by decide +kernel
theorem dX9_tell_13 : decode cX9_tell 13 = .ok (.aload_n 0, 1) := by decide +kernel
theorem dX9_tell_14 : decode cX9_tell 14 = .ok (.getfield 12, 3) := by decide +kernel
theorem dX9_tell_17 : decode cX9_tell 17 = .ok (.iload_n 1, 1) := by decide +kernel
theorem dX9_tell_18 : decode cX9_tell 18 = .ok (.putfield 203, 3) := by decide +kernel
theorem dX9_tell_21 : decode cX9_tell 21 = .ok (.iconst 1, 1) := by decide +kernel
theorem dX9_tell_22 : decode cX9_tell 22 = .ok (.ireturn, 1) := by decide +kernel
theorem dX9_word_0 : decode cX9_word 0 = .ok (.aload_n 0, 1) := by decide +kernel
theorem dX9_word_1 : decode cX9_word 1 = .ok (.getfield 32, 3) := by decide +kernel
theorem dX9_word_4 : decode cX9_word 4 = .ok (.iload_n 1, 1) := by decide +kernel
theorem dX9_word_5 : decode cX9_word 5 = .ok (.invokevirtual 206, 3) := by decide +kernel
theorem dX9_word_8 : decode cX9_word 8 = .ok (.ifCond .eq 13, 3) := by decide +kernel
theorem dX9_word_11 : decode cX9_word 11 = .ok (.aload_n 0, 1) := by decide +kernel
theorem dX9_word_12 : decode cX9_word 12 = .ok (.getfield 32, 3) := by decide +kernel
theorem dX9_word_15 : decode cX9_word 15 = .ok (.getfield 209, 3) := by decide +kernel
theorem dX9_word_18 : decode cX9_word 18 = .ok (.goto 4, 3) := by decide +kernel
theorem dX9_word_21 : decode cX9_word 21 = .ok (.iconst (-1), 1) := by decide +kernel
theorem dX9_word_22 : decode cX9_word 22 = .ok (.ireturn, 1) := by decide +kernel
theorem dX9_end_0 : decode cX9_end 0 = .ok (.iload_n 1, 1) := by decide +kernel
theorem dX9_end_1 : decode cX9_end 1 = .ok (.ifCond .lt 14, 3) := by decide +kernel
theorem dX9_end_4 : decode cX9_end 4 = .ok (.iload_n 1, 1) := by decide +kernel
theorem dX9_end_5 : decode cX9_end 5 = .ok (.aload_n 0, 1) := by decide +kernel
theorem dX9_end_6 : decode cX9_end 6 = .ok (.getfield 32, 3) := by decide +kernel
theorem dX9_end_9 : decode cX9_end 9 = .ok (.getfield 209, 3) := by decide +kernel
theorem dX9_end_12 : decode cX9_end 12 = .ok (.if_icmp .le 5, 3) := by decide +kernel
theorem dX9_end_15 : decode cX9_end 15 = .ok (.iconst 0, 1) := by decide +kernel
theorem dX9_end_16 : decode cX9_end 16 = .ok (.ireturn, 1) := by decide +kernel
theorem dX9_end_17 : decode cX9_end 17 = .ok (.aload_n 0, 1) := by decide +kernel
theorem dX9_end_18 : decode cX9_end 18 = .ok (.getfield 32, 3) := by decide +kernel
theorem dX9_end_21 : decode cX9_end 21 = .ok (.iload_n 1, 1) := by decide +kernel
theorem dX9_end_22 : decode cX9_end 22 = .ok (.putfield 209, 3) := by decide +kernel
theorem dX9_end_25 : decode cX9_end 25 = .ok (.iconst 1, 1) := by decide +kernel
theorem dX9_end_26 : decode cX9_end 26 = .ok (.ireturn, 1) := by decide +kernel
theorem dX9_tape_0 : decode cX9_tape 0 = .ok (.aload_n 0, 1) := by decide +kernel
theorem dX9_tape_1 : decode cX9_tape 1 = .ok (.getfield 32, 3) := by decide +kernel
theorem dX9_tape_4 : decode cX9_tape 4 = .ok (.iload_n 1, 1) := by decide +kernel
theorem dX9_tape_5 : decode cX9_tape 5 = .ok (.invokevirtual 210, 3) := by decide +kernel
theorem dX9_tape_8 : decode cX9_tape 8 = .ok (.ifCond .eq 15, 3) := by decide +kernel
theorem dX9_tape_11 : decode cX9_tape 11 = .ok (.aload_n 0, 1) := by decide +kernel
theorem dX9_tape_12 : decode cX9_tape 12 = .ok (.getfield 32, 3) := by decide +kernel
theorem dX9_tape_15 : decode cX9_tape 15 = .ok (.getfield 211, 3) := by decide +kernel
theorem dX9_tape_18 : decode cX9_tape 18 = .ok (.iload_n 1, 1) := by decide +kernel
theorem dX9_tape_19 : decode cX9_tape 19 = .ok (.iaload, 1) := by decide +kernel
theorem dX9_tape_20 : decode cX9_tape 20 = .ok (.goto 4, 3) := by decide +kernel
theorem dX9_tape_23 : decode cX9_tape 23 = .ok (.iconst 0, 1) := by decide +kernel
theorem dX9_tape_24 : decode cX9_tape 24 = .ok (.ireturn, 1) := by decide +kernel
theorem dX9_save_0 : decode cX9_save 0 = .ok (.aload_n 0, 1) := by decide +kernel
theorem dX9_save_1 : decode cX9_save 1 = .ok (.iload_n 1, 1) := by decide +kernel
theorem dX9_save_2 : decode cX9_save 2 = .ok (.invokevirtual 89, 3) := by decide +kernel
theorem dX9_save_5 : decode cX9_save 5 = .ok (.astore_n 2, 1) := by decide +kernel
theorem dX9_save_6 : decode cX9_save 6 = .ok (.aload_n 2, 1) := by decide +kernel
theorem dX9_save_7 : decode cX9_save 7 = .ok (.ifnonnull 5, 3) := by decide +kernel
theorem dX9_save_10 : decode cX9_save 10 = .ok (.iconst (-1), 1) := by decide +kernel
theorem dX9_save_11 : decode cX9_save 11 = .ok (.ireturn, 1) := by decide +kernel
theorem dX9_save_12 : decode cX9_save 12 = .ok (.aload_n 0, 1) := by decide +kernel
theorem dX9_save_13 : decode cX9_save 13 = .ok (.getfield 32, 3) := by decide +kernel
theorem dX9_save_16 : decode cX9_save 16 = .ok (.iconst 0, 1) := by decide +kernel
theorem dX9_save_17 : decode cX9_save 17 = .ok (.putfield 209, 3) := by decide +kernel
theorem dX9_save_20 : decode cX9_save 20 = .ok (.iconst 0, 1) := by decide +kernel
theorem dX9_save_21 : decode cX9_save 21 = .ok (.istore_n 3, 1) := by decide +kernel
theorem dX9_save_22 : decode cX9_save 22 = .ok (.iload_n 3, 1) := by decide +kernel
theorem dX9_save_23 : decode cX9_save 23 = .ok (.aload_n 2, 1) := by decide +kernel
theorem dX9_save_24 : decode cX9_save 24 = .ok (.getfield 112, 3) := by decide +kernel
theorem dX9_save_27 : decode cX9_save 27 = .ok (.if_icmp .ge 33, 3) := by decide +kernel
theorem dX9_save_30 : decode cX9_save 30 = .ok (.aload_n 0, 1) := by decide +kernel
theorem dX9_save_31 : decode cX9_save 31 = .ok (.getfield 46, 3) := by decide +kernel
theorem dX9_save_34 : decode cX9_save 34 = .ok (.aload_n 2, 1) := by decide +kernel
theorem dX9_save_35 : decode cX9_save 35 = .ok (.iload_n 3, 1) := by decide +kernel
theorem dX9_save_36 : decode cX9_save 36 = .ok (.aload_n 0, 1) := by decide +kernel
theorem dX9_save_37 : decode cX9_save 37 = .ok (.getfield 39, 3) := by decide +kernel
theorem dX9_save_40 : decode cX9_save 40 = .ok (.invokevirtual 215, 3) := by decide +kernel
theorem dX9_save_43 : decode cX9_save 43 = .ok (.aload_n 0, 1) := by decide +kernel
theorem dX9_save_44 : decode cX9_save 44 = .ok (.getfield 46, 3) := by decide +kernel
theorem dX9_save_47 : decode cX9_save 47 = .ok (.aload_n 0, 1) := by decide +kernel
theorem dX9_save_48 : decode cX9_save 48 = .ok (.getfield 32, 3) := by decide +kernel
theorem dX9_save_51 : decode cX9_save 51 = .ok (.invokevirtual 219, 3) := by decide +kernel
theorem dX9_save_54 : decode cX9_save 54 = .ok (.iinc 3 1, 3) := by decide +kernel
theorem dX9_save_57 : decode cX9_save 57 = .ok (.goto (-35), 3) := by decide +kernel
theorem dX9_save_60 : decode cX9_save 60 = .ok (.aload_n 0, 1) := by decide +kernel
theorem dX9_save_61 : decode cX9_save 61 = .ok (.getfield 32, 3) := by decide +kernel
theorem dX9_save_64 : decode cX9_save 64 = .ok (.getfield 209, 3) := by decide +kernel
theorem dX9_save_67 : decode cX9_save 67 = .ok (.ireturn, 1) := by decide +kernel
theorem dX9_open_0 : decode cX9_open 0 = .ok (.aload_n 0, 1) := by decide +kernel
theorem dX9_open_1 : decode cX9_open 1 = .ok (.iload_n 1, 1) := by decide +kernel
theorem dX9_open_2 : decode cX9_open 2 = .ok (.invokevirtual 89, 3) := by decide +kernel
theorem dX9_open_5 : decode cX9_open 5 = .ok (.astore_n 2, 1) := by decide +kernel
theorem dX9_open_6 : decode cX9_open 6 = .ok (.aload_n 2, 1) := by decide +kernel
theorem dX9_open_7 : decode cX9_open 7 = .ok (.ifnonnull 6, 3) := by decide +kernel
theorem dX9_open_10 : decode cX9_open 10 = .ok (.bipush (-2), 2) := by decide +kernel
theorem dX9_open_12 : decode cX9_open 12 = .ok (.ireturn, 1) := by decide +kernel
theorem dX9_open_13 : decode cX9_open 13 = .ok (.aload_n 0, 1) := by decide +kernel
theorem dX9_open_14 : decode cX9_open 14 = .ok (.iconst 1, 1) := by decide +kernel
theorem dX9_open_15 : decode cX9_open 15 = .ok (.putfield 222, 3) := by decide +kernel
theorem dX9_open_18 : decode cX9_open 18 = .ok (.aload_n 0, 1) := by decide +kernel
theorem dX9_open_19 : decode cX9_open 19 = .ok (.getfield 55, 3) := by decide +kernel
theorem dX9_open_22 : decode cX9_open 22 = .ok (.aload_n 0, 1) := by decide +kernel
theorem dX9_open_23 : decode cX9_open 23 = .ok (.getfield 69, 3) := by decide +kernel
theorem dX9_open_26 : decode cX9_open 26 = .ok (.invokevirtual 226, 3) := by decide +kernel
theorem dX9_open_29 : decode cX9_open 29 = .ok (.istore_n 3, 1) := by decide +kernel
theorem dX9_open_30 : decode cX9_open 30 = .ok (.aload_n 0, 1) := by decide +kernel
theorem dX9_open_31 : decode cX9_open 31 = .ok (.getfield 32, 3) := by decide +kernel
theorem dX9_open_34 : decode cX9_open 34 = .ok (.iconst 0, 1) := by decide +kernel
theorem dX9_open_35 : decode cX9_open 35 = .ok (.putfield 209, 3) := by decide +kernel
theorem dX9_open_38 : decode cX9_open 38 = .ok (.iload_n 3, 1) := by decide +kernel
theorem dX9_open_39 : decode cX9_open 39 = .ok (.ifCond .ne 5, 3) := by decide +kernel
theorem dX9_open_42 : decode cX9_open 42 = .ok (.iconst (-1), 1) := by decide +kernel
theorem dX9_open_43 : decode cX9_open 43 = .ok (.ireturn, 1) := by decide +kernel
theorem dX9_open_44 : decode cX9_open 44 = .ok (.aload_n 0, 1) := by decide +kernel
theorem dX9_open_45 : decode cX9_open 45 = .ok (.getfield 19, 3) := by decide +kernel
theorem dX9_open_48 : decode cX9_open 48 = .ok (.aload_n 0, 1) := by decide +kernel
theorem dX9_open_49 : decode cX9_open 49 = .ok (.getfield 12, 3) := by decide +kernel
theorem dX9_open_52 : decode cX9_open 52 = .ok (.invokevirtual 97, 3) := by decide +kernel
theorem dX9_open_55 : decode cX9_open 55 = .ok (.aload_n 2, 1) := by decide +kernel
theorem dX9_open_56 : decode cX9_open 56 = .ok (.aload_n 0, 1) := by decide +kernel
theorem dX9_open_57 : decode cX9_open 57 = .ok (.getfield 69, 3) := by decide +kernel
theorem dX9_open_60 : decode cX9_open 60 = .ok (.invokevirtual 164, 3) := by decide +kernel
theorem dX9_open_63 : decode cX9_open 63 = .ok (.aload_n 2, 1) := by decide +kernel
theorem dX9_open_64 : decode cX9_open 64 = .ok (.getfield 101, 3) := by decide +kernel
theorem dX9_open_67 : decode cX9_open 67 = .ok (.getfield 83, 3) := by decide +kernel
theorem dX9_open_70 : decode cX9_open 70 = .ok (.ireturn, 1) := by decide +kernel
theorem dX9_fault_0 : decode cX9_fault 0 = .ok (.aload_n 0, 1) := by decide +kernel
theorem dX9_fault_1 : decode cX9_fault 1 = .ok (.getfield 222, 3) := by decide +kernel
theorem dX9_fault_4 : decode cX9_fault 4 = .ok (.ifCond .ne 5, 3) := by decide +kernel
theorem dX9_fault_7 : decode cX9_fault 7 = .ok (.iconst (-1), 1) := by decide +kernel
theorem dX9_fault_8 : decode cX9_fault 8 = .ok (.ireturn, 1) := by decide +kernel
theorem dX9_fault_9 : decode cX9_fault 9 = .ok (.iload_n 1, 1) := by decide +kernel
theorem dX9_fault_10 : decode cX9_fault 10 = .ok (.lookupswitch 42 #[(0, 26), (1, 34)], 26) := by decide +kernel
theorem dX9_fault_36 : decode cX9_fault 36 = .ok (.aload_n 0, 1) := by decide +kernel
theorem dX9_fault_37 : decode cX9_fault 37 = .ok (.getfield 55, 3) := by decide +kernel
theorem dX9_fault_40 : decode cX9_fault 40 = .ok (.getfield 230, 3) := by decide +kernel
theorem dX9_fault_43 : decode cX9_fault 43 = .ok (.ireturn, 1) := by decide +kernel
theorem dX9_fault_44 : decode cX9_fault 44 = .ok (.aload_n 0, 1) := by decide +kernel
theorem dX9_fault_45 : decode cX9_fault 45 = .ok (.getfield 55, 3) := by decide +kernel
theorem dX9_fault_48 : decode cX9_fault 48 = .ok (.getfield 233, 3) := by decide +kernel
theorem dX9_fault_51 : decode cX9_fault 51 = .ok (.ireturn, 1) := by decide +kernel
theorem dX9_fault_52 : decode cX9_fault 52 = .ok (.iconst (-1), 1) := by decide +kernel
theorem dX9_fault_53 : decode cX9_fault 53 = .ok (.ireturn, 1) := by decide +kernel
theorem dX9_undo_0 : decode cX9_undo 0 = .ok (.aload_n 0, 1) := by decide +kernel
theorem dX9_undo_1 : decode cX9_undo 1 = .ok (.getfield 19, 3) := by decide +kernel
theorem dX9_undo_4 : decode cX9_undo 4 = .ok (.aload_n 0, 1) := by decide +kernel
theorem dX9_undo_5 : decode cX9_undo 5 = .ok (.getfield 12, 3) := by decide +kernel
theorem dX9_undo_8 : decode cX9_undo 8 = .ok (.invokevirtual 236, 3) := by decide +kernel
theorem dX9_undo_11 : decode cX9_undo 11 = .ok (.ifCond .eq 13, 3) := by decide +kernel
theorem dX9_undo_14 : decode cX9_undo 14 = .ok (.aload_n 0, 1) := by decide +kernel
theorem dX9_undo_15 : decode cX9_undo 15 = .ok (.getfield 19, 3) := by decide +kernel
theorem dX9_undo_18 : decode cX9_undo 18 = .ok (.getfield 240, 3) := by decide +kernel
theorem dX9_undo_21 : decode cX9_undo 21 = .ok (.goto 4, 3) := by decide +kernel
theorem dX9_undo_24 : decode cX9_undo 24 = .ok (.iconst (-1), 1) := by decide +kernel
theorem dX9_undo_25 : decode cX9_undo 25 = .ok (.ireturn, 1) := by decide +kernel
theorem dX9_column_0 : decode cX9_column 0 = .ok (.aload_n 0, 1) := by decide +kernel
theorem dX9_column_1 : decode cX9_column 1 = .ok (.iload_n 1, 1) := by decide +kernel
theorem dX9_column_2 : decode cX9_column 2 = .ok (.invokevirtual 89, 3) := by decide +kernel
theorem dX9_column_5 : decode cX9_column 5 = .ok (.astore_n 3, 1) := by decide +kernel
theorem dX9_column_6 : decode cX9_column 6 = .ok (.aload_n 3, 1) := by decide +kernel
theorem dX9_column_7 : decode cX9_column 7 = .ok (.ifnonnull 5, 3) := by decide +kernel
theorem dX9_column_10 : decode cX9_column 10 = .ok (.iconst (-1), 1) := by decide +kernel
theorem dX9_column_11 : decode cX9_column 11 = .ok (.ireturn, 1) := by decide +kernel
theorem dX9_column_12 : decode cX9_column 12 = .ok (.iload_n 2, 1) := by decide +kernel
theorem dX9_column_13 : decode cX9_column 13 = .ok (.tableswitch 94 0 6 #[43, 48, 56, 62, 68, 73, 88], 43) := by decide +kernel
theorem dX9_column_56 : decode cX9_column 56 = .ok (.aload_n 3, 1) := by decide +kernel
theorem dX9_column_57 : decode cX9_column 57 = .ok (.getfield 112, 3) := by decide +kernel
theorem dX9_column_60 : decode cX9_column 60 = .ok (.ireturn, 1) := by decide +kernel
theorem dX9_column_61 : decode cX9_column 61 = .ok (.aload_n 3, 1) := by decide +kernel
theorem dX9_column_62 : decode cX9_column 62 = .ok (.getfield 101, 3) := by decide +kernel
theorem dX9_column_65 : decode cX9_column 65 = .ok (.getfield 83, 3) := by decide +kernel
theorem dX9_column_68 : decode cX9_column 68 = .ok (.ireturn, 1) := by decide +kernel
theorem dX9_column_69 : decode cX9_column 69 = .ok (.aload_n 3, 1) := by decide +kernel
theorem dX9_column_70 : decode cX9_column 70 = .ok (.iconst 1, 1) := by decide +kernel
theorem dX9_column_71 : decode cX9_column 71 = .ok (.invokevirtual 131, 3) := by decide +kernel
theorem dX9_column_74 : decode cX9_column 74 = .ok (.ireturn, 1) := by decide +kernel
theorem dX9_column_75 : decode cX9_column 75 = .ok (.aload_n 3, 1) := by decide +kernel
theorem dX9_column_76 : decode cX9_column 76 = .ok (.iconst 5, 1) := by decide +kernel
theorem dX9_column_77 : decode cX9_column 77 = .ok (.invokevirtual 131, 3) := by decide +kernel
theorem dX9_column_80 : decode cX9_column 80 = .ok (.ireturn, 1) := by decide +kernel
theorem dX9_column_81 : decode cX9_column 81 = .ok (.aload_n 3, 1) := by decide +kernel
theorem dX9_column_82 : decode cX9_column 82 = .ok (.invokevirtual 241, 3) := by decide +kernel
theorem dX9_column_85 : decode cX9_column 85 = .ok (.ireturn, 1) := by decide +kernel
theorem dX9_column_86 : decode cX9_column 86 = .ok (.aload_n 3, 1) := by decide +kernel
theorem dX9_column_87 : decode cX9_column 87 = .ok (.iconst 5, 1) := by decide +kernel
theorem dX9_column_88 : decode cX9_column 88 = .ok (.invokevirtual 131, 3) := by decide +kernel
theorem dX9_column_91 : decode cX9_column 91 = .ok (.aload_n 3, 1) := by decide +kernel
theorem dX9_column_92 : decode cX9_column 92 = .ok (.aload_n 0, 1) := by decide +kernel
theorem dX9_column_93 : decode cX9_column 93 = .ok (.getfield 39, 3) := by decide +kernel
theorem dX9_column_96 : decode cX9_column 96 = .ok (.invokevirtual 245, 3) := by decide +kernel
theorem dX9_column_99 : decode cX9_column 99 = .ok (.isub, 1) := by decide +kernel
theorem dX9_column_100 : decode cX9_column 100 = .ok (.ireturn, 1) := by decide +kernel
theorem dX9_column_101 : decode cX9_column 101 = .ok (.aload_n 3, 1) := by decide +kernel
theorem dX9_column_102 : decode cX9_column 102 = .ok (.iconst 4, 1) := by decide +kernel
theorem dX9_column_103 : decode cX9_column 103 = .ok (.invokevirtual 131, 3) := by decide +kernel
theorem dX9_column_106 : decode cX9_column 106 = .ok (.ireturn, 1) := by decide +kernel
theorem dX9_column_107 : decode cX9_column 107 = .ok (.iconst (-1), 1) := by decide +kernel
theorem dX9_column_108 : decode cX9_column 108 = .ok (.ireturn, 1) := by decide +kernel
theorem dX9_block_0 : decode cX9_block 0 = .ok (.aload_n 0, 1) := by decide +kernel
theorem dX9_block_1 : decode cX9_block 1 = .ok (.iload_n 1, 1) := by decide +kernel
theorem dX9_block_2 : decode cX9_block 2 = .ok (.iload_n 2, 1) := by decide +kernel
theorem dX9_block_3 : decode cX9_block 3 = .ok (.invokevirtual 248, 3) := by decide +kernel
theorem dX9_block_6 : decode cX9_block 6 = .ok (.astore 4, 2) := by decide +kernel
theorem dX9_block_8 : decode cX9_block 8 = .ok (.aload 4, 2) := by decide +kernel
theorem dX9_block_10 : decode cX9_block 10 = .ok (.ifnull 7, 3) := by decide +kernel
theorem dX9_block_13 : decode cX9_block 13 = .ok (.iload_n 3, 1) := by decide +kernel
theorem dX9_block_14 : decode cX9_block 14 = .ok (.ifCond .ge 5, 3) := by decide +kernel
theorem dX9_block_17 : decode cX9_block 17 = .ok (.iconst (-1), 1) := by decide +kernel
theorem dX9_block_18 : decode cX9_block 18 = .ok (.ireturn, 1) := by decide +kernel
theorem dX9_block_19 : decode cX9_block 19 = .ok (.iload_n 3, 1) := by decide +kernel
theorem dX9_block_20 : decode cX9_block 20 = .ok (.iconst 5, 1) := by decide +kernel
theorem dX9_block_21 : decode cX9_block 21 = .ok (.if_icmp .gt 11, 3) := by decide +kernel
theorem dX9_block_24 : decode cX9_block 24 = .ok (.aload 4, 2) := by decide +kernel
theorem dX9_block_26 : decode cX9_block 26 = .ok (.iload_n 2, 1) := by decide +kernel
theorem dX9_block_27 : decode cX9_block 27 = .ok (.iload_n 3, 1) := by decide +kernel
theorem dX9_block_28 : decode cX9_block 28 = .ok (.invokevirtual 115, 3) := by decide +kernel
theorem dX9_block_31 : decode cX9_block 31 = .ok (.ireturn, 1) := by decide +kernel
theorem dX9_block_32 : decode cX9_block 32 = .ok (.iload_n 3, 1) := by decide +kernel
theorem dX9_block_33 : decode cX9_block 33 = .ok (.lookupswitch 41 #[(6, 27), (7, 34)], 27) := by decide +kernel
theorem dX9_block_60 : decode cX9_block 60 = .ok (.aload 4, 2) := by decide +kernel
theorem dX9_block_62 : decode cX9_block 62 = .ok (.iload_n 2, 1) := by decide +kernel
theorem dX9_block_63 : decode cX9_block 63 = .ok (.invokevirtual 252, 3) := by decide +kernel
theorem dX9_block_66 : decode cX9_block 66 = .ok (.ireturn, 1) := by decide +kernel
theorem dX9_block_67 : decode cX9_block 67 = .ok (.aload 4, 2) := by decide +kernel
theorem dX9_block_69 : decode cX9_block 69 = .ok (.iload_n 2, 1) := by decide +kernel
theorem dX9_block_70 : decode cX9_block 70 = .ok (.invokevirtual 255, 3) := by decide +kernel
theorem dX9_block_73 : decode cX9_block 73 = .ok (.ireturn, 1) := by decide +kernel
theorem dX9_block_74 : decode cX9_block 74 = .ok (.iconst (-1), 1) := by decide +kernel
theorem dX9_block_75 : decode cX9_block 75 = .ok (.ireturn, 1) := by decide +kernel
theorem dX9_like_0 : decode cX9_like 0 = .ok (.aload_n 0, 1) := by decide +kernel
theorem dX9_like_1 : decode cX9_like 1 = .ok (.iload_n 1, 1) := by decide +kernel
theorem dX9_like_2 : decode cX9_like 2 = .ok (.invokevirtual 89, 3) := by decide +kernel
theorem dX9_like_5 : decode cX9_like 5 = .ok (.astore 4, 2) := by decide +kernel
theorem dX9_like_7 : decode cX9_like 7 = .ok (.aload 4, 2) := by decide +kernel
theorem dX9_like_9 : decode cX9_like 9 = .ok (.ifnull 24, 3) := by decide +kernel
theorem dX9_like_12 : decode cX9_like 12 = .ok (.iload_n 2, 1) := by decide +kernel
theorem dX9_like_13 : decode cX9_like 13 = .ok (.iconst (-1), 1) := by decide +kernel
theorem dX9_like_14 : decode cX9_like 14 = .ok (.if_icmp .lt 19, 3) := by decide +kernel
theorem dX9_like_17 : decode cX9_like 17 = .ok (.iload_n 2, 1) := by decide +kernel
theorem dX9_like_18 : decode cX9_like 18 = .ok (.iconst 3, 1) := by decide +kernel
theorem dX9_like_19 : decode cX9_like 19 = .ok (.if_icmp .ge 14, 3) := by decide +kernel
theorem dX9_like_22 : decode cX9_like 22 = .ok (.iload_n 3, 1) := by decide +kernel
theorem dX9_like_23 : decode cX9_like 23 = .ok (.iconst (-1), 1) := by decide +kernel
theorem dX9_like_24 : decode cX9_like 24 = .ok (.if_icmp .lt 9, 3) := by decide +kernel
theorem dX9_like_27 : decode cX9_like 27 = .ok (.iload_n 3, 1) := by decide +kernel
theorem dX9_like_28 : decode cX9_like 28 = .ok (.bipush 32, 2) := by decide +kernel
theorem dX9_like_30 : decode cX9_like 30 = .ok (.if_icmp .le 5, 3) := by decide +kernel
theorem dX9_like_33 : decode cX9_like 33 = .ok (.iconst (-1), 1) := by decide +kernel
theorem dX9_like_34 : decode cX9_like 34 = .ok (.ireturn, 1) := by decide +kernel
theorem dX9_like_35 : decode cX9_like 35 = .ok (.aload 4, 2) := by decide +kernel
theorem dX9_like_37 : decode cX9_like 37 = .ok (.iload_n 2, 1) := by decide +kernel
theorem dX9_like_38 : decode cX9_like 38 = .ok (.iload_n 3, 1) := by decide +kernel
theorem dX9_like_39 : decode cX9_like 39 = .ok (.invokevirtual 258, 3) := by decide +kernel
theorem dX9_like_42 : decode cX9_like 42 = .ok (.ireturn, 1) := by decide +kernel
theorem dX9_filled_0 : decode cX9_filled 0 = .ok (.aload_n 0, 1) := by decide +kernel
theorem dX9_filled_1 : decode cX9_filled 1 = .ok (.iload_n 1, 1) := by decide +kernel
theorem dX9_filled_2 : decode cX9_filled 2 = .ok (.invokevirtual 89, 3) := by decide +kernel
theorem dX9_filled_5 : decode cX9_filled 5 = .ok (.astore_n 2, 1) := by decide +kernel
theorem dX9_filled_6 : decode cX9_filled 6 = .ok (.aload_n 2, 1) := by decide +kernel
theorem dX9_filled_7 : decode cX9_filled 7 = .ok (.ifnonnull 5, 3) := by decide +kernel
theorem dX9_filled_10 : decode cX9_filled 10 = .ok (.iconst (-1), 1) := by decide +kernel
theorem dX9_filled_11 : decode cX9_filled 11 = .ok (.ireturn, 1) := by decide +kernel
theorem dX9_filled_12 : decode cX9_filled 12 = .ok (.aload_n 2, 1) := by decide +kernel
theorem dX9_filled_13 : decode cX9_filled 13 = .ok (.invokevirtual 241, 3) := by decide +kernel
theorem dX9_filled_16 : decode cX9_filled 16 = .ok (.bipush 32, 2) := by decide +kernel
theorem dX9_filled_18 : decode cX9_filled 18 = .ok (.imul, 1) := by decide +kernel
theorem dX9_filled_19 : decode cX9_filled 19 = .ok (.aload_n 2, 1) := by decide +kernel
theorem dX9_filled_20 : decode cX9_filled 20 = .ok (.iconst 5, 1) := by decide +kernel
theorem dX9_filled_21 : decode cX9_filled 21 = .ok (.invokevirtual 131, 3) := by decide +kernel
theorem dX9_filled_24 : decode cX9_filled 24 = .ok (.isub, 1) := by decide +kernel
theorem dX9_filled_25 : decode cX9_filled 25 = .ok (.ireturn, 1) := by decide +kernel
theorem dX9_empties_0 : decode cX9_empties 0 = .ok (.aload_n 0, 1) := by decide +kernel
theorem dX9_empties_1 : decode cX9_empties 1 = .ok (.iload_n 1, 1) := by decide +kernel
theorem dX9_empties_2 : decode cX9_empties 2 = .ok (.invokevirtual 89, 3) := by decide +kernel
theorem dX9_empties_5 : decode cX9_empties 5 = .ok (.astore 4, 2) := by decide +kernel
theorem dX9_empties_7 : decode cX9_empties 7 = .ok (.aload 4, 2) := by decide +kernel
theorem dX9_empties_9 : decode cX9_empties 9 = .ok (.ifnull 16, 3) := by decide +kernel
theorem dX9_empties_12 : decode cX9_empties 12 = .ok (.aload 4, 2) := by decide +kernel
theorem dX9_empties_14 : decode cX9_empties 14 = .ok (.getfield 101, 3) := by decide +kernel
theorem dX9_empties_17 : decode cX9_empties 17 = .ok (.iload_n 2, 1) := by decide +kernel
theorem dX9_empties_18 : decode cX9_empties 18 = .ok (.iload_n 3, 1) := by decide +kernel
theorem dX9_empties_19 : decode cX9_empties 19 = .ok (.invokevirtual 168, 3) := by decide +kernel
theorem dX9_empties_22 : decode cX9_empties 22 = .ok (.ifCond .ne 5, 3) := by decide +kernel
theorem dX9_empties_25 : decode cX9_empties 25 = .ok (.iconst (-1), 1) := by decide +kernel
theorem dX9_empties_26 : decode cX9_empties 26 = .ok (.ireturn, 1) := by decide +kernel
theorem dX9_empties_27 : decode cX9_empties 27 = .ok (.aload 4, 2) := by decide +kernel
theorem dX9_empties_29 : decode cX9_empties 29 = .ok (.getfield 101, 3) := by decide +kernel
theorem dX9_empties_32 : decode cX9_empties 32 = .ok (.iload_n 2, 1) := by decide +kernel
theorem dX9_empties_33 : decode cX9_empties 33 = .ok (.iload_n 3, 1) := by decide +kernel
theorem dX9_empties_34 : decode cX9_empties 34 = .ok (.invokevirtual 261, 3) := by decide +kernel
theorem dX9_empties_37 : decode cX9_empties 37 = .ok (.ireturn, 1) := by decide +kernel
theorem dX9_base_0 : decode cX9_base 0 = .ok (.aload_n 0, 1) := by decide +kernel
theorem dX9_base_1 : decode cX9_base 1 = .ok (.iload_n 1, 1) := by decide +kernel
theorem dX9_base_2 : decode cX9_base 2 = .ok (.iload_n 2, 1) := by decide +kernel
theorem dX9_base_3 : decode cX9_base 3 = .ok (.invokevirtual 248, 3) := by decide +kernel
theorem dX9_base_6 : decode cX9_base 6 = .ok (.astore 4, 2) := by decide +kernel
theorem dX9_base_8 : decode cX9_base 8 = .ok (.aload 4, 2) := by decide +kernel
theorem dX9_base_10 : decode cX9_base 10 = .ok (.ifnonnull 5, 3) := by decide +kernel
theorem dX9_base_13 : decode cX9_base 13 = .ok (.iconst 0, 1) := by decide +kernel
theorem dX9_base_14 : decode cX9_base 14 = .ok (.ireturn, 1) := by decide +kernel
theorem dX9_base_15 : decode cX9_base 15 = .ok (.iload_n 3, 1) := by decide +kernel
theorem dX9_base_16 : decode cX9_base 16 = .ok (.lookupswitch 46 #[(0, 28), (1, 37)], 28) := by decide +kernel
theorem dX9_base_44 : decode cX9_base 44 = .ok (.aload 4, 2) := by decide +kernel
theorem dX9_base_46 : decode cX9_base 46 = .ok (.iload_n 2, 1) := by decide +kernel
theorem dX9_base_47 : decode cX9_base 47 = .ok (.bipush 6, 2) := by decide +kernel
theorem dX9_base_49 : decode cX9_base 49 = .ok (.invokevirtual 115, 3) := by decide +kernel
theorem dX9_base_52 : decode cX9_base 52 = .ok (.ireturn, 1) := by decide +kernel
theorem dX9_base_53 : decode cX9_base 53 = .ok (.aload 4, 2) := by decide +kernel
theorem dX9_base_55 : decode cX9_base 55 = .ok (.iload_n 2, 1) := by decide +kernel
theorem dX9_base_56 : decode cX9_base 56 = .ok (.bipush 7, 2) := by decide +kernel
theorem dX9_base_58 : decode cX9_base 58 = .ok (.invokevirtual 115, 3) := by decide +kernel
theorem dX9_base_61 : decode cX9_base 61 = .ok (.ireturn, 1) := by decide +kernel
theorem dX9_base_62 : decode cX9_base 62 = .ok (.iconst 0, 1) := by decide +kernel
theorem dX9_base_63 : decode cX9_base 63 = .ok (.ireturn, 1) := by decide +kernel
theorem dX9_bits_0 : decode cX9_bits 0 = .ok (.aload_n 0, 1) := by decide +kernel
theorem dX9_bits_1 : decode cX9_bits 1 = .ok (.iload_n 1, 1) := by decide +kernel
theorem dX9_bits_2 : decode cX9_bits 2 = .ok (.iload_n 2, 1) := by decide +kernel
theorem dX9_bits_3 : decode cX9_bits 3 = .ok (.invokevirtual 248, 3) := by decide +kernel
theorem dX9_bits_6 : decode cX9_bits 6 = .ok (.astore 4, 2) := by decide +kernel
theorem dX9_bits_8 : decode cX9_bits 8 = .ok (.aload 4, 2) := by decide +kernel
theorem dX9_bits_10 : decode cX9_bits 10 = .ok (.ifnonnull 5, 3) := by decide +kernel
theorem dX9_bits_13 : decode cX9_bits 13 = .ok (.iconst 0, 1) := by decide +kernel
theorem dX9_bits_14 : decode cX9_bits 14 = .ok (.ireturn, 1) := by decide +kernel
theorem dX9_bits_15 : decode cX9_bits 15 = .ok (.aload_n 0, 1) := by decide +kernel
theorem dX9_bits_16 : decode cX9_bits 16 = .ok (.getfield 46, 3) := by decide +kernel
theorem dX9_bits_19 : decode cX9_bits 19 = .ok (.aload 4, 2) := by decide +kernel
theorem dX9_bits_21 : decode cX9_bits 21 = .ok (.iload_n 2, 1) := by decide +kernel
theorem dX9_bits_22 : decode cX9_bits 22 = .ok (.aload_n 0, 1) := by decide +kernel
theorem dX9_bits_23 : decode cX9_bits 23 = .ok (.getfield 39, 3) := by decide +kernel
theorem dX9_bits_26 : decode cX9_bits 26 = .ok (.invokevirtual 215, 3) := by decide +kernel
theorem dX9_bits_29 : decode cX9_bits 29 = .ok (.aload_n 0, 1) := by decide +kernel
theorem dX9_bits_30 : decode cX9_bits 30 = .ok (.getfield 46, 3) := by decide +kernel
theorem dX9_bits_33 : decode cX9_bits 33 = .ok (.iload_n 3, 1) := by decide +kernel
theorem dX9_bits_34 : decode cX9_bits 34 = .ok (.invokevirtual 264, 3) := by decide +kernel
theorem dX9_bits_37 : decode cX9_bits 37 = .ok (.ireturn, 1) := by decide +kernel
theorem dX9_bound_0 : decode cX9_bound 0 = .ok (.aload_n 0, 1) := by decide +kernel
theorem dX9_bound_1 : decode cX9_bound 1 = .ok (.iload_n 1, 1) := by decide +kernel
theorem dX9_bound_2 : decode cX9_bound 2 = .ok (.iload_n 2, 1) := by decide +kernel
theorem dX9_bound_3 : decode cX9_bound 3 = .ok (.invokevirtual 248, 3) := by decide +kernel
theorem dX9_bound_6 : decode cX9_bound 6 = .ok (.astore 4, 2) := by decide +kernel
theorem dX9_bound_8 : decode cX9_bound 8 = .ok (.aload 4, 2) := by decide +kernel
theorem dX9_bound_10 : decode cX9_bound 10 = .ok (.ifnull 23, 3) := by decide +kernel
theorem dX9_bound_13 : decode cX9_bound 13 = .ok (.aload 4, 2) := by decide +kernel
theorem dX9_bound_15 : decode cX9_bound 15 = .ok (.iload_n 2, 1) := by decide +kernel
theorem dX9_bound_16 : decode cX9_bound 16 = .ok (.iconst 2, 1) := by decide +kernel
theorem dX9_bound_17 : decode cX9_bound 17 = .ok (.invokevirtual 115, 3) := by decide +kernel
theorem dX9_bound_20 : decode cX9_bound 20 = .ok (.ifCond .ne 13, 3) := by decide +kernel
theorem dX9_bound_23 : decode cX9_bound 23 = .ok (.aload 4, 2) := by decide +kernel
theorem dX9_bound_25 : decode cX9_bound 25 = .ok (.iload_n 2, 1) := by decide +kernel
theorem dX9_bound_26 : decode cX9_bound 26 = .ok (.iconst 1, 1) := by decide +kernel
theorem dX9_bound_27 : decode cX9_bound 27 = .ok (.invokevirtual 115, 3) := by decide +kernel
theorem dX9_bound_30 : decode cX9_bound 30 = .ok (.ifCond .ne 7, 3) := by decide +kernel
theorem dX9_bound_33 : decode cX9_bound 33 = .ok (.ldc2_w 267, 3) := by decide +kernel
theorem dX9_bound_36 : decode cX9_bound 36 = .ok (.lreturn, 1) := by decide +kernel
theorem dX9_bound_37 : decode cX9_bound 37 = .ok (.iload_n 3, 1) := by decide +kernel
theorem dX9_bound_38 : decode cX9_bound 38 = .ok (.ifCond .ne 13, 3) := by decide +kernel
theorem dX9_bound_41 : decode cX9_bound 41 = .ok (.aload 4, 2) := by decide +kernel
theorem dX9_bound_43 : decode cX9_bound 43 = .ok (.iload_n 2, 1) := by decide +kernel
theorem dX9_bound_44 : decode cX9_bound 44 = .ok (.bipush 6, 2) := by decide +kernel
theorem dX9_bound_46 : decode cX9_bound 46 = .ok (.invokevirtual 115, 3) := by decide +kernel
theorem dX9_bound_49 : decode cX9_bound 49 = .ok (.i2l, 1) := by decide +kernel
theorem dX9_bound_50 : decode cX9_bound 50 = .ok (.lreturn, 1) := by decide +kernel
theorem dX9_bound_51 : decode cX9_bound 51 = .ok (.aload 4, 2) := by decide +kernel
theorem dX9_bound_53 : decode cX9_bound 53 = .ok (.iload_n 2, 1) := by decide +kernel
theorem dX9_bound_54 : decode cX9_bound 54 = .ok (.iconst 4, 1) := by decide +kernel
theorem dX9_bound_55 : decode cX9_bound 55 = .ok (.invokevirtual 115, 3) := by decide +kernel
theorem dX9_bound_58 : decode cX9_bound 58 = .ok (.ifCond .le 9, 3) := by decide +kernel
theorem dX9_bound_61 : decode cX9_bound 61 = .ok (.ldc2_w 271, 3) := by decide +kernel
theorem dX9_bound_64 : decode cX9_bound 64 = .ok (.goto 15, 3) := by decide +kernel
theorem dX9_bound_67 : decode cX9_bound 67 = .ok (.aload 4, 2) := by decide +kernel
theorem dX9_bound_69 : decode cX9_bound 69 = .ok (.iload_n 2, 1) := by decide +kernel
theorem dX9_bound_70 : decode cX9_bound 70 = .ok (.invokevirtual 273, 3) := by decide +kernel
theorem dX9_bound_73 : decode cX9_bound 73 = .ok (.ldc2_w 271, 3) := by decide +kernel
theorem dX9_bound_76 : decode cX9_bound 76 = .ok (.invokestatic 277, 3) := by decide +kernel
theorem dX9_bound_79 : decode cX9_bound 79 = .ok (.lreturn, 1) := by decide +kernel
theorem dX9_value_0 : decode cX9_value 0 = .ok (.aload_n 0, 1) := by decide +kernel
theorem dX9_value_1 : decode cX9_value 1 = .ok (.iload_n 1, 1) := by decide +kernel
theorem dX9_value_2 : decode cX9_value 2 = .ok (.invokevirtual 89, 3) := by decide +kernel
theorem dX9_value_5 : decode cX9_value 5 = .ok (.astore_n 3, 1) := by decide +kernel
theorem dX9_value_6 : decode cX9_value 6 = .ok (.aload_n 3, 1) := by decide +kernel
theorem dX9_value_7 : decode cX9_value 7 = .ok (.ifnonnull 9, 3) := by decide +kernel
theorem dX9_value_10 : decode cX9_value 10 = .ok (.ldc2_w 267, 3) := by decide +kernel
theorem dX9_value_13 : decode cX9_value 13 = .ok (.goto 11, 3) := by decide +kernel
theorem dX9_value_16 : decode cX9_value 16 = .ok (.aload_n 3, 1) := by decide +kernel
theorem dX9_value_17 : decode cX9_value 17 = .ok (.getfield 101, 3) := by decide +kernel
theorem dX9_value_20 : decode cX9_value 20 = .ok (.iload_n 2, 1) := by decide +kernel
theorem dX9_value_21 : decode cX9_value 21 = .ok (.invokevirtual 283, 3) := by decide +kernel
theorem dX9_value_24 : decode cX9_value 24 = .ok (.lreturn, 1) := by decide +kernel
theorem dX9_blockOf_0 : decode cX9_blockOf 0 = .ok (.aload_n 0, 1) := by decide +kernel
theorem dX9_blockOf_1 : decode cX9_blockOf 1 = .ok (.iload_n 1, 1) := by decide +kernel
theorem dX9_blockOf_2 : decode cX9_blockOf 2 = .ok (.invokevirtual 89, 3) := by decide +kernel
theorem dX9_blockOf_5 : decode cX9_blockOf 5 = .ok (.astore_n 3, 1) := by decide +kernel
theorem dX9_blockOf_6 : decode cX9_blockOf 6 = .ok (.aload_n 3, 1) := by decide +kernel
theorem dX9_blockOf_7 : decode cX9_blockOf 7 = .ok (.ifnonnull 7, 3) := by decide +kernel
theorem dX9_blockOf_10 : decode cX9_blockOf 10 = .ok (.iconst (-1), 1) := by decide +kernel
theorem dX9_blockOf_11 : decode cX9_blockOf 11 = .ok (.goto 8, 3) := by decide +kernel
theorem dX9_blockOf_14 : decode cX9_blockOf 14 = .ok (.aload_n 3, 1) := by decide +kernel
theorem dX9_blockOf_15 : decode cX9_blockOf 15 = .ok (.iload_n 2, 1) := by decide +kernel
theorem dX9_blockOf_16 : decode cX9_blockOf 16 = .ok (.invokevirtual 286, 3) := by decide +kernel
theorem dX9_blockOf_19 : decode cX9_blockOf 19 = .ok (.ireturn, 1) := by decide +kernel
theorem dX9_read_0 : decode cX9_read 0 = .ok (.aload_n 0, 1) := by decide +kernel
theorem dX9_read_1 : decode cX9_read 1 = .ok (.iload_n 1, 1) := by decide +kernel
theorem dX9_read_2 : decode cX9_read 2 = .ok (.iload_n 2, 1) := by decide +kernel
theorem dX9_read_3 : decode cX9_read 3 = .ok (.invokevirtual 289, 3) := by decide +kernel
theorem dX9_read_6 : decode cX9_read 6 = .ok (.astore_n 3, 1) := by decide +kernel
theorem dX9_read_7 : decode cX9_read 7 = .ok (.aload_n 3, 1) := by decide +kernel
theorem dX9_read_8 : decode cX9_read 8 = .ok (.ifnonnull 5, 3) := by decide +kernel
theorem dX9_read_11 : decode cX9_read 11 = .ok (.iconst (-1), 1) := by decide +kernel
theorem dX9_read_12 : decode cX9_read 12 = .ok (.ireturn, 1) := by decide +kernel
theorem dX9_read_13 : decode cX9_read 13 = .ok (.aload_n 3, 1) := by decide +kernel
theorem dX9_read_14 : decode cX9_read 14 = .ok (.getfield 101, 3) := by decide +kernel
theorem dX9_read_17 : decode cX9_read 17 = .ok (.iload_n 2, 1) := by decide +kernel
theorem dX9_read_18 : decode cX9_read 18 = .ok (.invokevirtual 292, 3) := by decide +kernel
theorem dX9_read_21 : decode cX9_read 21 = .ok (.ifCond .ne 5, 3) := by decide +kernel
theorem dX9_read_24 : decode cX9_read 24 = .ok (.iconst 0, 1) := by decide +kernel
theorem dX9_read_25 : decode cX9_read 25 = .ok (.ireturn, 1) := by decide +kernel
theorem dX9_read_26 : decode cX9_read 26 = .ok (.aload_n 3, 1) := by decide +kernel
theorem dX9_read_27 : decode cX9_read 27 = .ok (.iload_n 2, 1) := by decide +kernel
theorem dX9_read_28 : decode cX9_read 28 = .ok (.invokevirtual 286, 3) := by decide +kernel
theorem dX9_read_31 : decode cX9_read 31 = .ok (.istore 4, 2) := by decide +kernel
theorem dX9_read_33 : decode cX9_read 33 = .ok (.aload_n 3, 1) := by decide +kernel
theorem dX9_read_34 : decode cX9_read 34 = .ok (.iload 4, 2) := by decide +kernel
theorem dX9_read_36 : decode cX9_read 36 = .ok (.iconst 2, 1) := by decide +kernel
theorem dX9_read_37 : decode cX9_read 37 = .ok (.invokevirtual 115, 3) := by decide +kernel
theorem dX9_read_40 : decode cX9_read 40 = .ok (.ifCond .ne 7, 3) := by decide +kernel
theorem dX9_read_43 : decode cX9_read 43 = .ok (.iconst 1, 1) := by decide +kernel
theorem dX9_read_44 : decode cX9_read 44 = .ok (.goto 10, 3) := by decide +kernel
theorem dX9_read_47 : decode cX9_read 47 = .ok (.aload_n 3, 1) := by decide +kernel
theorem dX9_read_48 : decode cX9_read 48 = .ok (.iload 4, 2) := by decide +kernel
theorem dX9_read_50 : decode cX9_read 50 = .ok (.iload_n 2, 1) := by decide +kernel
theorem dX9_read_51 : decode cX9_read 51 = .ok (.invokevirtual 295, 3) := by decide +kernel
theorem dX9_read_54 : decode cX9_read 54 = .ok (.ireturn, 1) := by decide +kernel
theorem dX9_patched_0 : decode cX9_patched 0 = .ok (.aload_n 0, 1) := by decide +kernel
theorem dX9_patched_1 : decode cX9_patched 1 = .ok (.iload_n 1, 1) := by decide +kernel
theorem dX9_patched_2 : decode cX9_patched 2 = .ok (.iload_n 2, 1) := by decide +kernel
theorem dX9_patched_3 : decode cX9_patched 3 = .ok (.invokevirtual 289, 3) := by decide +kernel
theorem dX9_patched_6 : decode cX9_patched 6 = .ok (.astore_n 3, 1) := by decide +kernel
theorem dX9_patched_7 : decode cX9_patched 7 = .ok (.aload_n 3, 1) := by decide +kernel
theorem dX9_patched_8 : decode cX9_patched 8 = .ok (.ifnull 14, 3) := by decide +kernel
theorem dX9_patched_11 : decode cX9_patched 11 = .ok (.aload_n 3, 1) := by decide +kernel
theorem dX9_patched_12 : decode cX9_patched 12 = .ok (.getfield 101, 3) := by decide +kernel
theorem dX9_patched_15 : decode cX9_patched 15 = .ok (.iload_n 2, 1) := by decide +kernel
theorem dX9_patched_16 : decode cX9_patched 16 = .ok (.invokevirtual 292, 3) := by decide +kernel
theorem dX9_patched_19 : decode cX9_patched 19 = .ok (.ifCond .ne 5, 3) := by decide +kernel
theorem dX9_patched_22 : decode cX9_patched 22 = .ok (.iconst 0, 1) := by decide +kernel
theorem dX9_patched_23 : decode cX9_patched 23 = .ok (.ireturn, 1) := by decide +kernel
theorem dX9_patched_24 : decode cX9_patched 24 = .ok (.aload_n 3, 1) := by decide +kernel
theorem dX9_patched_25 : decode cX9_patched 25 = .ok (.iload_n 2, 1) := by decide +kernel
theorem dX9_patched_26 : decode cX9_patched 26 = .ok (.invokevirtual 286, 3) := by decide +kernel
theorem dX9_patched_29 : decode cX9_patched 29 = .ok (.istore 4, 2) := by decide +kernel
theorem dX9_patched_31 : decode cX9_patched 31 = .ok (.aload_n 3, 1) := by decide +kernel
theorem dX9_patched_32 : decode cX9_patched 32 = .ok (.iload 4, 2) := by decide +kernel
theorem dX9_patched_34 : decode cX9_patched 34 = .ok (.iload_n 2, 1) := by decide +kernel
theorem dX9_patched_35 : decode cX9_patched 35 = .ok (.invokevirtual 295, 3) := by decide +kernel
theorem dX9_patched_38 : decode cX9_patched 38 = .ok (.istore 5, 2) := by decide +kernel
theorem dX9_patched_40 : decode cX9_patched 40 = .ok (.aload_n 3, 1) := by decide +kernel
theorem dX9_patched_41 : decode cX9_patched 41 = .ok (.iload 4, 2) := by decide +kernel
theorem dX9_patched_43 : decode cX9_patched 43 = .ok (.iconst 2, 1) := by decide +kernel
theorem dX9_patched_44 : decode cX9_patched 44 = .ok (.invokevirtual 115, 3) := by decide +kernel
theorem dX9_patched_47 : decode cX9_patched 47 = .ok (.ifCond .eq 6, 3) := by decide +kernel
theorem dX9_patched_50 : decode cX9_patched 50 = .ok (.iinc 5 (-1), 3) := by decide +kernel
theorem dX9_patched_53 : decode cX9_patched 53 = .ok (.aload_n 3, 1) := by decide +kernel
theorem dX9_patched_54 : decode cX9_patched 54 = .ok (.aload_n 0, 1) := by decide +kernel
theorem dX9_patched_55 : decode cX9_patched 55 = .ok (.getfield 39, 3) := by decide +kernel
theorem dX9_patched_58 : decode cX9_patched 58 = .ok (.iload 4, 2) := by decide +kernel
theorem dX9_patched_60 : decode cX9_patched 60 = .ok (.invokevirtual 298, 3) := by decide +kernel
theorem dX9_patched_63 : decode cX9_patched 63 = .ok (.aload_n 0, 1) := by decide +kernel
theorem dX9_patched_64 : decode cX9_patched 64 = .ok (.getfield 39, 3) := by decide +kernel
theorem dX9_patched_67 : decode cX9_patched 67 = .ok (.iload 5, 2) := by decide +kernel
theorem dX9_patched_69 : decode cX9_patched 69 = .ok (.aload_n 3, 1) := by decide +kernel
theorem dX9_patched_70 : decode cX9_patched 70 = .ok (.iload 4, 2) := by decide +kernel
theorem dX9_patched_72 : decode cX9_patched 72 = .ok (.iconst 3, 1) := by decide +kernel
theorem dX9_patched_73 : decode cX9_patched 73 = .ok (.invokevirtual 115, 3) := by decide +kernel
theorem dX9_patched_76 : decode cX9_patched 76 = .ok (.invokevirtual 301, 3) := by decide +kernel
theorem dX9_patched_79 : decode cX9_patched 79 = .ok (.ireturn, 1) := by decide +kernel
theorem dX9_part_0 : decode cX9_part 0 = .ok (.aload_n 0, 1) := by decide +kernel
theorem dX9_part_1 : decode cX9_part 1 = .ok (.iload_n 1, 1) := by decide +kernel
theorem dX9_part_2 : decode cX9_part 2 = .ok (.iload_n 2, 1) := by decide +kernel
theorem dX9_part_3 : decode cX9_part 3 = .ok (.invokevirtual 248, 3) := by decide +kernel
theorem dX9_part_6 : decode cX9_part 6 = .ok (.astore 4, 2) := by decide +kernel
theorem dX9_part_8 : decode cX9_part 8 = .ok (.aload 4, 2) := by decide +kernel
theorem dX9_part_10 : decode cX9_part 10 = .ok (.ifnonnull 7, 3) := by decide +kernel
theorem dX9_part_13 : decode cX9_part 13 = .ok (.ldc2_w 304, 3) := by decide +kernel
theorem dX9_part_16 : decode cX9_part 16 = .ok (.lreturn, 1) := by decide +kernel
theorem dX9_part_17 : decode cX9_part 17 = .ok (.aload 4, 2) := by decide +kernel
theorem dX9_part_19 : decode cX9_part 19 = .ok (.aload_n 0, 1) := by decide +kernel
theorem dX9_part_20 : decode cX9_part 20 = .ok (.getfield 39, 3) := by decide +kernel
theorem dX9_part_23 : decode cX9_part 23 = .ok (.iload_n 2, 1) := by decide +kernel
theorem dX9_part_24 : decode cX9_part 24 = .ok (.invokevirtual 298, 3) := by decide +kernel
theorem dX9_part_27 : decode cX9_part 27 = .ok (.aload_n 0, 1) := by decide +kernel
theorem dX9_part_28 : decode cX9_part 28 = .ok (.getfield 39, 3) := by decide +kernel
theorem dX9_part_31 : decode cX9_part 31 = .ok (.iload_n 3, 1) := by decide +kernel
theorem dX9_part_32 : decode cX9_part 32 = .ok (.invokevirtual 306, 3) := by decide +kernel
theorem dX9_part_35 : decode cX9_part 35 = .ok (.ifCond .eq 18, 3) := by decide +kernel
theorem dX9_part_38 : decode cX9_part 38 = .ok (.aload_n 0, 1) := by decide +kernel
theorem dX9_part_39 : decode cX9_part 39 = .ok (.getfield 39, 3) := by decide +kernel
theorem dX9_part_42 : decode cX9_part 42 = .ok (.getfield 309, 3) := by decide +kernel
theorem dX9_part_45 : decode cX9_part 45 = .ok (.iload_n 3, 1) := by decide +kernel
theorem dX9_part_46 : decode cX9_part 46 = .ok (.iaload, 1) := by decide +kernel
theorem dX9_part_47 : decode cX9_part 47 = .ok (.invokestatic 312, 3) := by decide +kernel
theorem dX9_part_50 : decode cX9_part 50 = .ok (.goto 6, 3) := by decide +kernel
theorem dX9_part_53 : decode cX9_part 53 = .ok (.ldc2_w 304, 3) := by decide +kernel
theorem dX9_part_56 : decode cX9_part 56 = .ok (.lreturn, 1) := by decide +kernel
theorem dX9_pending_0 : decode cX9_pending 0 = .ok (.aload_n 0, 1) := by decide +kernel
theorem dX9_pending_1 : decode cX9_pending 1 = .ok (.getfield 12, 3) := by decide +kernel
theorem dX9_pending_4 : decode cX9_pending 4 = .ok (.getfield 79, 3) := by decide +kernel
theorem dX9_pending_7 : decode cX9_pending 7 = .ok (.iload_n 1, 1) := by decide +kernel
theorem dX9_pending_8 : decode cX9_pending 8 = .ok (.invokevirtual 283, 3) := by decide +kernel
theorem dX9_pending_11 : decode cX9_pending 11 = .ok (.lreturn, 1) := by decide +kernel
theorem dX9_total_0 : decode cX9_total 0 = .ok (.aload_n 0, 1) := by decide +kernel
theorem dX9_total_1 : decode cX9_total 1 = .ok (.iload_n 1, 1) := by decide +kernel
theorem dX9_total_2 : decode cX9_total 2 = .ok (.invokevirtual 315, 3) := by decide +kernel
theorem dX9_total_5 : decode cX9_total 5 = .ok (.ifCond .eq 13, 3) := by decide +kernel
theorem dX9_total_8 : decode cX9_total 8 = .ok (.iload_n 2, 1) := by decide +kernel
theorem dX9_total_9 : decode cX9_total 9 = .ok (.ifCond .lt 9, 3) := by decide +kernel
theorem dX9_total_12 : decode cX9_total 12 = .ok (.iload_n 2, 1) := by decide +kernel
theorem dX9_total_13 : decode cX9_total 13 = .ok (.bipush 32, 2) := by decide +kernel
theorem dX9_total_15 : decode cX9_total 15 = .ok (.if_icmp .le 5, 3) := by decide +kernel
theorem dX9_total_18 : decode cX9_total 18 = .ok (.iconst (-1), 1) := by decide +kernel
theorem dX9_total_19 : decode cX9_total 19 = .ok (.ireturn, 1) := by decide +kernel
theorem dX9_total_20 : decode cX9_total 20 = .ok (.aload_n 0, 1) := by decide +kernel
theorem dX9_total_21 : decode cX9_total 21 = .ok (.getfield 39, 3) := by decide +kernel
theorem dX9_total_24 : decode cX9_total 24 = .ok (.iload_n 1, 1) := by decide +kernel
theorem dX9_total_25 : decode cX9_total 25 = .ok (.invokevirtual 318, 3) := by decide +kernel
theorem dX9_total_28 : decode cX9_total 28 = .ok (.aload_n 0, 1) := by decide +kernel
theorem dX9_total_29 : decode cX9_total 29 = .ok (.getfield 39, 3) := by decide +kernel
theorem dX9_total_32 : decode cX9_total 32 = .ok (.iload_n 2, 1) := by decide +kernel
theorem dX9_total_33 : decode cX9_total 33 = .ok (.invokevirtual 321, 3) := by decide +kernel
theorem dX9_total_36 : decode cX9_total 36 = .ok (.bipush 15, 2) := by decide +kernel
theorem dX9_total_38 : decode cX9_total 38 = .ok (.if_icmp .le 7, 3) := by decide +kernel
theorem dX9_total_41 : decode cX9_total 41 = .ok (.iconst (-1), 1) := by decide +kernel
theorem dX9_total_42 : decode cX9_total 42 = .ok (.goto 12, 3) := by decide +kernel
theorem dX9_total_45 : decode cX9_total 45 = .ok (.aload_n 0, 1) := by decide +kernel
theorem dX9_total_46 : decode cX9_total 46 = .ok (.getfield 39, 3) := by decide +kernel
theorem dX9_total_49 : decode cX9_total 49 = .ok (.iload_n 1, 1) := by decide +kernel
theorem dX9_total_50 : decode cX9_total 50 = .ok (.iload_n 2, 1) := by decide +kernel
theorem dX9_total_51 : decode cX9_total 51 = .ok (.invokevirtual 324, 3) := by decide +kernel
theorem dX9_total_54 : decode cX9_total 54 = .ok (.ireturn, 1) := by decide +kernel
theorem dX9_best_0 : decode cX9_best 0 = .ok (.aload_n 0, 1) := by decide +kernel
theorem dX9_best_1 : decode cX9_best 1 = .ok (.iconst 0, 1) := by decide +kernel
theorem dX9_best_2 : decode cX9_best 2 = .ok (.invokevirtual 315, 3) := by decide +kernel
theorem dX9_best_5 : decode cX9_best 5 = .ok (.ifCond .ne 5, 3) := by decide +kernel
theorem dX9_best_8 : decode cX9_best 8 = .ok (.iconst (-1), 1) := by decide +kernel
theorem dX9_best_9 : decode cX9_best 9 = .ok (.ireturn, 1) := by decide +kernel
theorem dX9_best_10 : decode cX9_best 10 = .ok (.aload_n 0, 1) := by decide +kernel
theorem dX9_best_11 : decode cX9_best 11 = .ok (.getfield 39, 3) := by decide +kernel
theorem dX9_best_14 : decode cX9_best 14 = .ok (.invokevirtual 327, 3) := by decide +kernel
theorem dX9_best_17 : decode cX9_best 17 = .ok (.iload_n 1, 1) := by decide +kernel
theorem dX9_best_18 : decode cX9_best 18 = .ok (.tableswitch 62 0 3 #[30, 38, 46, 54], 30) := by decide +kernel
theorem dX9_best_48 : decode cX9_best 48 = .ok (.aload_n 0, 1) := by decide +kernel
theorem dX9_best_49 : decode cX9_best 49 = .ok (.getfield 39, 3) := by decide +kernel
theorem dX9_best_52 : decode cX9_best 52 = .ok (.getfield 330, 3) := by decide +kernel
theorem dX9_best_55 : decode cX9_best 55 = .ok (.ireturn, 1) := by decide +kernel
theorem dX9_best_56 : decode cX9_best 56 = .ok (.aload_n 0, 1) := by decide +kernel
theorem dX9_best_57 : decode cX9_best 57 = .ok (.getfield 39, 3) := by decide +kernel
theorem dX9_best_60 : decode cX9_best 60 = .ok (.getfield 333, 3) := by decide +kernel
theorem dX9_best_63 : decode cX9_best 63 = .ok (.ireturn, 1) := by decide +kernel
theorem dX9_best_64 : decode cX9_best 64 = .ok (.aload_n 0, 1) := by decide +kernel
theorem dX9_best_65 : decode cX9_best 65 = .ok (.getfield 39, 3) := by decide +kernel
theorem dX9_best_68 : decode cX9_best 68 = .ok (.getfield 336, 3) := by decide +kernel
theorem dX9_best_71 : decode cX9_best 71 = .ok (.ireturn, 1) := by decide +kernel
theorem dX9_best_72 : decode cX9_best 72 = .ok (.aload_n 0, 1) := by decide +kernel
theorem dX9_best_73 : decode cX9_best 73 = .ok (.getfield 39, 3) := by decide +kernel
theorem dX9_best_76 : decode cX9_best 76 = .ok (.getfield 339, 3) := by decide +kernel
theorem dX9_best_79 : decode cX9_best 79 = .ok (.ireturn, 1) := by decide +kernel
theorem dX9_best_80 : decode cX9_best 80 = .ok (.iconst (-1), 1) := by decide +kernel
theorem dX9_best_81 : decode cX9_best 81 = .ok (.ireturn, 1) := by decide +kernel
theorem dX9_narrow_0 : decode cX9_narrow 0 = .ok (.aload_n 0, 1) := by decide +kernel
theorem dX9_narrow_1 : decode cX9_narrow 1 = .ok (.iload_n 1, 1) := by decide +kernel
theorem dX9_narrow_2 : decode cX9_narrow 2 = .ok (.invokevirtual 315, 3) := by decide +kernel
theorem dX9_narrow_5 : decode cX9_narrow 5 = .ok (.ifCond .eq 13, 3) := by decide +kernel
theorem dX9_narrow_8 : decode cX9_narrow 8 = .ok (.iload_n 2, 1) := by decide +kernel
theorem dX9_narrow_9 : decode cX9_narrow 9 = .ok (.ifCond .lt 9, 3) := by decide +kernel
theorem dX9_narrow_12 : decode cX9_narrow 12 = .ok (.iload_n 2, 1) := by decide +kernel
theorem dX9_narrow_13 : decode cX9_narrow 13 = .ok (.bipush 32, 2) := by decide +kernel
theorem dX9_narrow_15 : decode cX9_narrow 15 = .ok (.if_icmp .le 5, 3) := by decide +kernel
theorem dX9_narrow_18 : decode cX9_narrow 18 = .ok (.iconst (-1), 1) := by decide +kernel
theorem dX9_narrow_19 : decode cX9_narrow 19 = .ok (.ireturn, 1) := by decide +kernel
theorem dX9_narrow_20 : decode cX9_narrow 20 = .ok (.aload_n 0, 1) := by decide +kernel
theorem dX9_narrow_21 : decode cX9_narrow 21 = .ok (.getfield 39, 3) := by decide +kernel
theorem dX9_narrow_24 : decode cX9_narrow 24 = .ok (.iload_n 1, 1) := by decide +kernel
theorem dX9_narrow_25 : decode cX9_narrow 25 = .ok (.invokevirtual 318, 3) := by decide +kernel
theorem dX9_narrow_28 : decode cX9_narrow 28 = .ok (.aload_n 0, 1) := by decide +kernel
theorem dX9_narrow_29 : decode cX9_narrow 29 = .ok (.getfield 39, 3) := by decide +kernel
theorem dX9_narrow_32 : decode cX9_narrow 32 = .ok (.getfield 342, 3) := by decide +kernel
theorem dX9_narrow_35 : decode cX9_narrow 35 = .ok (.iload_n 2, 1) := by decide +kernel
theorem dX9_narrow_36 : decode cX9_narrow 36 = .ok (.iaload, 1) := by decide +kernel
theorem dX9_narrow_37 : decode cX9_narrow 37 = .ok (.ireturn, 1) := by decide +kernel
theorem dX9_least_0 : decode cX9_least 0 = .ok (.aload_n 0, 1) := by decide +kernel
theorem dX9_least_1 : decode cX9_least 1 = .ok (.iload_n 1, 1) := by decide +kernel
theorem dX9_least_2 : decode cX9_least 2 = .ok (.invokevirtual 187, 3) := by decide +kernel
theorem dX9_least_5 : decode cX9_least 5 = .ok (.astore_n 2, 1) := by decide +kernel
theorem dX9_least_6 : decode cX9_least 6 = .ok (.aload_n 2, 1) := by decide +kernel
theorem dX9_least_7 : decode cX9_least 7 = .ok (.ifnonnull 5, 3) := by decide +kernel
theorem dX9_least_10 : decode cX9_least 10 = .ok (.iconst (-1), 1) := by decide +kernel
theorem dX9_least_11 : decode cX9_least 11 = .ok (.ireturn, 1) := by decide +kernel
theorem dX9_least_12 : decode cX9_least 12 = .ok (.aload_n 0, 1) := by decide +kernel
theorem dX9_least_13 : decode cX9_least 13 = .ok (.getfield 62, 3) := by decide +kernel
theorem dX9_least_16 : decode cX9_least 16 = .ok (.aload_n 2, 1) := by decide +kernel
theorem dX9_least_17 : decode cX9_least 17 = .ok (.getfield 101, 3) := by decide +kernel
theorem dX9_least_20 : decode cX9_least 20 = .ok (.aload_n 0, 1) := by decide +kernel
theorem dX9_least_21 : decode cX9_least 21 = .ok (.getfield 39, 3) := by decide +kernel
theorem dX9_least_24 : decode cX9_least 24 = .ok (.invokevirtual 190, 3) := by decide +kernel
theorem dX9_least_27 : decode cX9_least 27 = .ok (.aload_n 0, 1) := by decide +kernel
theorem dX9_least_28 : decode cX9_least 28 = .ok (.getfield 62, 3) := by decide +kernel
theorem dX9_least_31 : decode cX9_least 31 = .ok (.getfield 345, 3) := by decide +kernel
theorem dX9_least_34 : decode cX9_least 34 = .ok (.ireturn, 1) := by decide +kernel
theorem dX9_cuts_0 : decode cX9_cuts 0 = .ok (.aload_n 0, 1) := by decide +kernel
theorem dX9_cuts_1 : decode cX9_cuts 1 = .ok (.iload_n 1, 1) := by decide +kernel
theorem dX9_cuts_2 : decode cX9_cuts 2 = .ok (.invokevirtual 187, 3) := by decide +kernel
theorem dX9_cuts_5 : decode cX9_cuts 5 = .ok (.astore_n 3, 1) := by decide +kernel
theorem dX9_cuts_6 : decode cX9_cuts 6 = .ok (.aload_n 3, 1) := by decide +kernel
theorem dX9_cuts_7 : decode cX9_cuts 7 = .ok (.ifnull 14, 3) := by decide +kernel
theorem dX9_cuts_10 : decode cX9_cuts 10 = .ok (.iload_n 2, 1) := by decide +kernel
theorem dX9_cuts_11 : decode cX9_cuts 11 = .ok (.iconst (-1), 1) := by decide +kernel
theorem dX9_cuts_12 : decode cX9_cuts 12 = .ok (.if_icmp .lt 9, 3) := by decide +kernel
theorem dX9_cuts_15 : decode cX9_cuts 15 = .ok (.iload_n 2, 1) := by decide +kernel
theorem dX9_cuts_16 : decode cX9_cuts 16 = .ok (.bipush 24, 2) := by decide +kernel
theorem dX9_cuts_18 : decode cX9_cuts 18 = .ok (.if_icmp .lt 5, 3) := by decide +kernel
theorem dX9_cuts_21 : decode cX9_cuts 21 = .ok (.iconst (-1), 1) := by decide +kernel
theorem dX9_cuts_22 : decode cX9_cuts 22 = .ok (.ireturn, 1) := by decide +kernel
theorem dX9_cuts_23 : decode cX9_cuts 23 = .ok (.aload_n 0, 1) := by decide +kernel
theorem dX9_cuts_24 : decode cX9_cuts 24 = .ok (.getfield 62, 3) := by decide +kernel
theorem dX9_cuts_27 : decode cX9_cuts 27 = .ok (.aload_n 3, 1) := by decide +kernel
theorem dX9_cuts_28 : decode cX9_cuts 28 = .ok (.getfield 101, 3) := by decide +kernel
theorem dX9_cuts_31 : decode cX9_cuts 31 = .ok (.aload_n 0, 1) := by decide +kernel
theorem dX9_cuts_32 : decode cX9_cuts 32 = .ok (.getfield 39, 3) := by decide +kernel
theorem dX9_cuts_35 : decode cX9_cuts 35 = .ok (.invokevirtual 190, 3) := by decide +kernel
theorem dX9_cuts_38 : decode cX9_cuts 38 = .ok (.iload_n 2, 1) := by decide +kernel
theorem dX9_cuts_39 : decode cX9_cuts 39 = .ok (.iconst (-1), 1) := by decide +kernel
theorem dX9_cuts_40 : decode cX9_cuts 40 = .ok (.if_icmp .ne 11, 3) := by decide +kernel
theorem dX9_cuts_43 : decode cX9_cuts 43 = .ok (.aload_n 0, 1) := by decide +kernel
theorem dX9_cuts_44 : decode cX9_cuts 44 = .ok (.getfield 62, 3) := by decide +kernel
theorem dX9_cuts_47 : decode cX9_cuts 47 = .ok (.getfield 348, 3) := by decide +kernel
theorem dX9_cuts_50 : decode cX9_cuts 50 = .ok (.ireturn, 1) := by decide +kernel
theorem dX9_cuts_51 : decode cX9_cuts 51 = .ok (.iload_n 2, 1) := by decide +kernel
theorem dX9_cuts_52 : decode cX9_cuts 52 = .ok (.aload_n 0, 1) := by decide +kernel
theorem dX9_cuts_53 : decode cX9_cuts 53 = .ok (.getfield 62, 3) := by decide +kernel
theorem dX9_cuts_56 : decode cX9_cuts 56 = .ok (.getfield 348, 3) := by decide +kernel
theorem dX9_cuts_59 : decode cX9_cuts 59 = .ok (.if_icmp .ge 15, 3) := by decide +kernel
theorem dX9_cuts_62 : decode cX9_cuts 62 = .ok (.aload_n 0, 1) := by decide +kernel
theorem dX9_cuts_63 : decode cX9_cuts 63 = .ok (.getfield 62, 3) := by decide +kernel
theorem dX9_cuts_66 : decode cX9_cuts 66 = .ok (.getfield 349, 3) := by decide +kernel
theorem dX9_cuts_69 : decode cX9_cuts 69 = .ok (.iload_n 2, 1) := by decide +kernel
theorem dX9_cuts_70 : decode cX9_cuts 70 = .ok (.iaload, 1) := by decide +kernel
theorem dX9_cuts_71 : decode cX9_cuts 71 = .ok (.goto 4, 3) := by decide +kernel
theorem dX9_cuts_74 : decode cX9_cuts 74 = .ok (.iconst (-1), 1) := by decide +kernel
theorem dX9_cuts_75 : decode cX9_cuts 75 = .ok (.ireturn, 1) := by decide +kernel
theorem dX9_evenly_0 : decode cX9_evenly 0 = .ok (.aload_n 0, 1) := by decide +kernel
theorem dX9_evenly_1 : decode cX9_evenly 1 = .ok (.iload_n 1, 1) := by decide +kernel
theorem dX9_evenly_2 : decode cX9_evenly 2 = .ok (.invokevirtual 89, 3) := by decide +kernel
theorem dX9_evenly_5 : decode cX9_evenly 5 = .ok (.astore_n 3, 1) := by decide +kernel
theorem dX9_evenly_6 : decode cX9_evenly 6 = .ok (.aload_n 3, 1) := by decide +kernel
theorem dX9_evenly_7 : decode cX9_evenly 7 = .ok (.ifnull 14, 3) := by decide +kernel
theorem dX9_evenly_10 : decode cX9_evenly 10 = .ok (.iload_n 2, 1) := by decide +kernel
theorem dX9_evenly_11 : decode cX9_evenly 11 = .ok (.iconst 1, 1) := by decide +kernel
theorem dX9_evenly_12 : decode cX9_evenly 12 = .ok (.if_icmp .lt 9, 3) := by decide +kernel
theorem dX9_evenly_15 : decode cX9_evenly 15 = .ok (.iload_n 2, 1) := by decide +kernel
theorem dX9_evenly_16 : decode cX9_evenly 16 = .ok (.bipush 16, 2) := by decide +kernel
theorem dX9_evenly_18 : decode cX9_evenly 18 = .ok (.if_icmp .le 5, 3) := by decide +kernel
theorem dX9_evenly_21 : decode cX9_evenly 21 = .ok (.iconst (-1), 1) := by decide +kernel
theorem dX9_evenly_22 : decode cX9_evenly 22 = .ok (.ireturn, 1) := by decide +kernel
theorem dX9_evenly_23 : decode cX9_evenly 23 = .ok (.aload_n 0, 1) := by decide +kernel
theorem dX9_evenly_24 : decode cX9_evenly 24 = .ok (.getfield 39, 3) := by decide +kernel
theorem dX9_evenly_27 : decode cX9_evenly 27 = .ok (.aload_n 3, 1) := by decide +kernel
theorem dX9_evenly_28 : decode cX9_evenly 28 = .ok (.getfield 101, 3) := by decide +kernel
theorem dX9_evenly_31 : decode cX9_evenly 31 = .ok (.iload_n 2, 1) := by decide +kernel
theorem dX9_evenly_32 : decode cX9_evenly 32 = .ok (.invokevirtual 352, 3) := by decide +kernel
theorem dX9_evenly_35 : decode cX9_evenly 35 = .ok (.ireturn, 1) := by decide +kernel
theorem dX9_evenest_0 : decode cX9_evenest 0 = .ok (.aload_n 0, 1) := by decide +kernel
theorem dX9_evenest_1 : decode cX9_evenest 1 = .ok (.iload_n 1, 1) := by decide +kernel
theorem dX9_evenest_2 : decode cX9_evenest 2 = .ok (.invokevirtual 187, 3) := by decide +kernel
theorem dX9_evenest_5 : decode cX9_evenest 5 = .ok (.astore_n 2, 1) := by decide +kernel
theorem dX9_evenest_6 : decode cX9_evenest 6 = .ok (.aload_n 2, 1) := by decide +kernel
theorem dX9_evenest_7 : decode cX9_evenest 7 = .ok (.ifnonnull 5, 3) := by decide +kernel
theorem dX9_evenest_10 : decode cX9_evenest 10 = .ok (.iconst (-1), 1) := by decide +kernel
theorem dX9_evenest_11 : decode cX9_evenest 11 = .ok (.ireturn, 1) := by decide +kernel
theorem dX9_evenest_12 : decode cX9_evenest 12 = .ok (.iconst 1, 1) := by decide +kernel
theorem dX9_evenest_13 : decode cX9_evenest 13 = .ok (.istore_n 3, 1) := by decide +kernel
theorem dX9_evenest_14 : decode cX9_evenest 14 = .ok (.ldc_w 356, 3) := by decide +kernel
theorem dX9_evenest_17 : decode cX9_evenest 17 = .ok (.istore 4, 2) := by decide +kernel
theorem dX9_evenest_19 : decode cX9_evenest 19 = .ok (.iconst 1, 1) := by decide +kernel
theorem dX9_evenest_20 : decode cX9_evenest 20 = .ok (.istore 5, 2) := by decide +kernel
theorem dX9_evenest_22 : decode cX9_evenest 22 = .ok (.iload 5, 2) := by decide +kernel
theorem dX9_evenest_24 : decode cX9_evenest 24 = .ok (.bipush 16, 2) := by decide +kernel
theorem dX9_evenest_26 : decode cX9_evenest 26 = .ok (.if_icmp .gt 38, 3) := by decide +kernel
theorem dX9_evenest_29 : decode cX9_evenest 29 = .ok (.aload_n 0, 1) := by decide +kernel
theorem dX9_evenest_30 : decode cX9_evenest 30 = .ok (.getfield 39, 3) := by decide +kernel
theorem dX9_evenest_33 : decode cX9_evenest 33 = .ok (.aload_n 2, 1) := by decide +kernel
theorem dX9_evenest_34 : decode cX9_evenest 34 = .ok (.getfield 101, 3) := by decide +kernel
theorem dX9_evenest_37 : decode cX9_evenest 37 = .ok (.iload 5, 2) := by decide +kernel
theorem dX9_evenest_39 : decode cX9_evenest 39 = .ok (.invokevirtual 352, 3) := by decide +kernel
theorem dX9_evenest_42 : decode cX9_evenest 42 = .ok (.istore 6, 2) := by decide +kernel
theorem dX9_evenest_44 : decode cX9_evenest 44 = .ok (.iload 6, 2) := by decide +kernel
theorem dX9_evenest_46 : decode cX9_evenest 46 = .ok (.iload 4, 2) := by decide +kernel
theorem dX9_evenest_48 : decode cX9_evenest 48 = .ok (.if_icmp .ge 10, 3) := by decide +kernel
theorem dX9_evenest_51 : decode cX9_evenest 51 = .ok (.iload 6, 2) := by decide +kernel
theorem dX9_evenest_53 : decode cX9_evenest 53 = .ok (.istore 4, 2) := by decide +kernel
theorem dX9_evenest_55 : decode cX9_evenest 55 = .ok (.iload 5, 2) := by decide +kernel
theorem dX9_evenest_57 : decode cX9_evenest 57 = .ok (.istore_n 3, 1) := by decide +kernel
theorem dX9_evenest_58 : decode cX9_evenest 58 = .ok (.iinc 5 1, 3) := by decide +kernel
theorem dX9_evenest_61 : decode cX9_evenest 61 = .ok (.goto (-39), 3) := by decide +kernel
theorem dX9_evenest_64 : decode cX9_evenest 64 = .ok (.iload_n 3, 1) := by decide +kernel
theorem dX9_evenest_65 : decode cX9_evenest 65 = .ok (.ireturn, 1) := by decide +kernel
theorem dX9_heaviest_0 : decode cX9_heaviest 0 = .ok (.aload_n 0, 1) := by decide +kernel
theorem dX9_heaviest_1 : decode cX9_heaviest 1 = .ok (.iload_n 1, 1) := by decide +kernel
theorem dX9_heaviest_2 : decode cX9_heaviest 2 = .ok (.invokevirtual 187, 3) := by decide +kernel
theorem dX9_heaviest_5 : decode cX9_heaviest 5 = .ok (.astore_n 2, 1) := by decide +kernel
theorem dX9_heaviest_6 : decode cX9_heaviest 6 = .ok (.aload_n 2, 1) := by decide +kernel
theorem dX9_heaviest_7 : decode cX9_heaviest 7 = .ok (.ifnonnull 7, 3) := by decide +kernel
theorem dX9_heaviest_10 : decode cX9_heaviest 10 = .ok (.iconst (-1), 1) := by decide +kernel
theorem dX9_heaviest_11 : decode cX9_heaviest 11 = .ok (.goto 7, 3) := by decide +kernel
theorem dX9_heaviest_14 : decode cX9_heaviest 14 = .ok (.aload_n 2, 1) := by decide +kernel
theorem dX9_heaviest_15 : decode cX9_heaviest 15 = .ok (.invokevirtual 357, 3) := by decide +kernel
theorem dX9_heaviest_18 : decode cX9_heaviest 18 = .ok (.ireturn, 1) := by decide +kernel
theorem dX9_folded_0 : decode cX9_folded 0 = .ok (.iload_n 1, 1) := by decide +kernel
theorem dX9_folded_1 : decode cX9_folded 1 = .ok (.invokestatic 360, 3) := by decide +kernel
theorem dX9_folded_4 : decode cX9_folded 4 = .ok (.invokestatic 312, 3) := by decide +kernel
theorem dX9_folded_7 : decode cX9_folded 7 = .ok (.lreturn, 1) := by decide +kernel
theorem dX9_difference_0 : decode cX9_difference 0 = .ok (.aload_n 0, 1) := by decide +kernel
theorem dX9_difference_1 : decode cX9_difference 1 = .ok (.iload_n 1, 1) := by decide +kernel
theorem dX9_difference_2 : decode cX9_difference 2 = .ok (.invokevirtual 89, 3) := by decide +kernel
theorem dX9_difference_5 : decode cX9_difference 5 = .ok (.astore_n 3, 1) := by decide +kernel
theorem dX9_difference_6 : decode cX9_difference 6 = .ok (.aload_n 3, 1) := by decide +kernel
theorem dX9_difference_7 : decode cX9_difference 7 = .ok (.ifnonnull 9, 3) := by decide +kernel
theorem dX9_difference_10 : decode cX9_difference 10 = .ok (.ldc2_w 267, 3) := by decide +kernel
theorem dX9_difference_13 : decode cX9_difference 13 = .ok (.goto 11, 3) := by decide +kernel
theorem dX9_difference_16 : decode cX9_difference 16 = .ok (.aload_n 3, 1) := by decide +kernel
theorem dX9_difference_17 : decode cX9_difference 17 = .ok (.getfield 101, 3) := by decide +kernel
theorem dX9_difference_20 : decode cX9_difference 20 = .ok (.iload_n 2, 1) := by decide +kernel
theorem dX9_difference_21 : decode cX9_difference 21 = .ok (.invokevirtual 363, 3) := by decide +kernel
theorem dX9_difference_24 : decode cX9_difference 24 = .ok (.lreturn, 1) := by decide +kernel
theorem dX9_would_0 : decode cX9_would 0 = .ok (.aload_n 0, 1) := by decide +kernel
theorem dX9_would_1 : decode cX9_would 1 = .ok (.iload_n 1, 1) := by decide +kernel
theorem dX9_would_2 : decode cX9_would 2 = .ok (.iload_n 2, 1) := by decide +kernel
theorem dX9_would_3 : decode cX9_would 3 = .ok (.invokevirtual 289, 3) := by decide +kernel
theorem dX9_would_6 : decode cX9_would 6 = .ok (.astore 4, 2) := by decide +kernel
theorem dX9_would_8 : decode cX9_would 8 = .ok (.aload 4, 2) := by decide +kernel
theorem dX9_would_10 : decode cX9_would 10 = .ok (.ifnonnull 7, 3) := by decide +kernel
theorem dX9_would_13 : decode cX9_would 13 = .ok (.iconst (-1), 1) := by decide +kernel
theorem dX9_would_14 : decode cX9_would 14 = .ok (.goto 14, 3) := by decide +kernel
theorem dX9_would_17 : decode cX9_would 17 = .ok (.aload 4, 2) := by decide +kernel
theorem dX9_would_19 : decode cX9_would 19 = .ok (.aload_n 0, 1) := by decide +kernel
theorem dX9_would_20 : decode cX9_would 20 = .ok (.getfield 39, 3) := by decide +kernel
theorem dX9_would_23 : decode cX9_would 23 = .ok (.iload_n 2, 1) := by decide +kernel
theorem dX9_would_24 : decode cX9_would 24 = .ok (.iload_n 3, 1) := by decide +kernel
theorem dX9_would_25 : decode cX9_would 25 = .ok (.invokevirtual 366, 3) := by decide +kernel
theorem dX9_would_28 : decode cX9_would 28 = .ok (.ireturn, 1) := by decide +kernel
theorem dX9_sorted_0 : decode cX9_sorted 0 = .ok (.aload_n 0, 1) := by decide +kernel
theorem dX9_sorted_1 : decode cX9_sorted 1 = .ok (.iload_n 1, 1) := by decide +kernel
theorem dX9_sorted_2 : decode cX9_sorted 2 = .ok (.invokevirtual 89, 3) := by decide +kernel
theorem dX9_sorted_5 : decode cX9_sorted 5 = .ok (.astore_n 2, 1) := by decide +kernel
theorem dX9_sorted_6 : decode cX9_sorted 6 = .ok (.aload_n 2, 1) := by decide +kernel
theorem dX9_sorted_7 : decode cX9_sorted 7 = .ok (.ifnull 17, 3) := by decide +kernel
theorem dX9_sorted_10 : decode cX9_sorted 10 = .ok (.aload_n 2, 1) := by decide +kernel
theorem dX9_sorted_11 : decode cX9_sorted 11 = .ok (.getfield 101, 3) := by decide +kernel
theorem dX9_sorted_14 : decode cX9_sorted 14 = .ok (.invokevirtual 153, 3) := by decide +kernel
theorem dX9_sorted_17 : decode cX9_sorted 17 = .ok (.ifCond .eq 7, 3) := by decide +kernel
theorem dX9_sorted_20 : decode cX9_sorted 20 = .ok (.iconst 1, 1) := by decide +kernel
theorem dX9_sorted_21 : decode cX9_sorted 21 = .ok (.goto 4, 3) := by decide +kernel
theorem dX9_sorted_24 : decode cX9_sorted 24 = .ok (.iconst 0, 1) := by decide +kernel
theorem dX9_sorted_25 : decode cX9_sorted 25 = .ok (.ireturn, 1) := by decide +kernel
theorem dX9_find_0 : decode cX9_find 0 = .ok (.aload_n 0, 1) := by decide +kernel
theorem dX9_find_1 : decode cX9_find 1 = .ok (.iload_n 1, 1) := by decide +kernel
theorem dX9_find_2 : decode cX9_find 2 = .ok (.invokevirtual 370, 3) := by decide +kernel
theorem dX9_find_5 : decode cX9_find 5 = .ok (.astore_n 3, 1) := by decide +kernel
theorem dX9_find_6 : decode cX9_find 6 = .ok (.aload_n 3, 1) := by decide +kernel
theorem dX9_find_7 : decode cX9_find 7 = .ok (.ifnonnull 8, 3) := by decide +kernel
theorem dX9_find_10 : decode cX9_find 10 = .ok (.bipush (-2), 2) := by decide +kernel
theorem dX9_find_12 : decode cX9_find 12 = .ok (.goto 11, 3) := by decide +kernel
theorem dX9_find_15 : decode cX9_find 15 = .ok (.aload_n 3, 1) := by decide +kernel
theorem dX9_find_16 : decode cX9_find 16 = .ok (.getfield 101, 3) := by decide +kernel
theorem dX9_find_19 : decode cX9_find 19 = .ok (.iload_n 2, 1) := by decide +kernel
theorem dX9_find_20 : decode cX9_find 20 = .ok (.invokevirtual 373, 3) := by decide +kernel
theorem dX9_find_23 : decode cX9_find 23 = .ok (.ireturn, 1) := by decide +kernel

