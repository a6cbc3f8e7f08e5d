theorem dX1_init_0 : decode cX1_init 0 = .ok (.aload_n 0, 1) := by decide +kernel
theorem dX1_init_1 : decode cX1_init 1 = .ok (.invokespecial 3, 3) := by decide +kernel
theorem dX1_init_4 : decode cX1_init 4 = .ok (.aload_n 0, 1) := by decide +kernel
theorem dX1_init_5 : decode cX1_init 5 = .ok (.bipush 24, 2) := by decide +kernel
theorem dX1_init_7 : decode cX1_init 7 = .ok (.newarray .int, 2) := by decide +kernel
theorem dX1_init_9 : decode cX1_init 9 = .ok (.putfield 9, 3) := by decide +kernel
theorem dX1_init_12 : decode cX1_init 12 = .ok (.aload_n 0, 1) := by decide +kernel
theorem dX1_init_13 : decode cX1_init 13 = .ok (.new 15, 3) := by decide +kernel
theorem dX1_init_16 : decode cX1_init 16 = .ok (.dup, 1) := by decide +kernel
theorem dX1_init_17 : decode cX1_init 17 = .ok (.sipush 128, 3) := by decide +kernel
theorem dX1_init_20 : decode cX1_init 20 = .ok (.invokespecial 17, 3) := by decide +kernel
theorem dX1_init_23 : decode cX1_init 23 = .ok (.putfield 20, 3) := by decide +kernel
theorem dX1_init_26 : decode cX1_init 26 = .ok (.aload_n 0, 1) := by decide +kernel
theorem dX1_init_27 : decode cX1_init 27 = .ok (.sipush 2048, 3) := by decide +kernel
theorem dX1_init_30 : decode cX1_init 30 = .ok (.newarray .int, 2) := by decide +kernel
theorem dX1_init_32 : decode cX1_init 32 = .ok (.putfield 24, 3) := by decide +kernel
theorem dX1_init_35 : decode cX1_init 35 = .ok (.aload_n 0, 1) := by decide +kernel
theorem dX1_init_36 : decode cX1_init 36 = .ok (.sipush 3225, 3) := by decide +kernel
theorem dX1_init_39 : decode cX1_init 39 = .ok (.newarray .int, 2) := by decide +kernel
theorem dX1_init_41 : decode cX1_init 41 = .ok (.putfield 27, 3) := by decide +kernel
theorem dX1_init_44 : decode cX1_init 44 = .ok (.return_, 1) := by decide +kernel
theorem dX1_plan_0 : decode cX1_plan 0 = .ok (.aload_n 0, 1) := by decide +kernel
theorem dX1_plan_1 : decode cX1_plan 1 = .ok (.getfield 20, 3) := by decide +kernel
theorem dX1_plan_4 : decode cX1_plan 4 = .ok (.aload_n 1, 1) := by decide +kernel
theorem dX1_plan_5 : decode cX1_plan 5 = .ok (.invokevirtual 30, 3) := by decide +kernel
theorem dX1_plan_8 : decode cX1_plan 8 = .ok (.iconst (-1), 1) := by decide +kernel
theorem dX1_plan_9 : decode cX1_plan 9 = .ok (.if_icmp .ne 4, 3) := by decide +kernel
theorem dX1_plan_12 : decode cX1_plan 12 = .ok (.return_, 1) := by decide +kernel
theorem dX1_plan_13 : decode cX1_plan 13 = .ok (.aload_n 0, 1) := by decide +kernel
theorem dX1_plan_14 : decode cX1_plan 14 = .ok (.getfield 20, 3) := by decide +kernel
theorem dX1_plan_17 : decode cX1_plan 17 = .ok (.aload_n 1, 1) := by decide +kernel
theorem dX1_plan_18 : decode cX1_plan 18 = .ok (.invokevirtual 34, 3) := by decide +kernel
theorem dX1_plan_21 : decode cX1_plan 21 = .ok (.aload_n 0, 1) := by decide +kernel
theorem dX1_plan_22 : decode cX1_plan 22 = .ok (.aload_n 1, 1) := by decide +kernel
theorem dX1_plan_23 : decode cX1_plan 23 = .ok (.aload_n 2, 1) := by decide +kernel
theorem dX1_plan_24 : decode cX1_plan 24 = .ok (.invokevirtual 38, 3) := by decide +kernel
theorem dX1_plan_27 : decode cX1_plan 27 = .ok (.aload_n 0, 1) := by decide +kernel
theorem dX1_plan_28 : decode cX1_plan 28 = .ok (.getfield 27, 3) := by decide +kernel
theorem dX1_plan_31 : decode cX1_plan 31 = .ok (.ldc 42, 2) := by decide +kernel
theorem dX1_plan_33 : decode cX1_plan 33 = .ok (.invokestatic 43, 3) := by decide +kernel
theorem dX1_plan_36 : decode cX1_plan 36 = .ok (.aload_n 0, 1) := by decide +kernel
theorem dX1_plan_37 : decode cX1_plan 37 = .ok (.getfield 27, 3) := by decide +kernel
theorem dX1_plan_40 : decode cX1_plan 40 = .ok (.aload_n 1, 1) := by decide +kernel
theorem dX1_plan_41 : decode cX1_plan 41 = .ok (.getfield 49, 3) := by decide +kernel
theorem dX1_plan_44 : decode cX1_plan 44 = .ok (.iconst 0, 1) := by decide +kernel
theorem dX1_plan_45 : decode cX1_plan 45 = .ok (.iastore, 1) := by decide +kernel
theorem dX1_plan_46 : decode cX1_plan 46 = .ok (.iconst 1, 1) := by decide +kernel
theorem dX1_plan_47 : decode cX1_plan 47 = .ok (.istore_n 3, 1) := by decide +kernel
theorem dX1_plan_48 : decode cX1_plan 48 = .ok (.iload_n 3, 1) := by decide +kernel
theorem dX1_plan_49 : decode cX1_plan 49 = .ok (.bipush 24, 2) := by decide +kernel
theorem dX1_plan_51 : decode cX1_plan 51 = .ok (.if_icmp .gt 69, 3) := by decide +kernel
theorem dX1_plan_54 : decode cX1_plan 54 = .ok (.iconst 0, 1) := by decide +kernel
theorem dX1_plan_55 : decode cX1_plan 55 = .ok (.aload_n 1, 1) := by decide +kernel
theorem dX1_plan_56 : decode cX1_plan 56 = .ok (.getfield 49, 3) := by decide +kernel
theorem dX1_plan_59 : decode cX1_plan 59 = .ok (.iload_n 3, 1) := by decide +kernel
theorem dX1_plan_60 : decode cX1_plan 60 = .ok (.bipush 16, 2) := by decide +kernel
theorem dX1_plan_62 : decode cX1_plan 62 = .ok (.imul, 1) := by decide +kernel
theorem dX1_plan_63 : decode cX1_plan 63 = .ok (.isub, 1) := by decide +kernel
theorem dX1_plan_64 : decode cX1_plan 64 = .ok (.invokestatic 53, 3) := by decide +kernel
theorem dX1_plan_67 : decode cX1_plan 67 = .ok (.istore 4, 2) := by decide +kernel
theorem dX1_plan_69 : decode cX1_plan 69 = .ok (.iload 4, 2) := by decide +kernel
theorem dX1_plan_71 : decode cX1_plan 71 = .ok (.istore 5, 2) := by decide +kernel
theorem dX1_plan_73 : decode cX1_plan 73 = .ok (.iload 5, 2) := by decide +kernel
theorem dX1_plan_75 : decode cX1_plan 75 = .ok (.aload_n 1, 1) := by decide +kernel
theorem dX1_plan_76 : decode cX1_plan 76 = .ok (.getfield 49, 3) := by decide +kernel
theorem dX1_plan_79 : decode cX1_plan 79 = .ok (.iload_n 3, 1) := by decide +kernel
theorem dX1_plan_80 : decode cX1_plan 80 = .ok (.isub, 1) := by decide +kernel
theorem dX1_plan_81 : decode cX1_plan 81 = .ok (.if_icmp .gt 33, 3) := by decide +kernel
theorem dX1_plan_84 : decode cX1_plan 84 = .ok (.aload_n 0, 1) := by decide +kernel
theorem dX1_plan_85 : decode cX1_plan 85 = .ok (.getfield 27, 3) := by decide +kernel
theorem dX1_plan_88 : decode cX1_plan 88 = .ok (.iload_n 3, 1) := by decide +kernel
theorem dX1_plan_89 : decode cX1_plan 89 = .ok (.sipush 129, 3) := by decide +kernel
theorem dX1_plan_92 : decode cX1_plan 92 = .ok (.imul, 1) := by decide +kernel
theorem dX1_plan_93 : decode cX1_plan 93 = .ok (.iload 5, 2) := by decide +kernel
theorem dX1_plan_95 : decode cX1_plan 95 = .ok (.iadd, 1) := by decide +kernel
theorem dX1_plan_96 : decode cX1_plan 96 = .ok (.aload_n 0, 1) := by decide +kernel
theorem dX1_plan_97 : decode cX1_plan 97 = .ok (.iload_n 3, 1) := by decide +kernel
theorem dX1_plan_98 : decode cX1_plan 98 = .ok (.iload 5, 2) := by decide +kernel
theorem dX1_plan_100 : decode cX1_plan 100 = .ok (.aload_n 1, 1) := by decide +kernel
theorem dX1_plan_101 : decode cX1_plan 101 = .ok (.getfield 49, 3) := by decide +kernel
theorem dX1_plan_104 : decode cX1_plan 104 = .ok (.invokevirtual 59, 3) := by decide +kernel
theorem dX1_plan_107 : decode cX1_plan 107 = .ok (.iastore, 1) := by decide +kernel
theorem dX1_plan_108 : decode cX1_plan 108 = .ok (.iinc 5 1, 3) := by decide +kernel
theorem dX1_plan_111 : decode cX1_plan 111 = .ok (.goto (-38), 3) := by decide +kernel
theorem dX1_plan_114 : decode cX1_plan 114 = .ok (.iinc 3 1, 3) := by decide +kernel
theorem dX1_plan_117 : decode cX1_plan 117 = .ok (.goto (-69), 3) := by decide +kernel
theorem dX1_plan_120 : decode cX1_plan 120 = .ok (.aload_n 0, 1) := by decide +kernel
theorem dX1_plan_121 : decode cX1_plan 121 = .ok (.invokevirtual 63, 3) := by decide +kernel
theorem dX1_plan_124 : decode cX1_plan 124 = .ok (.aload_n 0, 1) := by decide +kernel
theorem dX1_plan_125 : decode cX1_plan 125 = .ok (.aload_n 1, 1) := by decide +kernel
theorem dX1_plan_126 : decode cX1_plan 126 = .ok (.getfield 49, 3) := by decide +kernel
theorem dX1_plan_129 : decode cX1_plan 129 = .ok (.invokevirtual 66, 3) := by decide +kernel
theorem dX1_plan_132 : decode cX1_plan 132 = .ok (.return_, 1) := by decide +kernel
theorem dX1_measureAll_0 : decode cX1_measureAll 0 = .ok (.iconst 0, 1) := by decide +kernel
theorem dX1_measureAll_1 : decode cX1_measureAll 1 = .ok (.istore_n 3, 1) := by decide +kernel
theorem dX1_measureAll_2 : decode cX1_measureAll 2 = .ok (.iload_n 3, 1) := by decide +kernel
theorem dX1_measureAll_3 : decode cX1_measureAll 3 = .ok (.aload_n 1, 1) := by decide +kernel
theorem dX1_measureAll_4 : decode cX1_measureAll 4 = .ok (.getfield 49, 3) := by decide +kernel
theorem dX1_measureAll_7 : decode cX1_measureAll 7 = .ok (.if_icmp .ge 78, 3) := by decide +kernel
theorem dX1_measureAll_10 : decode cX1_measureAll 10 = .ok (.aload_n 2, 1) := by decide +kernel
theorem dX1_measureAll_11 : decode cX1_measureAll 11 = .ok (.invokevirtual 69, 3) := by decide +kernel
theorem dX1_measureAll_14 : decode cX1_measureAll 14 = .ok (.bipush 16, 2) := by decide +kernel
theorem dX1_measureAll_16 : decode cX1_measureAll 16 = .ok (.aload_n 1, 1) := by decide +kernel
theorem dX1_measureAll_17 : decode cX1_measureAll 17 = .ok (.getfield 49, 3) := by decide +kernel
theorem dX1_measureAll_20 : decode cX1_measureAll 20 = .ok (.iload_n 3, 1) := by decide +kernel
theorem dX1_measureAll_21 : decode cX1_measureAll 21 = .ok (.isub, 1) := by decide +kernel
theorem dX1_measureAll_22 : decode cX1_measureAll 22 = .ok (.invokestatic 74, 3) := by decide +kernel
theorem dX1_measureAll_25 : decode cX1_measureAll 25 = .ok (.istore 4, 2) := by decide +kernel
theorem dX1_measureAll_27 : decode cX1_measureAll 27 = .ok (.iconst 1, 1) := by decide +kernel
theorem dX1_measureAll_28 : decode cX1_measureAll 28 = .ok (.istore 5, 2) := by decide +kernel
theorem dX1_measureAll_30 : decode cX1_measureAll 30 = .ok (.iload 5, 2) := by decide +kernel
theorem dX1_measureAll_32 : decode cX1_measureAll 32 = .ok (.iload 4, 2) := by decide +kernel
theorem dX1_measureAll_34 : decode cX1_measureAll 34 = .ok (.if_icmp .gt 45, 3) := by decide +kernel
theorem dX1_measureAll_37 : decode cX1_measureAll 37 = .ok (.aload_n 2, 1) := by decide +kernel
theorem dX1_measureAll_38 : decode cX1_measureAll 38 = .ok (.aload_n 1, 1) := by decide +kernel
theorem dX1_measureAll_39 : decode cX1_measureAll 39 = .ok (.iload_n 3, 1) := by decide +kernel
theorem dX1_measureAll_40 : decode cX1_measureAll 40 = .ok (.iload 5, 2) := by decide +kernel
theorem dX1_measureAll_42 : decode cX1_measureAll 42 = .ok (.iadd, 1) := by decide +kernel
theorem dX1_measureAll_43 : decode cX1_measureAll 43 = .ok (.iconst 1, 1) := by decide +kernel
theorem dX1_measureAll_44 : decode cX1_measureAll 44 = .ok (.isub, 1) := by decide +kernel
theorem dX1_measureAll_45 : decode cX1_measureAll 45 = .ok (.invokevirtual 77, 3) := by decide +kernel
theorem dX1_measureAll_48 : decode cX1_measureAll 48 = .ok (.invokevirtual 81, 3) := by decide +kernel
theorem dX1_measureAll_51 : decode cX1_measureAll 51 = .ok (.aload_n 2, 1) := by decide +kernel
theorem dX1_measureAll_52 : decode cX1_measureAll 52 = .ok (.invokevirtual 85, 3) := by decide +kernel
theorem dX1_measureAll_55 : decode cX1_measureAll 55 = .ok (.aload_n 0, 1) := by decide +kernel
theorem dX1_measureAll_56 : decode cX1_measureAll 56 = .ok (.getfield 24, 3) := by decide +kernel
theorem dX1_measureAll_59 : decode cX1_measureAll 59 = .ok (.iload_n 3, 1) := by decide +kernel
theorem dX1_measureAll_60 : decode cX1_measureAll 60 = .ok (.bipush 16, 2) := by decide +kernel
theorem dX1_measureAll_62 : decode cX1_measureAll 62 = .ok (.imul, 1) := by decide +kernel
theorem dX1_measureAll_63 : decode cX1_measureAll 63 = .ok (.iload 5, 2) := by decide +kernel
theorem dX1_measureAll_65 : decode cX1_measureAll 65 = .ok (.iadd, 1) := by decide +kernel
theorem dX1_measureAll_66 : decode cX1_measureAll 66 = .ok (.iconst 1, 1) := by decide +kernel
theorem dX1_measureAll_67 : decode cX1_measureAll 67 = .ok (.isub, 1) := by decide +kernel
theorem dX1_measureAll_68 : decode cX1_measureAll 68 = .ok (.aload_n 2, 1) := by decide +kernel
theorem dX1_measureAll_69 : decode cX1_measureAll 69 = .ok (.getfield 88, 3) := by decide +kernel
theorem dX1_measureAll_72 : decode cX1_measureAll 72 = .ok (.iastore, 1) := by decide +kernel
theorem dX1_measureAll_73 : decode cX1_measureAll 73 = .ok (.iinc 5 1, 3) := by decide +kernel
theorem dX1_measureAll_76 : decode cX1_measureAll 76 = .ok (.goto (-46), 3) := by decide +kernel
theorem dX1_measureAll_79 : decode cX1_measureAll 79 = .ok (.iinc 3 1, 3) := by decide +kernel
theorem dX1_measureAll_82 : decode cX1_measureAll 82 = .ok (.goto (-80), 3) := by decide +kernel
theorem dX1_measureAll_85 : decode cX1_measureAll 85 = .ok (.return_, 1) := by decide +kernel
theorem dX1_fewestFrom_0 : decode cX1_fewestFrom 0 = .ok (.ldc 42, 2) := by decide +kernel
theorem dX1_fewestFrom_2 : decode cX1_fewestFrom 2 = .ok (.istore 4, 2) := by decide +kernel
theorem dX1_fewestFrom_4 : decode cX1_fewestFrom 4 = .ok (.bipush 16, 2) := by decide +kernel
theorem dX1_fewestFrom_6 : decode cX1_fewestFrom 6 = .ok (.iload_n 3, 1) := by decide +kernel
theorem dX1_fewestFrom_7 : decode cX1_fewestFrom 7 = .ok (.iload_n 2, 1) := by decide +kernel
theorem dX1_fewestFrom_8 : decode cX1_fewestFrom 8 = .ok (.isub, 1) := by decide +kernel
theorem dX1_fewestFrom_9 : decode cX1_fewestFrom 9 = .ok (.invokestatic 74, 3) := by decide +kernel
theorem dX1_fewestFrom_12 : decode cX1_fewestFrom 12 = .ok (.istore 5, 2) := by decide +kernel
theorem dX1_fewestFrom_14 : decode cX1_fewestFrom 14 = .ok (.iconst 1, 1) := by decide +kernel
theorem dX1_fewestFrom_15 : decode cX1_fewestFrom 15 = .ok (.istore 6, 2) := by decide +kernel
theorem dX1_fewestFrom_17 : decode cX1_fewestFrom 17 = .ok (.iload 6, 2) := by decide +kernel
theorem dX1_fewestFrom_19 : decode cX1_fewestFrom 19 = .ok (.iload 5, 2) := by decide +kernel
theorem dX1_fewestFrom_21 : decode cX1_fewestFrom 21 = .ok (.if_icmp .gt 24, 3) := by decide +kernel
theorem dX1_fewestFrom_24 : decode cX1_fewestFrom 24 = .ok (.iload 4, 2) := by decide +kernel
theorem dX1_fewestFrom_26 : decode cX1_fewestFrom 26 = .ok (.aload_n 0, 1) := by decide +kernel
theorem dX1_fewestFrom_27 : decode cX1_fewestFrom 27 = .ok (.iload_n 1, 1) := by decide +kernel
theorem dX1_fewestFrom_28 : decode cX1_fewestFrom 28 = .ok (.iload_n 2, 1) := by decide +kernel
theorem dX1_fewestFrom_29 : decode cX1_fewestFrom 29 = .ok (.iload 6, 2) := by decide +kernel
theorem dX1_fewestFrom_31 : decode cX1_fewestFrom 31 = .ok (.invokevirtual 91, 3) := by decide +kernel
theorem dX1_fewestFrom_34 : decode cX1_fewestFrom 34 = .ok (.invokestatic 74, 3) := by decide +kernel
theorem dX1_fewestFrom_37 : decode cX1_fewestFrom 37 = .ok (.istore 4, 2) := by decide +kernel
theorem dX1_fewestFrom_39 : decode cX1_fewestFrom 39 = .ok (.iinc 6 1, 3) := by decide +kernel
theorem dX1_fewestFrom_42 : decode cX1_fewestFrom 42 = .ok (.goto (-25), 3) := by decide +kernel
theorem dX1_fewestFrom_45 : decode cX1_fewestFrom 45 = .ok (.iload 4, 2) := by decide +kernel
theorem dX1_fewestFrom_47 : decode cX1_fewestFrom 47 = .ok (.ireturn, 1) := by decide +kernel
theorem dX1_bitsOf_0 : decode cX1_bitsOf 0 = .ok (.aload_n 0, 1) := by decide +kernel
theorem dX1_bitsOf_1 : decode cX1_bitsOf 1 = .ok (.getfield 27, 3) := by decide +kernel
theorem dX1_bitsOf_4 : decode cX1_bitsOf 4 = .ok (.iload_n 1, 1) := by decide +kernel
theorem dX1_bitsOf_5 : decode cX1_bitsOf 5 = .ok (.iconst 1, 1) := by decide +kernel
theorem dX1_bitsOf_6 : decode cX1_bitsOf 6 = .ok (.isub, 1) := by decide +kernel
theorem dX1_bitsOf_7 : decode cX1_bitsOf 7 = .ok (.sipush 129, 3) := by decide +kernel
theorem dX1_bitsOf_10 : decode cX1_bitsOf 10 = .ok (.imul, 1) := by decide +kernel
theorem dX1_bitsOf_11 : decode cX1_bitsOf 11 = .ok (.iload_n 2, 1) := by decide +kernel
theorem dX1_bitsOf_12 : decode cX1_bitsOf 12 = .ok (.iadd, 1) := by decide +kernel
theorem dX1_bitsOf_13 : decode cX1_bitsOf 13 = .ok (.iload_n 3, 1) := by decide +kernel
theorem dX1_bitsOf_14 : decode cX1_bitsOf 14 = .ok (.iadd, 1) := by decide +kernel
theorem dX1_bitsOf_15 : decode cX1_bitsOf 15 = .ok (.iaload, 1) := by decide +kernel
theorem dX1_bitsOf_16 : decode cX1_bitsOf 16 = .ok (.istore 4, 2) := by decide +kernel
theorem dX1_bitsOf_18 : decode cX1_bitsOf 18 = .ok (.iload 4, 2) := by decide +kernel
theorem dX1_bitsOf_20 : decode cX1_bitsOf 20 = .ok (.ldc 42, 2) := by decide +kernel
theorem dX1_bitsOf_22 : decode cX1_bitsOf 22 = .ok (.if_icmp .ne 8, 3) := by decide +kernel
theorem dX1_bitsOf_25 : decode cX1_bitsOf 25 = .ok (.ldc 42, 2) := by decide +kernel
theorem dX1_bitsOf_27 : decode cX1_bitsOf 27 = .ok (.goto 19, 3) := by decide +kernel
theorem dX1_bitsOf_30 : decode cX1_bitsOf 30 = .ok (.iload 4, 2) := by decide +kernel
theorem dX1_bitsOf_32 : decode cX1_bitsOf 32 = .ok (.aload_n 0, 1) := by decide +kernel
theorem dX1_bitsOf_33 : decode cX1_bitsOf 33 = .ok (.getfield 24, 3) := by decide +kernel
theorem dX1_bitsOf_36 : decode cX1_bitsOf 36 = .ok (.iload_n 2, 1) := by decide +kernel
theorem dX1_bitsOf_37 : decode cX1_bitsOf 37 = .ok (.bipush 16, 2) := by decide +kernel
theorem dX1_bitsOf_39 : decode cX1_bitsOf 39 = .ok (.imul, 1) := by decide +kernel
theorem dX1_bitsOf_40 : decode cX1_bitsOf 40 = .ok (.iload_n 3, 1) := by decide +kernel
theorem dX1_bitsOf_41 : decode cX1_bitsOf 41 = .ok (.iadd, 1) := by decide +kernel
theorem dX1_bitsOf_42 : decode cX1_bitsOf 42 = .ok (.iconst 1, 1) := by decide +kernel
theorem dX1_bitsOf_43 : decode cX1_bitsOf 43 = .ok (.isub, 1) := by decide +kernel
theorem dX1_bitsOf_44 : decode cX1_bitsOf 44 = .ok (.iaload, 1) := by decide +kernel
theorem dX1_bitsOf_45 : decode cX1_bitsOf 45 = .ok (.iadd, 1) := by decide +kernel
theorem dX1_bitsOf_46 : decode cX1_bitsOf 46 = .ok (.ireturn, 1) := by decide +kernel
theorem dX1_chooseBlocks_0 : decode cX1_chooseBlocks 0 = .ok (.aload_n 0, 1) := by decide +kernel
theorem dX1_chooseBlocks_1 : decode cX1_chooseBlocks 1 = .ok (.iconst 0, 1) := by decide +kernel
theorem dX1_chooseBlocks_2 : decode cX1_chooseBlocks 2 = .ok (.putfield 94, 3) := by decide +kernel
theorem dX1_chooseBlocks_5 : decode cX1_chooseBlocks 5 = .ok (.aload_n 0, 1) := by decide +kernel
theorem dX1_chooseBlocks_6 : decode cX1_chooseBlocks 6 = .ok (.ldc 42, 2) := by decide +kernel
theorem dX1_chooseBlocks_8 : decode cX1_chooseBlocks 8 = .ok (.putfield 97, 3) := by decide +kernel
theorem dX1_chooseBlocks_11 : decode cX1_chooseBlocks 11 = .ok (.iconst 1, 1) := by decide +kernel
theorem dX1_chooseBlocks_12 : decode cX1_chooseBlocks 12 = .ok (.istore_n 1, 1) := by decide +kernel
theorem dX1_chooseBlocks_13 : decode cX1_chooseBlocks 13 = .ok (.iload_n 1, 1) := by decide +kernel
theorem dX1_chooseBlocks_14 : decode cX1_chooseBlocks 14 = .ok (.bipush 24, 2) := by decide +kernel
theorem dX1_chooseBlocks_16 : decode cX1_chooseBlocks 16 = .ok (.if_icmp .gt 45, 3) := by decide +kernel
theorem dX1_chooseBlocks_19 : decode cX1_chooseBlocks 19 = .ok (.aload_n 0, 1) := by decide +kernel
theorem dX1_chooseBlocks_20 : decode cX1_chooseBlocks 20 = .ok (.getfield 27, 3) := by decide +kernel
theorem dX1_chooseBlocks_23 : decode cX1_chooseBlocks 23 = .ok (.iload_n 1, 1) := by decide +kernel
theorem dX1_chooseBlocks_24 : decode cX1_chooseBlocks 24 = .ok (.sipush 129, 3) := by decide +kernel
theorem dX1_chooseBlocks_27 : decode cX1_chooseBlocks 27 = .ok (.imul, 1) := by decide +kernel
theorem dX1_chooseBlocks_28 : decode cX1_chooseBlocks 28 = .ok (.iaload, 1) := by decide +kernel
theorem dX1_chooseBlocks_29 : decode cX1_chooseBlocks 29 = .ok (.aload_n 0, 1) := by decide +kernel
theorem dX1_chooseBlocks_30 : decode cX1_chooseBlocks 30 = .ok (.getfield 97, 3) := by decide +kernel
theorem dX1_chooseBlocks_33 : decode cX1_chooseBlocks 33 = .ok (.if_icmp .ge 22, 3) := by decide +kernel
theorem dX1_chooseBlocks_36 : decode cX1_chooseBlocks 36 = .ok (.aload_n 0, 1) := by decide +kernel
theorem dX1_chooseBlocks_37 : decode cX1_chooseBlocks 37 = .ok (.aload_n 0, 1) := by decide +kernel
theorem dX1_chooseBlocks_38 : decode cX1_chooseBlocks 38 = .ok (.getfield 27, 3) := by decide +kernel
theorem dX1_chooseBlocks_41 : decode cX1_chooseBlocks 41 = .ok (.iload_n 1, 1) := by decide +kernel
theorem dX1_chooseBlocks_42 : decode cX1_chooseBlocks 42 = .ok (.sipush 129, 3) := by decide +kernel
theorem dX1_chooseBlocks_45 : decode cX1_chooseBlocks 45 = .ok (.imul, 1) := by decide +kernel
theorem dX1_chooseBlocks_46 : decode cX1_chooseBlocks 46 = .ok (.iaload, 1) := by decide +kernel
theorem dX1_chooseBlocks_47 : decode cX1_chooseBlocks 47 = .ok (.putfield 97, 3) := by decide +kernel
theorem dX1_chooseBlocks_50 : decode cX1_chooseBlocks 50 = .ok (.aload_n 0, 1) := by decide +kernel
theorem dX1_chooseBlocks_51 : decode cX1_chooseBlocks 51 = .ok (.iload_n 1, 1) := by decide +kernel
theorem dX1_chooseBlocks_52 : decode cX1_chooseBlocks 52 = .ok (.putfield 94, 3) := by decide +kernel
theorem dX1_chooseBlocks_55 : decode cX1_chooseBlocks 55 = .ok (.iinc 1 1, 3) := by decide +kernel
theorem dX1_chooseBlocks_58 : decode cX1_chooseBlocks 58 = .ok (.goto (-45), 3) := by decide +kernel
theorem dX1_chooseBlocks_61 : decode cX1_chooseBlocks 61 = .ok (.return_, 1) := by decide +kernel
theorem dX1_follow_0 : decode cX1_follow 0 = .ok (.iconst 0, 1) := by decide +kernel
theorem dX1_follow_1 : decode cX1_follow 1 = .ok (.istore_n 2, 1) := by decide +kernel
theorem dX1_follow_2 : decode cX1_follow 2 = .ok (.iconst 0, 1) := by decide +kernel
theorem dX1_follow_3 : decode cX1_follow 3 = .ok (.istore_n 3, 1) := by decide +kernel
theorem dX1_follow_4 : decode cX1_follow 4 = .ok (.iload_n 3, 1) := by decide +kernel
theorem dX1_follow_5 : decode cX1_follow 5 = .ok (.aload_n 0, 1) := by decide +kernel
theorem dX1_follow_6 : decode cX1_follow 6 = .ok (.getfield 94, 3) := by decide +kernel
theorem dX1_follow_9 : decode cX1_follow 9 = .ok (.if_icmp .ge 81, 3) := by decide +kernel
theorem dX1_follow_12 : decode cX1_follow 12 = .ok (.aload_n 0, 1) := by decide +kernel
theorem dX1_follow_13 : decode cX1_follow 13 = .ok (.getfield 94, 3) := by decide +kernel
theorem dX1_follow_16 : decode cX1_follow 16 = .ok (.iload_n 3, 1) := by decide +kernel
theorem dX1_follow_17 : decode cX1_follow 17 = .ok (.isub, 1) := by decide +kernel
theorem dX1_follow_18 : decode cX1_follow 18 = .ok (.istore 4, 2) := by decide +kernel
theorem dX1_follow_20 : decode cX1_follow 20 = .ok (.bipush 16, 2) := by decide +kernel
theorem dX1_follow_22 : decode cX1_follow 22 = .ok (.iload_n 1, 1) := by decide +kernel
theorem dX1_follow_23 : decode cX1_follow 23 = .ok (.iload_n 2, 1) := by decide +kernel
theorem dX1_follow_24 : decode cX1_follow 24 = .ok (.isub, 1) := by decide +kernel
theorem dX1_follow_25 : decode cX1_follow 25 = .ok (.invokestatic 74, 3) := by decide +kernel
theorem dX1_follow_28 : decode cX1_follow 28 = .ok (.istore 5, 2) := by decide +kernel
theorem dX1_follow_30 : decode cX1_follow 30 = .ok (.iconst 1, 1) := by decide +kernel
theorem dX1_follow_31 : decode cX1_follow 31 = .ok (.istore 6, 2) := by decide +kernel
theorem dX1_follow_33 : decode cX1_follow 33 = .ok (.iload 6, 2) := by decide +kernel
theorem dX1_follow_35 : decode cX1_follow 35 = .ok (.iload 5, 2) := by decide +kernel
theorem dX1_follow_37 : decode cX1_follow 37 = .ok (.if_icmp .ge 34, 3) := by decide +kernel
theorem dX1_follow_40 : decode cX1_follow 40 = .ok (.aload_n 0, 1) := by decide +kernel
theorem dX1_follow_41 : decode cX1_follow 41 = .ok (.iload 4, 2) := by decide +kernel
theorem dX1_follow_43 : decode cX1_follow 43 = .ok (.iload_n 2, 1) := by decide +kernel
theorem dX1_follow_44 : decode cX1_follow 44 = .ok (.iload 6, 2) := by decide +kernel
theorem dX1_follow_46 : decode cX1_follow 46 = .ok (.invokevirtual 91, 3) := by decide +kernel
theorem dX1_follow_49 : decode cX1_follow 49 = .ok (.aload_n 0, 1) := by decide +kernel
theorem dX1_follow_50 : decode cX1_follow 50 = .ok (.getfield 27, 3) := by decide +kernel
theorem dX1_follow_53 : decode cX1_follow 53 = .ok (.iload 4, 2) := by decide +kernel
theorem dX1_follow_55 : decode cX1_follow 55 = .ok (.sipush 129, 3) := by decide +kernel
theorem dX1_follow_58 : decode cX1_follow 58 = .ok (.imul, 1) := by decide +kernel
theorem dX1_follow_59 : decode cX1_follow 59 = .ok (.iload_n 2, 1) := by decide +kernel
theorem dX1_follow_60 : decode cX1_follow 60 = .ok (.iadd, 1) := by decide +kernel
theorem dX1_follow_61 : decode cX1_follow 61 = .ok (.iaload, 1) := by decide +kernel
theorem dX1_follow_62 : decode cX1_follow 62 = .ok (.if_icmp .eq 9, 3) := by decide +kernel
theorem dX1_follow_65 : decode cX1_follow 65 = .ok (.iinc 6 1, 3) := by decide +kernel
theorem dX1_follow_68 : decode cX1_follow 68 = .ok (.goto (-35), 3) := by decide +kernel
theorem dX1_follow_71 : decode cX1_follow 71 = .ok (.aload_n 0, 1) := by decide +kernel
theorem dX1_follow_72 : decode cX1_follow 72 = .ok (.getfield 9, 3) := by decide +kernel
theorem dX1_follow_75 : decode cX1_follow 75 = .ok (.iload_n 3, 1) := by decide +kernel
theorem dX1_follow_76 : decode cX1_follow 76 = .ok (.iload 6, 2) := by decide +kernel
theorem dX1_follow_78 : decode cX1_follow 78 = .ok (.iastore, 1) := by decide +kernel
theorem dX1_follow_79 : decode cX1_follow 79 = .ok (.iload_n 2, 1) := by decide +kernel
theorem dX1_follow_80 : decode cX1_follow 80 = .ok (.iload 6, 2) := by decide +kernel
theorem dX1_follow_82 : decode cX1_follow 82 = .ok (.iadd, 1) := by decide +kernel
theorem dX1_follow_83 : decode cX1_follow 83 = .ok (.istore_n 2, 1) := by decide +kernel
theorem dX1_follow_84 : decode cX1_follow 84 = .ok (.iinc 3 1, 3) := by decide +kernel
theorem dX1_follow_87 : decode cX1_follow 87 = .ok (.goto (-83), 3) := by decide +kernel
theorem dX1_follow_90 : decode cX1_follow 90 = .ok (.return_, 1) := by decide +kernel

