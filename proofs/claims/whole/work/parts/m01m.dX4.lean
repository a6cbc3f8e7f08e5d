theorem dX4_init_0 : decode cX4_init 0 = .ok (.aload_n 0, 1) := by decide +kernel
theorem dX4_init_1 : decode cX4_init 1 = .ok (.invokespecial 3, 3) := by decide +kernel
theorem dX4_init_4 : decode cX4_init 4 = .ok (.aload_n 0, 1) := by decide +kernel
theorem dX4_init_5 : decode cX4_init 5 = .ok (.bipush 16, 2) := by decide +kernel
theorem dX4_init_7 : decode cX4_init 7 = .ok (.newarray .int, 2) := by decide +kernel
theorem dX4_init_9 : decode cX4_init 9 = .ok (.putfield 9, 3) := by decide +kernel
theorem dX4_init_12 : decode cX4_init 12 = .ok (.aload_n 0, 1) := by decide +kernel
theorem dX4_init_13 : decode cX4_init 13 = .ok (.aload_n 1, 1) := by decide +kernel
theorem dX4_init_14 : decode cX4_init 14 = .ok (.putfield 15, 3) := by decide +kernel
theorem dX4_init_17 : decode cX4_init 17 = .ok (.return_, 1) := by decide +kernel
theorem dX4_openAll_0 : decode cX4_openAll 0 = .ok (.aload_n 1, 1) := by decide +kernel
theorem dX4_openAll_1 : decode cX4_openAll 1 = .ok (.invokevirtual 19, 3) := by decide +kernel
theorem dX4_openAll_4 : decode cX4_openAll 4 = .ok (.aload_n 0, 1) := by decide +kernel
theorem dX4_openAll_5 : decode cX4_openAll 5 = .ok (.iconst 0, 1) := by decide +kernel
theorem dX4_openAll_6 : decode cX4_openAll 6 = .ok (.putfield 24, 3) := by decide +kernel
theorem dX4_openAll_9 : decode cX4_openAll 9 = .ok (.aload_n 0, 1) := by decide +kernel
theorem dX4_openAll_10 : decode cX4_openAll 10 = .ok (.iconst (-1), 1) := by decide +kernel
theorem dX4_openAll_11 : decode cX4_openAll 11 = .ok (.putfield 28, 3) := by decide +kernel
theorem dX4_openAll_14 : decode cX4_openAll 14 = .ok (.aload_n 0, 1) := by decide +kernel
theorem dX4_openAll_15 : decode cX4_openAll 15 = .ok (.iconst 0, 1) := by decide +kernel
theorem dX4_openAll_16 : decode cX4_openAll 16 = .ok (.putfield 31, 3) := by decide +kernel
theorem dX4_openAll_19 : decode cX4_openAll 19 = .ok (.iconst 0, 1) := by decide +kernel
theorem dX4_openAll_20 : decode cX4_openAll 20 = .ok (.istore_n 2, 1) := by decide +kernel
theorem dX4_openAll_21 : decode cX4_openAll 21 = .ok (.iload_n 2, 1) := by decide +kernel
theorem dX4_openAll_22 : decode cX4_openAll 22 = .ok (.bipush 24, 2) := by decide +kernel
theorem dX4_openAll_24 : decode cX4_openAll 24 = .ok (.if_icmp .gt 32, 3) := by decide +kernel
theorem dX4_openAll_27 : decode cX4_openAll 27 = .ok (.aload_n 0, 1) := by decide +kernel
theorem dX4_openAll_28 : decode cX4_openAll 28 = .ok (.getfield 31, 3) := by decide +kernel
theorem dX4_openAll_31 : decode cX4_openAll 31 = .ok (.aload_n 0, 1) := by decide +kernel
theorem dX4_openAll_32 : decode cX4_openAll 32 = .ok (.invokevirtual 34, 3) := by decide +kernel
theorem dX4_openAll_35 : decode cX4_openAll 35 = .ok (.if_icmp .ge 21, 3) := by decide +kernel
theorem dX4_openAll_38 : decode cX4_openAll 38 = .ok (.aload_n 0, 1) := by decide +kernel
theorem dX4_openAll_39 : decode cX4_openAll 39 = .ok (.getfield 24, 3) := by decide +kernel
theorem dX4_openAll_42 : decode cX4_openAll 42 = .ok (.ifCond .ne 14, 3) := by decide +kernel
theorem dX4_openAll_45 : decode cX4_openAll 45 = .ok (.aload_n 0, 1) := by decide +kernel
theorem dX4_openAll_46 : decode cX4_openAll 46 = .ok (.aload_n 1, 1) := by decide +kernel
theorem dX4_openAll_47 : decode cX4_openAll 47 = .ok (.invokevirtual 38, 3) := by decide +kernel
theorem dX4_openAll_50 : decode cX4_openAll 50 = .ok (.iinc 2 1, 3) := by decide +kernel
theorem dX4_openAll_53 : decode cX4_openAll 53 = .ok (.goto (-32), 3) := by decide +kernel
theorem dX4_openAll_56 : decode cX4_openAll 56 = .ok (.aload_n 0, 1) := by decide +kernel
theorem dX4_openAll_57 : decode cX4_openAll 57 = .ok (.getfield 24, 3) := by decide +kernel
theorem dX4_openAll_60 : decode cX4_openAll 60 = .ok (.ifCond .ne 7, 3) := by decide +kernel
theorem dX4_openAll_63 : decode cX4_openAll 63 = .ok (.iconst 1, 1) := by decide +kernel
theorem dX4_openAll_64 : decode cX4_openAll 64 = .ok (.goto 4, 3) := by decide +kernel
theorem dX4_openAll_67 : decode cX4_openAll 67 = .ok (.iconst 0, 1) := by decide +kernel
theorem dX4_openAll_68 : decode cX4_openAll 68 = .ok (.ireturn, 1) := by decide +kernel
theorem dX4_openBlock_0 : decode cX4_openBlock 0 = .ok (.aload_n 0, 1) := by decide +kernel
theorem dX4_openBlock_1 : decode cX4_openBlock 1 = .ok (.aload_n 0, 1) := by decide +kernel
theorem dX4_openBlock_2 : decode cX4_openBlock 2 = .ok (.getfield 31, 3) := by decide +kernel
theorem dX4_openBlock_5 : decode cX4_openBlock 5 = .ok (.putfield 42, 3) := by decide +kernel
theorem dX4_openBlock_8 : decode cX4_openBlock 8 = .ok (.aload_n 0, 1) := by decide +kernel
theorem dX4_openBlock_9 : decode cX4_openBlock 9 = .ok (.aload_n 1, 1) := by decide +kernel
theorem dX4_openBlock_10 : decode cX4_openBlock 10 = .ok (.invokevirtual 45, 3) := by decide +kernel
theorem dX4_openBlock_13 : decode cX4_openBlock 13 = .ok (.aload_n 0, 1) := by decide +kernel
theorem dX4_openBlock_14 : decode cX4_openBlock 14 = .ok (.invokevirtual 48, 3) := by decide +kernel
theorem dX4_openBlock_17 : decode cX4_openBlock 17 = .ok (.aload_n 0, 1) := by decide +kernel
theorem dX4_openBlock_18 : decode cX4_openBlock 18 = .ok (.getfield 24, 3) := by decide +kernel
theorem dX4_openBlock_21 : decode cX4_openBlock 21 = .ok (.ifCond .ne 7, 3) := by decide +kernel
theorem dX4_openBlock_24 : decode cX4_openBlock 24 = .ok (.aload_n 0, 1) := by decide +kernel
theorem dX4_openBlock_25 : decode cX4_openBlock 25 = .ok (.invokevirtual 51, 3) := by decide +kernel
theorem dX4_openBlock_28 : decode cX4_openBlock 28 = .ok (.aload_n 0, 1) := by decide +kernel
theorem dX4_openBlock_29 : decode cX4_openBlock 29 = .ok (.getfield 24, 3) := by decide +kernel
theorem dX4_openBlock_32 : decode cX4_openBlock 32 = .ok (.ifCond .ne 7, 3) := by decide +kernel
theorem dX4_openBlock_35 : decode cX4_openBlock 35 = .ok (.aload_n 0, 1) := by decide +kernel
theorem dX4_openBlock_36 : decode cX4_openBlock 36 = .ok (.invokevirtual 54, 3) := by decide +kernel
theorem dX4_openBlock_39 : decode cX4_openBlock 39 = .ok (.aload_n 0, 1) := by decide +kernel
theorem dX4_openBlock_40 : decode cX4_openBlock 40 = .ok (.getfield 24, 3) := by decide +kernel
theorem dX4_openBlock_43 : decode cX4_openBlock 43 = .ok (.ifCond .ne 8, 3) := by decide +kernel
theorem dX4_openBlock_46 : decode cX4_openBlock 46 = .ok (.aload_n 0, 1) := by decide +kernel
theorem dX4_openBlock_47 : decode cX4_openBlock 47 = .ok (.aload_n 1, 1) := by decide +kernel
theorem dX4_openBlock_48 : decode cX4_openBlock 48 = .ok (.invokevirtual 57, 3) := by decide +kernel
theorem dX4_openBlock_51 : decode cX4_openBlock 51 = .ok (.return_, 1) := by decide +kernel
theorem dX4_endOfTape_0 : decode cX4_endOfTape 0 = .ok (.aload_n 0, 1) := by decide +kernel
theorem dX4_endOfTape_1 : decode cX4_endOfTape 1 = .ok (.getfield 15, 3) := by decide +kernel
theorem dX4_endOfTape_4 : decode cX4_endOfTape 4 = .ok (.getfield 60, 3) := by decide +kernel
theorem dX4_endOfTape_7 : decode cX4_endOfTape 7 = .ok (.bipush 32, 2) := by decide +kernel
theorem dX4_endOfTape_9 : decode cX4_endOfTape 9 = .ok (.imul, 1) := by decide +kernel
theorem dX4_endOfTape_10 : decode cX4_endOfTape 10 = .ok (.ireturn, 1) := by decide +kernel
theorem dX4_refuse_0 : decode cX4_refuse 0 = .ok (.aload_n 0, 1) := by decide +kernel
theorem dX4_refuse_1 : decode cX4_refuse 1 = .ok (.getfield 24, 3) := by decide +kernel
theorem dX4_refuse_4 : decode cX4_refuse 4 = .ok (.ifCond .ne 13, 3) := by decide +kernel
theorem dX4_refuse_7 : decode cX4_refuse 7 = .ok (.aload_n 0, 1) := by decide +kernel
theorem dX4_refuse_8 : decode cX4_refuse 8 = .ok (.iload_n 1, 1) := by decide +kernel
theorem dX4_refuse_9 : decode cX4_refuse 9 = .ok (.putfield 24, 3) := by decide +kernel
theorem dX4_refuse_12 : decode cX4_refuse 12 = .ok (.aload_n 0, 1) := by decide +kernel
theorem dX4_refuse_13 : decode cX4_refuse 13 = .ok (.iload_n 2, 1) := by decide +kernel
theorem dX4_refuse_14 : decode cX4_refuse 14 = .ok (.putfield 28, 3) := by decide +kernel
theorem dX4_refuse_17 : decode cX4_refuse 17 = .ok (.return_, 1) := by decide +kernel
theorem dX4_number_0 : decode cX4_number 0 = .ok (.aload_n 0, 1) := by decide +kernel
theorem dX4_number_1 : decode cX4_number 1 = .ok (.getfield 31, 3) := by decide +kernel
theorem dX4_number_4 : decode cX4_number 4 = .ok (.iload_n 1, 1) := by decide +kernel
theorem dX4_number_5 : decode cX4_number 5 = .ok (.iadd, 1) := by decide +kernel
theorem dX4_number_6 : decode cX4_number 6 = .ok (.aload_n 0, 1) := by decide +kernel
theorem dX4_number_7 : decode cX4_number 7 = .ok (.invokevirtual 34, 3) := by decide +kernel
theorem dX4_number_10 : decode cX4_number 10 = .ok (.if_icmp .le 12, 3) := by decide +kernel
theorem dX4_number_13 : decode cX4_number 13 = .ok (.aload_n 0, 1) := by decide +kernel
theorem dX4_number_14 : decode cX4_number 14 = .ok (.iconst 1, 1) := by decide +kernel
theorem dX4_number_15 : decode cX4_number 15 = .ok (.aload_n 0, 1) := by decide +kernel
theorem dX4_number_16 : decode cX4_number 16 = .ok (.getfield 31, 3) := by decide +kernel
theorem dX4_number_19 : decode cX4_number 19 = .ok (.invokevirtual 65, 3) := by decide +kernel
theorem dX4_number_22 : decode cX4_number 22 = .ok (.iconst 0, 1) := by decide +kernel
theorem dX4_number_23 : decode cX4_number 23 = .ok (.istore_n 2, 1) := by decide +kernel
theorem dX4_number_24 : decode cX4_number 24 = .ok (.iconst 0, 1) := by decide +kernel
theorem dX4_number_25 : decode cX4_number 25 = .ok (.istore_n 3, 1) := by decide +kernel
theorem dX4_number_26 : decode cX4_number 26 = .ok (.iload_n 3, 1) := by decide +kernel
theorem dX4_number_27 : decode cX4_number 27 = .ok (.iload_n 1, 1) := by decide +kernel
theorem dX4_number_28 : decode cX4_number 28 = .ok (.if_icmp .ge 42, 3) := by decide +kernel
theorem dX4_number_31 : decode cX4_number 31 = .ok (.aload_n 0, 1) := by decide +kernel
theorem dX4_number_32 : decode cX4_number 32 = .ok (.getfield 24, 3) := by decide +kernel
theorem dX4_number_35 : decode cX4_number 35 = .ok (.ifCond .ne 35, 3) := by decide +kernel
theorem dX4_number_38 : decode cX4_number 38 = .ok (.iload_n 2, 1) := by decide +kernel
theorem dX4_number_39 : decode cX4_number 39 = .ok (.aload_n 0, 1) := by decide +kernel
theorem dX4_number_40 : decode cX4_number 40 = .ok (.getfield 15, 3) := by decide +kernel
theorem dX4_number_43 : decode cX4_number 43 = .ok (.aload_n 0, 1) := by decide +kernel
theorem dX4_number_44 : decode cX4_number 44 = .ok (.getfield 31, 3) := by decide +kernel
theorem dX4_number_47 : decode cX4_number 47 = .ok (.invokevirtual 69, 3) := by decide +kernel
theorem dX4_number_50 : decode cX4_number 50 = .ok (.iload_n 3, 1) := by decide +kernel
theorem dX4_number_51 : decode cX4_number 51 = .ok (.ishl, 1) := by decide +kernel
theorem dX4_number_52 : decode cX4_number 52 = .ok (.ior, 1) := by decide +kernel
theorem dX4_number_53 : decode cX4_number 53 = .ok (.istore_n 2, 1) := by decide +kernel
theorem dX4_number_54 : decode cX4_number 54 = .ok (.aload_n 0, 1) := by decide +kernel
theorem dX4_number_55 : decode cX4_number 55 = .ok (.dup, 1) := by decide +kernel
theorem dX4_number_56 : decode cX4_number 56 = .ok (.getfield 31, 3) := by decide +kernel
theorem dX4_number_59 : decode cX4_number 59 = .ok (.iconst 1, 1) := by decide +kernel
theorem dX4_number_60 : decode cX4_number 60 = .ok (.iadd, 1) := by decide +kernel
theorem dX4_number_61 : decode cX4_number 61 = .ok (.putfield 31, 3) := by decide +kernel
theorem dX4_number_64 : decode cX4_number 64 = .ok (.iinc 3 1, 3) := by decide +kernel
theorem dX4_number_67 : decode cX4_number 67 = .ok (.goto (-41), 3) := by decide +kernel
theorem dX4_number_70 : decode cX4_number 70 = .ok (.iload_n 2, 1) := by decide +kernel
theorem dX4_number_71 : decode cX4_number 71 = .ok (.ireturn, 1) := by decide +kernel
theorem dX4_openPlaces_0 : decode cX4_openPlaces 0 = .ok (.aload_n 0, 1) := by decide +kernel
theorem dX4_openPlaces_1 : decode cX4_openPlaces 1 = .ok (.aload_n 0, 1) := by decide +kernel
theorem dX4_openPlaces_2 : decode cX4_openPlaces 2 = .ok (.iconst 4, 1) := by decide +kernel
theorem dX4_openPlaces_3 : decode cX4_openPlaces 3 = .ok (.invokevirtual 73, 3) := by decide +kernel
theorem dX4_openPlaces_6 : decode cX4_openPlaces 6 = .ok (.iconst 1, 1) := by decide +kernel
theorem dX4_openPlaces_7 : decode cX4_openPlaces 7 = .ok (.iadd, 1) := by decide +kernel
theorem dX4_openPlaces_8 : decode cX4_openPlaces 8 = .ok (.putfield 76, 3) := by decide +kernel
theorem dX4_openPlaces_11 : decode cX4_openPlaces 11 = .ok (.aload_n 1, 1) := by decide +kernel
theorem dX4_openPlaces_12 : decode cX4_openPlaces 12 = .ok (.aload_n 0, 1) := by decide +kernel
theorem dX4_openPlaces_13 : decode cX4_openPlaces 13 = .ok (.getfield 76, 3) := by decide +kernel
theorem dX4_openPlaces_16 : decode cX4_openPlaces 16 = .ok (.iconst 1, 1) := by decide +kernel
theorem dX4_openPlaces_17 : decode cX4_openPlaces 17 = .ok (.invokevirtual 79, 3) := by decide +kernel
theorem dX4_openPlaces_20 : decode cX4_openPlaces 20 = .ok (.ifCond .ne 13, 3) := by decide +kernel
theorem dX4_openPlaces_23 : decode cX4_openPlaces 23 = .ok (.aload_n 0, 1) := by decide +kernel
theorem dX4_openPlaces_24 : decode cX4_openPlaces 24 = .ok (.bipush 8, 2) := by decide +kernel
theorem dX4_openPlaces_26 : decode cX4_openPlaces 26 = .ok (.aload_n 0, 1) := by decide +kernel
theorem dX4_openPlaces_27 : decode cX4_openPlaces 27 = .ok (.getfield 42, 3) := by decide +kernel
theorem dX4_openPlaces_30 : decode cX4_openPlaces 30 = .ok (.invokevirtual 65, 3) := by decide +kernel
theorem dX4_openPlaces_33 : decode cX4_openPlaces 33 = .ok (.aload_n 0, 1) := by decide +kernel
theorem dX4_openPlaces_34 : decode cX4_openPlaces 34 = .ok (.iconst 1, 1) := by decide +kernel
theorem dX4_openPlaces_35 : decode cX4_openPlaces 35 = .ok (.invokevirtual 73, 3) := by decide +kernel
theorem dX4_openPlaces_38 : decode cX4_openPlaces 38 = .ok (.iconst 1, 1) := by decide +kernel
theorem dX4_openPlaces_39 : decode cX4_openPlaces 39 = .ok (.if_icmp .ne 7, 3) := by decide +kernel
theorem dX4_openPlaces_42 : decode cX4_openPlaces 42 = .ok (.iconst 1, 1) := by decide +kernel
theorem dX4_openPlaces_43 : decode cX4_openPlaces 43 = .ok (.goto 4, 3) := by decide +kernel
theorem dX4_openPlaces_46 : decode cX4_openPlaces 46 = .ok (.iconst 0, 1) := by decide +kernel
theorem dX4_openPlaces_47 : decode cX4_openPlaces 47 = .ok (.istore_n 2, 1) := by decide +kernel
theorem dX4_openPlaces_48 : decode cX4_openPlaces 48 = .ok (.aload_n 0, 1) := by decide +kernel
theorem dX4_openPlaces_49 : decode cX4_openPlaces 49 = .ok (.getfield 31, 3) := by decide +kernel
theorem dX4_openPlaces_52 : decode cX4_openPlaces 52 = .ok (.istore_n 3, 1) := by decide +kernel
theorem dX4_openPlaces_53 : decode cX4_openPlaces 53 = .ok (.aload_n 0, 1) := by decide +kernel
theorem dX4_openPlaces_54 : decode cX4_openPlaces 54 = .ok (.iload_n 2, 1) := by decide +kernel
theorem dX4_openPlaces_55 : decode cX4_openPlaces 55 = .ok (.ifCond .eq 14, 3) := by decide +kernel
theorem dX4_openPlaces_58 : decode cX4_openPlaces 58 = .ok (.aload_n 0, 1) := by decide +kernel
theorem dX4_openPlaces_59 : decode cX4_openPlaces 59 = .ok (.aload_n 0, 1) := by decide +kernel
theorem dX4_openPlaces_60 : decode cX4_openPlaces 60 = .ok (.getfield 76, 3) := by decide +kernel
theorem dX4_openPlaces_63 : decode cX4_openPlaces 63 = .ok (.invokevirtual 73, 3) := by decide +kernel
theorem dX4_openPlaces_66 : decode cX4_openPlaces 66 = .ok (.goto 4, 3) := by decide +kernel
theorem dX4_openPlaces_69 : decode cX4_openPlaces 69 = .ok (.iconst 0, 1) := by decide +kernel
theorem dX4_openPlaces_70 : decode cX4_openPlaces 70 = .ok (.putfield 83, 3) := by decide +kernel
theorem dX4_openPlaces_73 : decode cX4_openPlaces 73 = .ok (.iload_n 2, 1) := by decide +kernel
theorem dX4_openPlaces_74 : decode cX4_openPlaces 74 = .ok (.ifCond .eq 17, 3) := by decide +kernel
theorem dX4_openPlaces_77 : decode cX4_openPlaces 77 = .ok (.aload_n 0, 1) := by decide +kernel
theorem dX4_openPlaces_78 : decode cX4_openPlaces 78 = .ok (.getfield 83, 3) := by decide +kernel
theorem dX4_openPlaces_81 : decode cX4_openPlaces 81 = .ok (.ifCond .ne 10, 3) := by decide +kernel
theorem dX4_openPlaces_84 : decode cX4_openPlaces 84 = .ok (.aload_n 0, 1) := by decide +kernel
theorem dX4_openPlaces_85 : decode cX4_openPlaces 85 = .ok (.bipush 6, 2) := by decide +kernel
theorem dX4_openPlaces_87 : decode cX4_openPlaces 87 = .ok (.iload_n 3, 1) := by decide +kernel
theorem dX4_openPlaces_88 : decode cX4_openPlaces 88 = .ok (.invokevirtual 65, 3) := by decide +kernel
theorem dX4_openPlaces_91 : decode cX4_openPlaces 91 = .ok (.aload_n 0, 1) := by decide +kernel
theorem dX4_openPlaces_92 : decode cX4_openPlaces 92 = .ok (.aload_n 0, 1) := by decide +kernel
theorem dX4_openPlaces_93 : decode cX4_openPlaces 93 = .ok (.getfield 76, 3) := by decide +kernel
theorem dX4_openPlaces_96 : decode cX4_openPlaces 96 = .ok (.aload_n 0, 1) := by decide +kernel
theorem dX4_openPlaces_97 : decode cX4_openPlaces 97 = .ok (.getfield 83, 3) := by decide +kernel
theorem dX4_openPlaces_100 : decode cX4_openPlaces 100 = .ok (.invokestatic 86, 3) := by decide +kernel
theorem dX4_openPlaces_103 : decode cX4_openPlaces 103 = .ok (.isub, 1) := by decide +kernel
theorem dX4_openPlaces_104 : decode cX4_openPlaces 104 = .ok (.putfield 91, 3) := by decide +kernel
theorem dX4_openPlaces_107 : decode cX4_openPlaces 107 = .ok (.return_, 1) := by decide +kernel
theorem dX4_openHead_0 : decode cX4_openHead 0 = .ok (.aload_n 0, 1) := by decide +kernel
theorem dX4_openHead_1 : decode cX4_openHead 1 = .ok (.getfield 31, 3) := by decide +kernel
theorem dX4_openHead_4 : decode cX4_openHead 4 = .ok (.istore_n 1, 1) := by decide +kernel
theorem dX4_openHead_5 : decode cX4_openHead 5 = .ok (.aload_n 0, 1) := by decide +kernel
theorem dX4_openHead_6 : decode cX4_openHead 6 = .ok (.aload_n 0, 1) := by decide +kernel
theorem dX4_openHead_7 : decode cX4_openHead 7 = .ok (.iconst 2, 1) := by decide +kernel
theorem dX4_openHead_8 : decode cX4_openHead 8 = .ok (.invokevirtual 73, 3) := by decide +kernel
theorem dX4_openHead_11 : decode cX4_openHead 11 = .ok (.putfield 94, 3) := by decide +kernel
theorem dX4_openHead_14 : decode cX4_openHead 14 = .ok (.aload_n 0, 1) := by decide +kernel
theorem dX4_openHead_15 : decode cX4_openHead 15 = .ok (.getfield 94, 3) := by decide +kernel
theorem dX4_openHead_18 : decode cX4_openHead 18 = .ok (.iconst 3, 1) := by decide +kernel
theorem dX4_openHead_19 : decode cX4_openHead 19 = .ok (.if_icmp .ge 18, 3) := by decide +kernel
theorem dX4_openHead_22 : decode cX4_openHead 22 = .ok (.aload_n 0, 1) := by decide +kernel
theorem dX4_openHead_23 : decode cX4_openHead 23 = .ok (.getfield 94, 3) := by decide +kernel
theorem dX4_openHead_26 : decode cX4_openHead 26 = .ok (.ifCond .le 17, 3) := by decide +kernel
theorem dX4_openHead_29 : decode cX4_openHead 29 = .ok (.aload_n 0, 1) := by decide +kernel
theorem dX4_openHead_30 : decode cX4_openHead 30 = .ok (.getfield 91, 3) := by decide +kernel
theorem dX4_openHead_33 : decode cX4_openHead 33 = .ok (.iconst 2, 1) := by decide +kernel
theorem dX4_openHead_34 : decode cX4_openHead 34 = .ok (.if_icmp .ge 9, 3) := by decide +kernel
theorem dX4_openHead_37 : decode cX4_openHead 37 = .ok (.aload_n 0, 1) := by decide +kernel
theorem dX4_openHead_38 : decode cX4_openHead 38 = .ok (.iconst 2, 1) := by decide +kernel
theorem dX4_openHead_39 : decode cX4_openHead 39 = .ok (.iload_n 1, 1) := by decide +kernel
theorem dX4_openHead_40 : decode cX4_openHead 40 = .ok (.invokevirtual 65, 3) := by decide +kernel
theorem dX4_openHead_43 : decode cX4_openHead 43 = .ok (.aload_n 0, 1) := by decide +kernel
theorem dX4_openHead_44 : decode cX4_openHead 44 = .ok (.getfield 31, 3) := by decide +kernel
theorem dX4_openHead_47 : decode cX4_openHead 47 = .ok (.istore_n 2, 1) := by decide +kernel
theorem dX4_openHead_48 : decode cX4_openHead 48 = .ok (.aload_n 0, 1) := by decide +kernel
theorem dX4_openHead_49 : decode cX4_openHead 49 = .ok (.aload_n 0, 1) := by decide +kernel
theorem dX4_openHead_50 : decode cX4_openHead 50 = .ok (.bipush 6, 2) := by decide +kernel
theorem dX4_openHead_52 : decode cX4_openHead 52 = .ok (.invokevirtual 73, 3) := by decide +kernel
theorem dX4_openHead_55 : decode cX4_openHead 55 = .ok (.putfield 97, 3) := by decide +kernel
theorem dX4_openHead_58 : decode cX4_openHead 58 = .ok (.aload_n 0, 1) := by decide +kernel
theorem dX4_openHead_59 : decode cX4_openHead 59 = .ok (.getfield 97, 3) := by decide +kernel
theorem dX4_openHead_62 : decode cX4_openHead 62 = .ok (.bipush 32, 2) := by decide +kernel
theorem dX4_openHead_64 : decode cX4_openHead 64 = .ok (.if_icmp .le 9, 3) := by decide +kernel
theorem dX4_openHead_67 : decode cX4_openHead 67 = .ok (.aload_n 0, 1) := by decide +kernel
theorem dX4_openHead_68 : decode cX4_openHead 68 = .ok (.iconst 3, 1) := by decide +kernel
theorem dX4_openHead_69 : decode cX4_openHead 69 = .ok (.iload_n 2, 1) := by decide +kernel
theorem dX4_openHead_70 : decode cX4_openHead 70 = .ok (.invokevirtual 65, 3) := by decide +kernel
theorem dX4_openHead_73 : decode cX4_openHead 73 = .ok (.aload_n 0, 1) := by decide +kernel
theorem dX4_openHead_74 : decode cX4_openHead 74 = .ok (.aload_n 0, 1) := by decide +kernel
theorem dX4_openHead_75 : decode cX4_openHead 75 = .ok (.getfield 94, 3) := by decide +kernel
theorem dX4_openHead_78 : decode cX4_openHead 78 = .ok (.ifCond .ne 10, 3) := by decide +kernel
theorem dX4_openHead_81 : decode cX4_openHead 81 = .ok (.aload_n 0, 1) := by decide +kernel
theorem dX4_openHead_82 : decode cX4_openHead 82 = .ok (.getfield 91, 3) := by decide +kernel
theorem dX4_openHead_85 : decode cX4_openHead 85 = .ok (.goto 9, 3) := by decide +kernel
theorem dX4_openHead_88 : decode cX4_openHead 88 = .ok (.aload_n 0, 1) := by decide +kernel
theorem dX4_openHead_89 : decode cX4_openHead 89 = .ok (.getfield 91, 3) := by decide +kernel
theorem dX4_openHead_92 : decode cX4_openHead 92 = .ok (.iconst 1, 1) := by decide +kernel
theorem dX4_openHead_93 : decode cX4_openHead 93 = .ok (.isub, 1) := by decide +kernel
theorem dX4_openHead_94 : decode cX4_openHead 94 = .ok (.putfield 100, 3) := by decide +kernel
theorem dX4_openHead_97 : decode cX4_openHead 97 = .ok (.aload_n 0, 1) := by decide +kernel
theorem dX4_openHead_98 : decode cX4_openHead 98 = .ok (.getfield 31, 3) := by decide +kernel
theorem dX4_openHead_101 : decode cX4_openHead 101 = .ok (.istore_n 3, 1) := by decide +kernel
theorem dX4_openHead_102 : decode cX4_openHead 102 = .ok (.aload_n 0, 1) := by decide +kernel
theorem dX4_openHead_103 : decode cX4_openHead 103 = .ok (.aload_n 0, 1) := by decide +kernel
theorem dX4_openHead_104 : decode cX4_openHead 104 = .ok (.iconst 4, 1) := by decide +kernel
theorem dX4_openHead_105 : decode cX4_openHead 105 = .ok (.invokevirtual 73, 3) := by decide +kernel
theorem dX4_openHead_108 : decode cX4_openHead 108 = .ok (.putfield 103, 3) := by decide +kernel
theorem dX4_openHead_111 : decode cX4_openHead 111 = .ok (.aload_n 0, 1) := by decide +kernel
theorem dX4_openHead_112 : decode cX4_openHead 112 = .ok (.getfield 103, 3) := by decide +kernel
theorem dX4_openHead_115 : decode cX4_openHead 115 = .ok (.aload_n 0, 1) := by decide +kernel
theorem dX4_openHead_116 : decode cX4_openHead 116 = .ok (.getfield 100, 3) := by decide +kernel
theorem dX4_openHead_119 : decode cX4_openHead 119 = .ok (.if_icmp .gt 19, 3) := by decide +kernel
theorem dX4_openHead_122 : decode cX4_openHead 122 = .ok (.aload_n 0, 1) := by decide +kernel
theorem dX4_openHead_123 : decode cX4_openHead 123 = .ok (.getfield 103, 3) := by decide +kernel
theorem dX4_openHead_126 : decode cX4_openHead 126 = .ok (.ifCond .le 18, 3) := by decide +kernel
theorem dX4_openHead_129 : decode cX4_openHead 129 = .ok (.aload_n 0, 1) := by decide +kernel
theorem dX4_openHead_130 : decode cX4_openHead 130 = .ok (.getfield 97, 3) := by decide +kernel
theorem dX4_openHead_133 : decode cX4_openHead 133 = .ok (.bipush 32, 2) := by decide +kernel
theorem dX4_openHead_135 : decode cX4_openHead 135 = .ok (.if_icmp .ne 9, 3) := by decide +kernel
theorem dX4_openHead_138 : decode cX4_openHead 138 = .ok (.aload_n 0, 1) := by decide +kernel
theorem dX4_openHead_139 : decode cX4_openHead 139 = .ok (.iconst 4, 1) := by decide +kernel
theorem dX4_openHead_140 : decode cX4_openHead 140 = .ok (.iload_n 3, 1) := by decide +kernel
theorem dX4_openHead_141 : decode cX4_openHead 141 = .ok (.invokevirtual 65, 3) := by decide +kernel
theorem dX4_openHead_144 : decode cX4_openHead 144 = .ok (.aload_n 0, 1) := by decide +kernel
theorem dX4_openHead_145 : decode cX4_openHead 145 = .ok (.aload_n 0, 1) := by decide +kernel
theorem dX4_openHead_146 : decode cX4_openHead 146 = .ok (.getfield 31, 3) := by decide +kernel
theorem dX4_openHead_149 : decode cX4_openHead 149 = .ok (.putfield 106, 3) := by decide +kernel
theorem dX4_openHead_152 : decode cX4_openHead 152 = .ok (.aload_n 0, 1) := by decide +kernel
theorem dX4_openHead_153 : decode cX4_openHead 153 = .ok (.aload_n 0, 1) := by decide +kernel
theorem dX4_openHead_154 : decode cX4_openHead 154 = .ok (.bipush 32, 2) := by decide +kernel
theorem dX4_openHead_156 : decode cX4_openHead 156 = .ok (.invokevirtual 73, 3) := by decide +kernel
theorem dX4_openHead_159 : decode cX4_openHead 159 = .ok (.putfield 109, 3) := by decide +kernel
theorem dX4_openHead_162 : decode cX4_openHead 162 = .ok (.aload_n 0, 1) := by decide +kernel
theorem dX4_openHead_163 : decode cX4_openHead 163 = .ok (.aload_n 0, 1) := by decide +kernel
theorem dX4_openHead_164 : decode cX4_openHead 164 = .ok (.getfield 94, 3) := by decide +kernel
theorem dX4_openHead_167 : decode cX4_openHead 167 = .ok (.iconst 2, 1) := by decide +kernel
theorem dX4_openHead_168 : decode cX4_openHead 168 = .ok (.if_icmp .ne 12, 3) := by decide +kernel
theorem dX4_openHead_171 : decode cX4_openHead 171 = .ok (.aload_n 0, 1) := by decide +kernel
theorem dX4_openHead_172 : decode cX4_openHead 172 = .ok (.bipush 32, 2) := by decide +kernel
theorem dX4_openHead_174 : decode cX4_openHead 174 = .ok (.invokevirtual 73, 3) := by decide +kernel
theorem dX4_openHead_177 : decode cX4_openHead 177 = .ok (.goto 4, 3) := by decide +kernel
theorem dX4_openHead_180 : decode cX4_openHead 180 = .ok (.iconst 0, 1) := by decide +kernel
theorem dX4_openHead_181 : decode cX4_openHead 181 = .ok (.putfield 112, 3) := by decide +kernel
theorem dX4_openHead_184 : decode cX4_openHead 184 = .ok (.return_, 1) := by decide +kernel
theorem dX4_openParts_0 : decode cX4_openParts 0 = .ok (.iconst 0, 1) := by decide +kernel
theorem dX4_openParts_1 : decode cX4_openParts 1 = .ok (.istore_n 1, 1) := by decide +kernel
theorem dX4_openParts_2 : decode cX4_openParts 2 = .ok (.iload_n 1, 1) := by decide +kernel
theorem dX4_openParts_3 : decode cX4_openParts 3 = .ok (.aload_n 0, 1) := by decide +kernel
theorem dX4_openParts_4 : decode cX4_openParts 4 = .ok (.getfield 100, 3) := by decide +kernel
theorem dX4_openParts_7 : decode cX4_openParts 7 = .ok (.if_icmp .ge 29, 3) := by decide +kernel
theorem dX4_openParts_10 : decode cX4_openParts 10 = .ok (.iload_n 1, 1) := by decide +kernel
theorem dX4_openParts_11 : decode cX4_openParts 11 = .ok (.bipush 16, 2) := by decide +kernel
theorem dX4_openParts_13 : decode cX4_openParts 13 = .ok (.if_icmp .ge 23, 3) := by decide +kernel
theorem dX4_openParts_16 : decode cX4_openParts 16 = .ok (.aload_n 0, 1) := by decide +kernel
theorem dX4_openParts_17 : decode cX4_openParts 17 = .ok (.getfield 9, 3) := by decide +kernel
theorem dX4_openParts_20 : decode cX4_openParts 20 = .ok (.iload_n 1, 1) := by decide +kernel
theorem dX4_openParts_21 : decode cX4_openParts 21 = .ok (.aload_n 0, 1) := by decide +kernel
theorem dX4_openParts_22 : decode cX4_openParts 22 = .ok (.aload_n 0, 1) := by decide +kernel
theorem dX4_openParts_23 : decode cX4_openParts 23 = .ok (.getfield 97, 3) := by decide +kernel
theorem dX4_openParts_26 : decode cX4_openParts 26 = .ok (.invokevirtual 73, 3) := by decide +kernel
theorem dX4_openParts_29 : decode cX4_openParts 29 = .ok (.iastore, 1) := by decide +kernel
theorem dX4_openParts_30 : decode cX4_openParts 30 = .ok (.iinc 1 1, 3) := by decide +kernel
theorem dX4_openParts_33 : decode cX4_openParts 33 = .ok (.goto (-31), 3) := by decide +kernel
theorem dX4_openParts_36 : decode cX4_openParts 36 = .ok (.return_, 1) := by decide +kernel
theorem dX4_openExceptions_0 : decode cX4_openExceptions 0 = .ok (.iconst (-1), 1) := by decide +kernel
theorem dX4_openExceptions_1 : decode cX4_openExceptions 1 = .ok (.istore_n 1, 1) := by decide +kernel
theorem dX4_openExceptions_2 : decode cX4_openExceptions 2 = .ok (.iconst 0, 1) := by decide +kernel
theorem dX4_openExceptions_3 : decode cX4_openExceptions 3 = .ok (.istore_n 2, 1) := by decide +kernel
theorem dX4_openExceptions_4 : decode cX4_openExceptions 4 = .ok (.iload_n 2, 1) := by decide +kernel
theorem dX4_openExceptions_5 : decode cX4_openExceptions 5 = .ok (.aload_n 0, 1) := by decide +kernel
theorem dX4_openExceptions_6 : decode cX4_openExceptions 6 = .ok (.getfield 103, 3) := by decide +kernel
theorem dX4_openExceptions_9 : decode cX4_openExceptions 9 = .ok (.if_icmp .ge 120, 3) := by decide +kernel
theorem dX4_openExceptions_12 : decode cX4_openExceptions 12 = .ok (.aload_n 0, 1) := by decide +kernel
theorem dX4_openExceptions_13 : decode cX4_openExceptions 13 = .ok (.getfield 24, 3) := by decide +kernel
theorem dX4_openExceptions_16 : decode cX4_openExceptions 16 = .ok (.ifCond .ne 113, 3) := by decide +kernel
theorem dX4_openExceptions_19 : decode cX4_openExceptions 19 = .ok (.aload_n 0, 1) := by decide +kernel
theorem dX4_openExceptions_20 : decode cX4_openExceptions 20 = .ok (.getfield 31, 3) := by decide +kernel
theorem dX4_openExceptions_23 : decode cX4_openExceptions 23 = .ok (.istore_n 3, 1) := by decide +kernel
theorem dX4_openExceptions_24 : decode cX4_openExceptions 24 = .ok (.aload_n 0, 1) := by decide +kernel
theorem dX4_openExceptions_25 : decode cX4_openExceptions 25 = .ok (.iconst 4, 1) := by decide +kernel
theorem dX4_openExceptions_26 : decode cX4_openExceptions 26 = .ok (.invokevirtual 73, 3) := by decide +kernel
theorem dX4_openExceptions_29 : decode cX4_openExceptions 29 = .ok (.istore 4, 2) := by decide +kernel
theorem dX4_openExceptions_31 : decode cX4_openExceptions 31 = .ok (.iload 4, 2) := by decide +kernel
theorem dX4_openExceptions_33 : decode cX4_openExceptions 33 = .ok (.iload_n 1, 1) := by decide +kernel
theorem dX4_openExceptions_34 : decode cX4_openExceptions 34 = .ok (.if_icmp .le 12, 3) := by decide +kernel
theorem dX4_openExceptions_37 : decode cX4_openExceptions 37 = .ok (.iload 4, 2) := by decide +kernel
theorem dX4_openExceptions_39 : decode cX4_openExceptions 39 = .ok (.aload_n 0, 1) := by decide +kernel
theorem dX4_openExceptions_40 : decode cX4_openExceptions 40 = .ok (.getfield 100, 3) := by decide +kernel
theorem dX4_openExceptions_43 : decode cX4_openExceptions 43 = .ok (.if_icmp .lt 9, 3) := by decide +kernel
theorem dX4_openExceptions_46 : decode cX4_openExceptions 46 = .ok (.aload_n 0, 1) := by decide +kernel
theorem dX4_openExceptions_47 : decode cX4_openExceptions 47 = .ok (.iconst 5, 1) := by decide +kernel
theorem dX4_openExceptions_48 : decode cX4_openExceptions 48 = .ok (.iload_n 3, 1) := by decide +kernel
theorem dX4_openExceptions_49 : decode cX4_openExceptions 49 = .ok (.invokevirtual 65, 3) := by decide +kernel
theorem dX4_openExceptions_52 : decode cX4_openExceptions 52 = .ok (.aload_n 0, 1) := by decide +kernel
theorem dX4_openExceptions_53 : decode cX4_openExceptions 53 = .ok (.getfield 31, 3) := by decide +kernel
theorem dX4_openExceptions_56 : decode cX4_openExceptions 56 = .ok (.istore 5, 2) := by decide +kernel
theorem dX4_openExceptions_58 : decode cX4_openExceptions 58 = .ok (.aload_n 0, 1) := by decide +kernel
theorem dX4_openExceptions_59 : decode cX4_openExceptions 59 = .ok (.bipush 32, 2) := by decide +kernel
theorem dX4_openExceptions_61 : decode cX4_openExceptions 61 = .ok (.aload_n 0, 1) := by decide +kernel
theorem dX4_openExceptions_62 : decode cX4_openExceptions 62 = .ok (.getfield 97, 3) := by decide +kernel
theorem dX4_openExceptions_65 : decode cX4_openExceptions 65 = .ok (.isub, 1) := by decide +kernel
theorem dX4_openExceptions_66 : decode cX4_openExceptions 66 = .ok (.invokevirtual 73, 3) := by decide +kernel
theorem dX4_openExceptions_69 : decode cX4_openExceptions 69 = .ok (.istore 6, 2) := by decide +kernel
theorem dX4_openExceptions_71 : decode cX4_openExceptions 71 = .ok (.iload 6, 2) := by decide +kernel
theorem dX4_openExceptions_73 : decode cX4_openExceptions 73 = .ok (.ifCond .ne 11, 3) := by decide +kernel
theorem dX4_openExceptions_76 : decode cX4_openExceptions 76 = .ok (.aload_n 0, 1) := by decide +kernel
theorem dX4_openExceptions_77 : decode cX4_openExceptions 77 = .ok (.bipush 6, 2) := by decide +kernel
theorem dX4_openExceptions_79 : decode cX4_openExceptions 79 = .ok (.iload 5, 2) := by decide +kernel
theorem dX4_openExceptions_81 : decode cX4_openExceptions 81 = .ok (.invokevirtual 65, 3) := by decide +kernel
theorem dX4_openExceptions_84 : decode cX4_openExceptions 84 = .ok (.aload_n 0, 1) := by decide +kernel
theorem dX4_openExceptions_85 : decode cX4_openExceptions 85 = .ok (.getfield 24, 3) := by decide +kernel
theorem dX4_openExceptions_88 : decode cX4_openExceptions 88 = .ok (.ifCond .ne 32, 3) := by decide +kernel
theorem dX4_openExceptions_91 : decode cX4_openExceptions 91 = .ok (.iload 4, 2) := by decide +kernel
theorem dX4_openExceptions_93 : decode cX4_openExceptions 93 = .ok (.ifCond .lt 27, 3) := by decide +kernel
theorem dX4_openExceptions_96 : decode cX4_openExceptions 96 = .ok (.iload 4, 2) := by decide +kernel
theorem dX4_openExceptions_98 : decode cX4_openExceptions 98 = .ok (.bipush 16, 2) := by decide +kernel
theorem dX4_openExceptions_100 : decode cX4_openExceptions 100 = .ok (.if_icmp .ge 20, 3) := by decide +kernel
theorem dX4_openExceptions_103 : decode cX4_openExceptions 103 = .ok (.aload_n 0, 1) := by decide +kernel
theorem dX4_openExceptions_104 : decode cX4_openExceptions 104 = .ok (.getfield 9, 3) := by decide +kernel
theorem dX4_openExceptions_107 : decode cX4_openExceptions 107 = .ok (.iload 4, 2) := by decide +kernel
theorem dX4_openExceptions_109 : decode cX4_openExceptions 109 = .ok (.dup2, 1) := by decide +kernel
theorem dX4_openExceptions_110 : decode cX4_openExceptions 110 = .ok (.iaload, 1) := by decide +kernel
theorem dX4_openExceptions_111 : decode cX4_openExceptions 111 = .ok (.iload 6, 2) := by decide +kernel
theorem dX4_openExceptions_113 : decode cX4_openExceptions 113 = .ok (.aload_n 0, 1) := by decide +kernel
theorem dX4_openExceptions_114 : decode cX4_openExceptions 114 = .ok (.getfield 97, 3) := by decide +kernel
theorem dX4_openExceptions_117 : decode cX4_openExceptions 117 = .ok (.ishl, 1) := by decide +kernel
theorem dX4_openExceptions_118 : decode cX4_openExceptions 118 = .ok (.ior, 1) := by decide +kernel
theorem dX4_openExceptions_119 : decode cX4_openExceptions 119 = .ok (.iastore, 1) := by decide +kernel
theorem dX4_openExceptions_120 : decode cX4_openExceptions 120 = .ok (.iload 4, 2) := by decide +kernel
theorem dX4_openExceptions_122 : decode cX4_openExceptions 122 = .ok (.istore_n 1, 1) := by decide +kernel
theorem dX4_openExceptions_123 : decode cX4_openExceptions 123 = .ok (.iinc 2 1, 3) := by decide +kernel
theorem dX4_openExceptions_126 : decode cX4_openExceptions 126 = .ok (.goto (-122), 3) := by decide +kernel
theorem dX4_openExceptions_129 : decode cX4_openExceptions 129 = .ok (.return_, 1) := by decide +kernel
theorem dX4_takeValues_0 : decode cX4_takeValues 0 = .ok (.iconst 0, 1) := by decide +kernel
theorem dX4_takeValues_1 : decode cX4_takeValues 1 = .ok (.istore_n 2, 1) := by decide +kernel
theorem dX4_takeValues_2 : decode cX4_takeValues 2 = .ok (.aload_n 0, 1) := by decide +kernel
theorem dX4_takeValues_3 : decode cX4_takeValues 3 = .ok (.getfield 109, 3) := by decide +kernel
theorem dX4_takeValues_6 : decode cX4_takeValues 6 = .ok (.istore_n 3, 1) := by decide +kernel
theorem dX4_takeValues_7 : decode cX4_takeValues 7 = .ok (.ldc 115, 2) := by decide +kernel
theorem dX4_takeValues_9 : decode cX4_takeValues 9 = .ok (.istore 4, 2) := by decide +kernel
theorem dX4_takeValues_11 : decode cX4_takeValues 11 = .ok (.iconst 0, 1) := by decide +kernel
theorem dX4_takeValues_12 : decode cX4_takeValues 12 = .ok (.istore 5, 2) := by decide +kernel
theorem dX4_takeValues_14 : decode cX4_takeValues 14 = .ok (.iload 5, 2) := by decide +kernel
theorem dX4_takeValues_16 : decode cX4_takeValues 16 = .ok (.aload_n 0, 1) := by decide +kernel
theorem dX4_takeValues_17 : decode cX4_takeValues 17 = .ok (.getfield 76, 3) := by decide +kernel
theorem dX4_takeValues_20 : decode cX4_takeValues 20 = .ok (.if_icmp .ge 73, 3) := by decide +kernel
theorem dX4_takeValues_23 : decode cX4_takeValues 23 = .ok (.aload_n 0, 1) := by decide +kernel
theorem dX4_takeValues_24 : decode cX4_takeValues 24 = .ok (.getfield 83, 3) := by decide +kernel
theorem dX4_takeValues_27 : decode cX4_takeValues 27 = .ok (.iload 5, 2) := by decide +kernel
theorem dX4_takeValues_29 : decode cX4_takeValues 29 = .ok (.iushr, 1) := by decide +kernel
theorem dX4_takeValues_30 : decode cX4_takeValues 30 = .ok (.iconst 1, 1) := by decide +kernel
theorem dX4_takeValues_31 : decode cX4_takeValues 31 = .ok (.iand, 1) := by decide +kernel
theorem dX4_takeValues_32 : decode cX4_takeValues 32 = .ok (.iconst 1, 1) := by decide +kernel
theorem dX4_takeValues_33 : decode cX4_takeValues 33 = .ok (.if_icmp .ne 7, 3) := by decide +kernel
theorem dX4_takeValues_36 : decode cX4_takeValues 36 = .ok (.iconst 1, 1) := by decide +kernel
theorem dX4_takeValues_37 : decode cX4_takeValues 37 = .ok (.goto 4, 3) := by decide +kernel
theorem dX4_takeValues_40 : decode cX4_takeValues 40 = .ok (.iconst 0, 1) := by decide +kernel
theorem dX4_takeValues_41 : decode cX4_takeValues 41 = .ok (.istore 6, 2) := by decide +kernel
theorem dX4_takeValues_43 : decode cX4_takeValues 43 = .ok (.iload 6, 2) := by decide +kernel
theorem dX4_takeValues_45 : decode cX4_takeValues 45 = .ok (.ifCond .ne 21, 3) := by decide +kernel
theorem dX4_takeValues_48 : decode cX4_takeValues 48 = .ok (.aload_n 0, 1) := by decide +kernel
theorem dX4_takeValues_49 : decode cX4_takeValues 49 = .ok (.iload_n 3, 1) := by decide +kernel
theorem dX4_takeValues_50 : decode cX4_takeValues 50 = .ok (.iload_n 2, 1) := by decide +kernel
theorem dX4_takeValues_51 : decode cX4_takeValues 51 = .ok (.invokevirtual 116, 3) := by decide +kernel
theorem dX4_takeValues_54 : decode cX4_takeValues 54 = .ok (.istore_n 3, 1) := by decide +kernel
theorem dX4_takeValues_55 : decode cX4_takeValues 55 = .ok (.iload 4, 2) := by decide +kernel
theorem dX4_takeValues_57 : decode cX4_takeValues 57 = .ok (.iload_n 3, 1) := by decide +kernel
theorem dX4_takeValues_58 : decode cX4_takeValues 58 = .ok (.invokestatic 120, 3) := by decide +kernel
theorem dX4_takeValues_61 : decode cX4_takeValues 61 = .ok (.istore 4, 2) := by decide +kernel
theorem dX4_takeValues_63 : decode cX4_takeValues 63 = .ok (.iinc 2 1, 3) := by decide +kernel
theorem dX4_takeValues_66 : decode cX4_takeValues 66 = .ok (.aload_n 1, 1) := by decide +kernel
theorem dX4_takeValues_67 : decode cX4_takeValues 67 = .ok (.getfield 125, 3) := by decide +kernel
theorem dX4_takeValues_70 : decode cX4_takeValues 70 = .ok (.iload 6, 2) := by decide +kernel
theorem dX4_takeValues_72 : decode cX4_takeValues 72 = .ok (.ifCond .eq 9, 3) := by decide +kernel
theorem dX4_takeValues_75 : decode cX4_takeValues 75 = .ok (.ldc2_w 129, 3) := by decide +kernel
theorem dX4_takeValues_78 : decode cX4_takeValues 78 = .ok (.goto 5, 3) := by decide +kernel
theorem dX4_takeValues_81 : decode cX4_takeValues 81 = .ok (.iload_n 3, 1) := by decide +kernel
theorem dX4_takeValues_82 : decode cX4_takeValues 82 = .ok (.i2l, 1) := by decide +kernel
theorem dX4_takeValues_83 : decode cX4_takeValues 83 = .ok (.invokevirtual 131, 3) := by decide +kernel
theorem dX4_takeValues_86 : decode cX4_takeValues 86 = .ok (.pop, 1) := by decide +kernel
theorem dX4_takeValues_87 : decode cX4_takeValues 87 = .ok (.iinc 5 1, 3) := by decide +kernel
theorem dX4_takeValues_90 : decode cX4_takeValues 90 = .ok (.goto (-76), 3) := by decide +kernel
theorem dX4_takeValues_93 : decode cX4_takeValues 93 = .ok (.aload_n 0, 1) := by decide +kernel
theorem dX4_takeValues_94 : decode cX4_takeValues 94 = .ok (.getfield 94, 3) := by decide +kernel
theorem dX4_takeValues_97 : decode cX4_takeValues 97 = .ok (.ifCond .ne 33, 3) := by decide +kernel
theorem dX4_takeValues_100 : decode cX4_takeValues 100 = .ok (.aload_n 0, 1) := by decide +kernel
theorem dX4_takeValues_101 : decode cX4_takeValues 101 = .ok (.getfield 109, 3) := by decide +kernel
theorem dX4_takeValues_104 : decode cX4_takeValues 104 = .ok (.aload_n 0, 1) := by decide +kernel
theorem dX4_takeValues_105 : decode cX4_takeValues 105 = .ok (.getfield 91, 3) := by decide +kernel
theorem dX4_takeValues_108 : decode cX4_takeValues 108 = .ok (.ifCond .le 8, 3) := by decide +kernel
theorem dX4_takeValues_111 : decode cX4_takeValues 111 = .ok (.iload 4, 2) := by decide +kernel
theorem dX4_takeValues_113 : decode cX4_takeValues 113 = .ok (.goto 4, 3) := by decide +kernel
theorem dX4_takeValues_116 : decode cX4_takeValues 116 = .ok (.iconst 0, 1) := by decide +kernel
theorem dX4_takeValues_117 : decode cX4_takeValues 117 = .ok (.if_icmp .eq 13, 3) := by decide +kernel
theorem dX4_takeValues_120 : decode cX4_takeValues 120 = .ok (.aload_n 0, 1) := by decide +kernel
theorem dX4_takeValues_121 : decode cX4_takeValues 121 = .ok (.bipush 6, 2) := by decide +kernel
theorem dX4_takeValues_123 : decode cX4_takeValues 123 = .ok (.aload_n 0, 1) := by decide +kernel
theorem dX4_takeValues_124 : decode cX4_takeValues 124 = .ok (.getfield 106, 3) := by decide +kernel
theorem dX4_takeValues_127 : decode cX4_takeValues 127 = .ok (.invokevirtual 65, 3) := by decide +kernel
theorem dX4_takeValues_130 : decode cX4_takeValues 130 = .ok (.aload_n 0, 1) := by decide +kernel
theorem dX4_takeValues_131 : decode cX4_takeValues 131 = .ok (.getfield 31, 3) := by decide +kernel
theorem dX4_takeValues_134 : decode cX4_takeValues 134 = .ok (.istore 5, 2) := by decide +kernel
theorem dX4_takeValues_136 : decode cX4_takeValues 136 = .ok (.aload_n 0, 1) := by decide +kernel
theorem dX4_takeValues_137 : decode cX4_takeValues 137 = .ok (.aload_n 0, 1) := by decide +kernel
theorem dX4_takeValues_138 : decode cX4_takeValues 138 = .ok (.getfield 31, 3) := by decide +kernel
theorem dX4_takeValues_141 : decode cX4_takeValues 141 = .ok (.invokestatic 137, 3) := by decide +kernel
theorem dX4_takeValues_144 : decode cX4_takeValues 144 = .ok (.bipush 32, 2) := by decide +kernel
theorem dX4_takeValues_146 : decode cX4_takeValues 146 = .ok (.imul, 1) := by decide +kernel
theorem dX4_takeValues_147 : decode cX4_takeValues 147 = .ok (.aload_n 0, 1) := by decide +kernel
theorem dX4_takeValues_148 : decode cX4_takeValues 148 = .ok (.getfield 31, 3) := by decide +kernel
theorem dX4_takeValues_151 : decode cX4_takeValues 151 = .ok (.isub, 1) := by decide +kernel
theorem dX4_takeValues_152 : decode cX4_takeValues 152 = .ok (.invokevirtual 73, 3) := by decide +kernel
theorem dX4_takeValues_155 : decode cX4_takeValues 155 = .ok (.ifCond .eq 11, 3) := by decide +kernel
theorem dX4_takeValues_158 : decode cX4_takeValues 158 = .ok (.aload_n 0, 1) := by decide +kernel
theorem dX4_takeValues_159 : decode cX4_takeValues 159 = .ok (.bipush 7, 2) := by decide +kernel
theorem dX4_takeValues_161 : decode cX4_takeValues 161 = .ok (.iload 5, 2) := by decide +kernel
theorem dX4_takeValues_163 : decode cX4_takeValues 163 = .ok (.invokevirtual 65, 3) := by decide +kernel
theorem dX4_takeValues_166 : decode cX4_takeValues 166 = .ok (.aload_n 1, 1) := by decide +kernel
theorem dX4_takeValues_167 : decode cX4_takeValues 167 = .ok (.aload_n 0, 1) := by decide +kernel
theorem dX4_takeValues_168 : decode cX4_takeValues 168 = .ok (.getfield 76, 3) := by decide +kernel
theorem dX4_takeValues_171 : decode cX4_takeValues 171 = .ok (.aload_n 0, 1) := by decide +kernel
theorem dX4_takeValues_172 : decode cX4_takeValues 172 = .ok (.getfield 91, 3) := by decide +kernel
theorem dX4_takeValues_175 : decode cX4_takeValues 175 = .ok (.aload_n 0, 1) := by decide +kernel
theorem dX4_takeValues_176 : decode cX4_takeValues 176 = .ok (.getfield 94, 3) := by decide +kernel
theorem dX4_takeValues_179 : decode cX4_takeValues 179 = .ok (.aload_n 0, 1) := by decide +kernel
theorem dX4_takeValues_180 : decode cX4_takeValues 180 = .ok (.getfield 97, 3) := by decide +kernel
theorem dX4_takeValues_183 : decode cX4_takeValues 183 = .ok (.aload_n 0, 1) := by decide +kernel
theorem dX4_takeValues_184 : decode cX4_takeValues 184 = .ok (.getfield 103, 3) := by decide +kernel
theorem dX4_takeValues_187 : decode cX4_takeValues 187 = .ok (.iload 5, 2) := by decide +kernel
theorem dX4_takeValues_189 : decode cX4_takeValues 189 = .ok (.aload_n 0, 1) := by decide +kernel
theorem dX4_takeValues_190 : decode cX4_takeValues 190 = .ok (.getfield 42, 3) := by decide +kernel
theorem dX4_takeValues_193 : decode cX4_takeValues 193 = .ok (.isub, 1) := by decide +kernel
theorem dX4_takeValues_194 : decode cX4_takeValues 194 = .ok (.invokevirtual 140, 3) := by decide +kernel
theorem dX4_takeValues_197 : decode cX4_takeValues 197 = .ok (.aload_n 1, 1) := by decide +kernel
theorem dX4_takeValues_198 : decode cX4_takeValues 198 = .ok (.aload_n 0, 1) := by decide +kernel
theorem dX4_takeValues_199 : decode cX4_takeValues 199 = .ok (.getfield 109, 3) := by decide +kernel
theorem dX4_takeValues_202 : decode cX4_takeValues 202 = .ok (.aload_n 0, 1) := by decide +kernel
theorem dX4_takeValues_203 : decode cX4_takeValues 203 = .ok (.getfield 112, 3) := by decide +kernel
theorem dX4_takeValues_206 : decode cX4_takeValues 206 = .ok (.invokevirtual 144, 3) := by decide +kernel
theorem dX4_takeValues_209 : decode cX4_takeValues 209 = .ok (.return_, 1) := by decide +kernel
theorem dX4_valueBehind_0 : decode cX4_valueBehind 0 = .ok (.aload_n 0, 1) := by decide +kernel
theorem dX4_valueBehind_1 : decode cX4_valueBehind 1 = .ok (.getfield 94, 3) := by decide +kernel
theorem dX4_valueBehind_4 : decode cX4_valueBehind 4 = .ok (.ifCond .ne 28, 3) := by decide +kernel
theorem dX4_valueBehind_7 : decode cX4_valueBehind 7 = .ok (.iload_n 2, 1) := by decide +kernel
theorem dX4_valueBehind_8 : decode cX4_valueBehind 8 = .ok (.bipush 16, 2) := by decide +kernel
theorem dX4_valueBehind_10 : decode cX4_valueBehind 10 = .ok (.if_icmp .ge 17, 3) := by decide +kernel
theorem dX4_valueBehind_13 : decode cX4_valueBehind 13 = .ok (.aload_n 0, 1) := by decide +kernel
theorem dX4_valueBehind_14 : decode cX4_valueBehind 14 = .ok (.getfield 109, 3) := by decide +kernel
theorem dX4_valueBehind_17 : decode cX4_valueBehind 17 = .ok (.aload_n 0, 1) := by decide +kernel
theorem dX4_valueBehind_18 : decode cX4_valueBehind 18 = .ok (.getfield 9, 3) := by decide +kernel
theorem dX4_valueBehind_21 : decode cX4_valueBehind 21 = .ok (.iload_n 2, 1) := by decide +kernel
theorem dX4_valueBehind_22 : decode cX4_valueBehind 22 = .ok (.iaload, 1) := by decide +kernel
theorem dX4_valueBehind_23 : decode cX4_valueBehind 23 = .ok (.iadd, 1) := by decide +kernel
theorem dX4_valueBehind_24 : decode cX4_valueBehind 24 = .ok (.goto 7, 3) := by decide +kernel
theorem dX4_valueBehind_27 : decode cX4_valueBehind 27 = .ok (.aload_n 0, 1) := by decide +kernel
theorem dX4_valueBehind_28 : decode cX4_valueBehind 28 = .ok (.getfield 109, 3) := by decide +kernel
theorem dX4_valueBehind_31 : decode cX4_valueBehind 31 = .ok (.ireturn, 1) := by decide +kernel
theorem dX4_valueBehind_32 : decode cX4_valueBehind 32 = .ok (.iload_n 2, 1) := by decide +kernel
theorem dX4_valueBehind_33 : decode cX4_valueBehind 33 = .ok (.ifCond .eq 9, 3) := by decide +kernel
theorem dX4_valueBehind_36 : decode cX4_valueBehind 36 = .ok (.iload_n 2, 1) := by decide +kernel
theorem dX4_valueBehind_37 : decode cX4_valueBehind 37 = .ok (.bipush 16, 2) := by decide +kernel
theorem dX4_valueBehind_39 : decode cX4_valueBehind 39 = .ok (.if_icmp .le 8, 3) := by decide +kernel
theorem dX4_valueBehind_42 : decode cX4_valueBehind 42 = .ok (.aload_n 0, 1) := by decide +kernel
theorem dX4_valueBehind_43 : decode cX4_valueBehind 43 = .ok (.getfield 109, 3) := by decide +kernel
theorem dX4_valueBehind_46 : decode cX4_valueBehind 46 = .ok (.ireturn, 1) := by decide +kernel
theorem dX4_valueBehind_47 : decode cX4_valueBehind 47 = .ok (.aload_n 0, 1) := by decide +kernel
theorem dX4_valueBehind_48 : decode cX4_valueBehind 48 = .ok (.getfield 9, 3) := by decide +kernel
theorem dX4_valueBehind_51 : decode cX4_valueBehind 51 = .ok (.iload_n 2, 1) := by decide +kernel
theorem dX4_valueBehind_52 : decode cX4_valueBehind 52 = .ok (.iconst 1, 1) := by decide +kernel
theorem dX4_valueBehind_53 : decode cX4_valueBehind 53 = .ok (.isub, 1) := by decide +kernel
theorem dX4_valueBehind_54 : decode cX4_valueBehind 54 = .ok (.iaload, 1) := by decide +kernel
theorem dX4_valueBehind_55 : decode cX4_valueBehind 55 = .ok (.istore_n 3, 1) := by decide +kernel
theorem dX4_valueBehind_56 : decode cX4_valueBehind 56 = .ok (.iload_n 1, 1) := by decide +kernel
theorem dX4_valueBehind_57 : decode cX4_valueBehind 57 = .ok (.aload_n 0, 1) := by decide +kernel
theorem dX4_valueBehind_58 : decode cX4_valueBehind 58 = .ok (.getfield 94, 3) := by decide +kernel
theorem dX4_valueBehind_61 : decode cX4_valueBehind 61 = .ok (.iconst 2, 1) := by decide +kernel
theorem dX4_valueBehind_62 : decode cX4_valueBehind 62 = .ok (.if_icmp .ne 12, 3) := by decide +kernel
theorem dX4_valueBehind_65 : decode cX4_valueBehind 65 = .ok (.iload_n 3, 1) := by decide +kernel
theorem dX4_valueBehind_66 : decode cX4_valueBehind 66 = .ok (.aload_n 0, 1) := by decide +kernel
theorem dX4_valueBehind_67 : decode cX4_valueBehind 67 = .ok (.getfield 112, 3) := by decide +kernel
theorem dX4_valueBehind_70 : decode cX4_valueBehind 70 = .ok (.iadd, 1) := by decide +kernel
theorem dX4_valueBehind_71 : decode cX4_valueBehind 71 = .ok (.goto 7, 3) := by decide +kernel
theorem dX4_valueBehind_74 : decode cX4_valueBehind 74 = .ok (.iload_n 3, 1) := by decide +kernel
theorem dX4_valueBehind_75 : decode cX4_valueBehind 75 = .ok (.invokestatic 147, 3) := by decide +kernel
theorem dX4_valueBehind_78 : decode cX4_valueBehind 78 = .ok (.iadd, 1) := by decide +kernel
theorem dX4_valueBehind_79 : decode cX4_valueBehind 79 = .ok (.ireturn, 1) := by decide +kernel

