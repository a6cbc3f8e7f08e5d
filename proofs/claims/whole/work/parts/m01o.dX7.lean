theorem dX7_init_0 : decode cX7_init 0 = .ok (.aload_n 0, 1) := by decide +kernel
theorem dX7_init_1 : decode cX7_init 1 = .ok (.invokespecial 3, 3) := by decide +kernel
theorem dX7_init_4 : decode cX7_init 4 = .ok (.aload_n 0, 1) := by decide +kernel
theorem dX7_init_5 : decode cX7_init 5 = .ok (.iconst 3, 1) := by decide +kernel
theorem dX7_init_6 : decode cX7_init 6 = .ok (.anewarray 9, 3) := by decide +kernel
theorem dX7_init_9 : decode cX7_init 9 = .ok (.putfield 11, 3) := by decide +kernel
theorem dX7_init_12 : decode cX7_init 12 = .ok (.aload_n 0, 1) := by decide +kernel
theorem dX7_init_13 : decode cX7_init 13 = .ok (.new 17, 3) := by decide +kernel
theorem dX7_init_16 : decode cX7_init 16 = .ok (.dup, 1) := by decide +kernel
theorem dX7_init_17 : decode cX7_init 17 = .ok (.bipush 16, 2) := by decide +kernel
theorem dX7_init_19 : decode cX7_init 19 = .ok (.invokespecial 19, 3) := by decide +kernel
theorem dX7_init_22 : decode cX7_init 22 = .ok (.putfield 22, 3) := by decide +kernel
theorem dX7_init_25 : decode cX7_init 25 = .ok (.aload_n 0, 1) := by decide +kernel
theorem dX7_init_26 : decode cX7_init 26 = .ok (.sipush 647, 3) := by decide +kernel
theorem dX7_init_29 : decode cX7_init 29 = .ok (.putfield 26, 3) := by decide +kernel
theorem dX7_init_32 : decode cX7_init 32 = .ok (.iconst 0, 1) := by decide +kernel
theorem dX7_init_33 : decode cX7_init 33 = .ok (.istore_n 1, 1) := by decide +kernel
theorem dX7_init_34 : decode cX7_init 34 = .ok (.iload_n 1, 1) := by decide +kernel
theorem dX7_init_35 : decode cX7_init 35 = .ok (.iconst 3, 1) := by decide +kernel
theorem dX7_init_36 : decode cX7_init 36 = .ok (.if_icmp .ge 22, 3) := by decide +kernel
theorem dX7_init_39 : decode cX7_init 39 = .ok (.aload_n 0, 1) := by decide +kernel
theorem dX7_init_40 : decode cX7_init 40 = .ok (.getfield 11, 3) := by decide +kernel
theorem dX7_init_43 : decode cX7_init 43 = .ok (.iload_n 1, 1) := by decide +kernel
theorem dX7_init_44 : decode cX7_init 44 = .ok (.new 9, 3) := by decide +kernel
theorem dX7_init_47 : decode cX7_init 47 = .ok (.dup, 1) := by decide +kernel
theorem dX7_init_48 : decode cX7_init 48 = .ok (.invokespecial 30, 3) := by decide +kernel
theorem dX7_init_51 : decode cX7_init 51 = .ok (.aastore, 1) := by decide +kernel
theorem dX7_init_52 : decode cX7_init 52 = .ok (.iinc 1 1, 3) := by decide +kernel
theorem dX7_init_55 : decode cX7_init 55 = .ok (.goto (-21), 3) := by decide +kernel
theorem dX7_init_58 : decode cX7_init 58 = .ok (.return_, 1) := by decide +kernel
theorem dX7_mirror_0 : decode cX7_mirror 0 = .ok (.iconst 0, 1) := by decide +kernel
theorem dX7_mirror_1 : decode cX7_mirror 1 = .ok (.istore_n 2, 1) := by decide +kernel
theorem dX7_mirror_2 : decode cX7_mirror 2 = .ok (.iload_n 2, 1) := by decide +kernel
theorem dX7_mirror_3 : decode cX7_mirror 3 = .ok (.iconst 3, 1) := by decide +kernel
theorem dX7_mirror_4 : decode cX7_mirror 4 = .ok (.if_icmp .ge 39, 3) := by decide +kernel
theorem dX7_mirror_7 : decode cX7_mirror 7 = .ok (.aload_n 0, 1) := by decide +kernel
theorem dX7_mirror_8 : decode cX7_mirror 8 = .ok (.getfield 11, 3) := by decide +kernel
theorem dX7_mirror_11 : decode cX7_mirror 11 = .ok (.iload_n 2, 1) := by decide +kernel
theorem dX7_mirror_12 : decode cX7_mirror 12 = .ok (.aaload, 1) := by decide +kernel
theorem dX7_mirror_13 : decode cX7_mirror 13 = .ok (.astore_n 3, 1) := by decide +kernel
theorem dX7_mirror_14 : decode cX7_mirror 14 = .ok (.aload_n 1, 1) := by decide +kernel
theorem dX7_mirror_15 : decode cX7_mirror 15 = .ok (.getfield 11, 3) := by decide +kernel
theorem dX7_mirror_18 : decode cX7_mirror 18 = .ok (.iload_n 2, 1) := by decide +kernel
theorem dX7_mirror_19 : decode cX7_mirror 19 = .ok (.aaload, 1) := by decide +kernel
theorem dX7_mirror_20 : decode cX7_mirror 20 = .ok (.astore 4, 2) := by decide +kernel
theorem dX7_mirror_22 : decode cX7_mirror 22 = .ok (.aload_n 3, 1) := by decide +kernel
theorem dX7_mirror_23 : decode cX7_mirror 23 = .ok (.ifnull 14, 3) := by decide +kernel
theorem dX7_mirror_26 : decode cX7_mirror 26 = .ok (.aload 4, 2) := by decide +kernel
theorem dX7_mirror_28 : decode cX7_mirror 28 = .ok (.ifnull 9, 3) := by decide +kernel
theorem dX7_mirror_31 : decode cX7_mirror 31 = .ok (.aload_n 3, 1) := by decide +kernel
theorem dX7_mirror_32 : decode cX7_mirror 32 = .ok (.aload 4, 2) := by decide +kernel
theorem dX7_mirror_34 : decode cX7_mirror 34 = .ok (.invokevirtual 31, 3) := by decide +kernel
theorem dX7_mirror_37 : decode cX7_mirror 37 = .ok (.iinc 2 1, 3) := by decide +kernel
theorem dX7_mirror_40 : decode cX7_mirror 40 = .ok (.goto (-38), 3) := by decide +kernel
theorem dX7_mirror_43 : decode cX7_mirror 43 = .ok (.aload_n 0, 1) := by decide +kernel
theorem dX7_mirror_44 : decode cX7_mirror 44 = .ok (.getfield 22, 3) := by decide +kernel
theorem dX7_mirror_47 : decode cX7_mirror 47 = .ok (.aload_n 1, 1) := by decide +kernel
theorem dX7_mirror_48 : decode cX7_mirror 48 = .ok (.getfield 22, 3) := by decide +kernel
theorem dX7_mirror_51 : decode cX7_mirror 51 = .ok (.invokevirtual 35, 3) := by decide +kernel
theorem dX7_mirror_54 : decode cX7_mirror 54 = .ok (.aload_n 0, 1) := by decide +kernel
theorem dX7_mirror_55 : decode cX7_mirror 55 = .ok (.aload_n 1, 1) := by decide +kernel
theorem dX7_mirror_56 : decode cX7_mirror 56 = .ok (.getfield 26, 3) := by decide +kernel
theorem dX7_mirror_59 : decode cX7_mirror 59 = .ok (.putfield 26, 3) := by decide +kernel
theorem dX7_mirror_62 : decode cX7_mirror 62 = .ok (.return_, 1) := by decide +kernel
theorem dX7_exchange_0 : decode cX7_exchange 0 = .ok (.iload_n 1, 1) := by decide +kernel
theorem dX7_exchange_1 : decode cX7_exchange 1 = .ok (.ifCond .lt 43, 3) := by decide +kernel
theorem dX7_exchange_4 : decode cX7_exchange 4 = .ok (.iload_n 1, 1) := by decide +kernel
theorem dX7_exchange_5 : decode cX7_exchange 5 = .ok (.iconst 3, 1) := by decide +kernel
theorem dX7_exchange_6 : decode cX7_exchange 6 = .ok (.if_icmp .ge 38, 3) := by decide +kernel
theorem dX7_exchange_9 : decode cX7_exchange 9 = .ok (.iload_n 2, 1) := by decide +kernel
theorem dX7_exchange_10 : decode cX7_exchange 10 = .ok (.ifCond .lt 34, 3) := by decide +kernel
theorem dX7_exchange_13 : decode cX7_exchange 13 = .ok (.iload_n 2, 1) := by decide +kernel
theorem dX7_exchange_14 : decode cX7_exchange 14 = .ok (.iconst 3, 1) := by decide +kernel
theorem dX7_exchange_15 : decode cX7_exchange 15 = .ok (.if_icmp .ge 29, 3) := by decide +kernel
theorem dX7_exchange_18 : decode cX7_exchange 18 = .ok (.aload_n 0, 1) := by decide +kernel
theorem dX7_exchange_19 : decode cX7_exchange 19 = .ok (.getfield 11, 3) := by decide +kernel
theorem dX7_exchange_22 : decode cX7_exchange 22 = .ok (.iload_n 1, 1) := by decide +kernel
theorem dX7_exchange_23 : decode cX7_exchange 23 = .ok (.aaload, 1) := by decide +kernel
theorem dX7_exchange_24 : decode cX7_exchange 24 = .ok (.astore_n 3, 1) := by decide +kernel
theorem dX7_exchange_25 : decode cX7_exchange 25 = .ok (.aload_n 0, 1) := by decide +kernel
theorem dX7_exchange_26 : decode cX7_exchange 26 = .ok (.getfield 11, 3) := by decide +kernel
theorem dX7_exchange_29 : decode cX7_exchange 29 = .ok (.iload_n 1, 1) := by decide +kernel
theorem dX7_exchange_30 : decode cX7_exchange 30 = .ok (.aload_n 0, 1) := by decide +kernel
theorem dX7_exchange_31 : decode cX7_exchange 31 = .ok (.getfield 11, 3) := by decide +kernel
theorem dX7_exchange_34 : decode cX7_exchange 34 = .ok (.iload_n 2, 1) := by decide +kernel
theorem dX7_exchange_35 : decode cX7_exchange 35 = .ok (.aaload, 1) := by decide +kernel
theorem dX7_exchange_36 : decode cX7_exchange 36 = .ok (.aastore, 1) := by decide +kernel
theorem dX7_exchange_37 : decode cX7_exchange 37 = .ok (.aload_n 0, 1) := by decide +kernel
theorem dX7_exchange_38 : decode cX7_exchange 38 = .ok (.getfield 11, 3) := by decide +kernel
theorem dX7_exchange_41 : decode cX7_exchange 41 = .ok (.iload_n 2, 1) := by decide +kernel
theorem dX7_exchange_42 : decode cX7_exchange 42 = .ok (.aload_n 3, 1) := by decide +kernel
theorem dX7_exchange_43 : decode cX7_exchange 43 = .ok (.aastore, 1) := by decide +kernel
theorem dX7_exchange_44 : decode cX7_exchange 44 = .ok (.return_, 1) := by decide +kernel
theorem dX7_walkInto_0 : decode cX7_walkInto 0 = .ok (.iload_n 2, 1) := by decide +kernel
theorem dX7_walkInto_1 : decode cX7_walkInto 1 = .ok (.istore 5, 2) := by decide +kernel
theorem dX7_walkInto_3 : decode cX7_walkInto 3 = .ok (.iconst 2, 1) := by decide +kernel
theorem dX7_walkInto_4 : decode cX7_walkInto 4 = .ok (.iload_n 3, 1) := by decide +kernel
theorem dX7_walkInto_5 : decode cX7_walkInto 5 = .ok (.imul, 1) := by decide +kernel
theorem dX7_walkInto_6 : decode cX7_walkInto 6 = .ok (.iconst 1, 1) := by decide +kernel
theorem dX7_walkInto_7 : decode cX7_walkInto 7 = .ok (.iadd, 1) := by decide +kernel
theorem dX7_walkInto_8 : decode cX7_walkInto 8 = .ok (.istore 6, 2) := by decide +kernel
theorem dX7_walkInto_10 : decode cX7_walkInto 10 = .ok (.iconst 0, 1) := by decide +kernel
theorem dX7_walkInto_11 : decode cX7_walkInto 11 = .ok (.istore 7, 2) := by decide +kernel
theorem dX7_walkInto_13 : decode cX7_walkInto 13 = .ok (.iload 7, 2) := by decide +kernel
theorem dX7_walkInto_15 : decode cX7_walkInto 15 = .ok (.iload 4, 2) := by decide +kernel
theorem dX7_walkInto_17 : decode cX7_walkInto 17 = .ok (.if_icmp .ge 60, 3) := by decide +kernel
theorem dX7_walkInto_20 : decode cX7_walkInto 20 = .ok (.aload_n 0, 1) := by decide +kernel
theorem dX7_walkInto_21 : decode cX7_walkInto 21 = .ok (.aload_n 0, 1) := by decide +kernel
theorem dX7_walkInto_22 : decode cX7_walkInto 22 = .ok (.getfield 26, 3) := by decide +kernel
theorem dX7_walkInto_25 : decode cX7_walkInto 25 = .ok (.sipush 857, 3) := by decide +kernel
theorem dX7_walkInto_28 : decode cX7_walkInto 28 = .ok (.imul, 1) := by decide +kernel
theorem dX7_walkInto_29 : decode cX7_walkInto 29 = .ok (.sipush 593, 3) := by decide +kernel
theorem dX7_walkInto_32 : decode cX7_walkInto 32 = .ok (.iadd, 1) := by decide +kernel
theorem dX7_walkInto_33 : decode cX7_walkInto 33 = .ok (.sipush 29989, 3) := by decide +kernel
theorem dX7_walkInto_36 : decode cX7_walkInto 36 = .ok (.irem, 1) := by decide +kernel
theorem dX7_walkInto_37 : decode cX7_walkInto 37 = .ok (.putfield 26, 3) := by decide +kernel
theorem dX7_walkInto_40 : decode cX7_walkInto 40 = .ok (.iload 5, 2) := by decide +kernel
theorem dX7_walkInto_42 : decode cX7_walkInto 42 = .ok (.iload 6, 2) := by decide +kernel
theorem dX7_walkInto_44 : decode cX7_walkInto 44 = .ok (.ifCond .le 13, 3) := by decide +kernel
theorem dX7_walkInto_47 : decode cX7_walkInto 47 = .ok (.aload_n 0, 1) := by decide +kernel
theorem dX7_walkInto_48 : decode cX7_walkInto 48 = .ok (.getfield 26, 3) := by decide +kernel
theorem dX7_walkInto_51 : decode cX7_walkInto 51 = .ok (.iload 6, 2) := by decide +kernel
theorem dX7_walkInto_53 : decode cX7_walkInto 53 = .ok (.irem, 1) := by decide +kernel
theorem dX7_walkInto_54 : decode cX7_walkInto 54 = .ok (.goto 4, 3) := by decide +kernel
theorem dX7_walkInto_57 : decode cX7_walkInto 57 = .ok (.iconst 0, 1) := by decide +kernel
theorem dX7_walkInto_58 : decode cX7_walkInto 58 = .ok (.iload_n 3, 1) := by decide +kernel
theorem dX7_walkInto_59 : decode cX7_walkInto 59 = .ok (.isub, 1) := by decide +kernel
theorem dX7_walkInto_60 : decode cX7_walkInto 60 = .ok (.iadd, 1) := by decide +kernel
theorem dX7_walkInto_61 : decode cX7_walkInto 61 = .ok (.istore 5, 2) := by decide +kernel
theorem dX7_walkInto_63 : decode cX7_walkInto 63 = .ok (.aload_n 1, 1) := by decide +kernel
theorem dX7_walkInto_64 : decode cX7_walkInto 64 = .ok (.iload 5, 2) := by decide +kernel
theorem dX7_walkInto_66 : decode cX7_walkInto 66 = .ok (.i2l, 1) := by decide +kernel
theorem dX7_walkInto_67 : decode cX7_walkInto 67 = .ok (.invokevirtual 38, 3) := by decide +kernel
theorem dX7_walkInto_70 : decode cX7_walkInto 70 = .ok (.pop, 1) := by decide +kernel
theorem dX7_walkInto_71 : decode cX7_walkInto 71 = .ok (.iinc 7 1, 3) := by decide +kernel
theorem dX7_walkInto_74 : decode cX7_walkInto 74 = .ok (.goto (-61), 3) := by decide +kernel
theorem dX7_walkInto_77 : decode cX7_walkInto 77 = .ok (.return_, 1) := by decide +kernel
theorem dX7_allPlaces_0 : decode cX7_allPlaces 0 = .ok (.iconst 0, 1) := by decide +kernel
theorem dX7_allPlaces_1 : decode cX7_allPlaces 1 = .ok (.istore_n 1, 1) := by decide +kernel
theorem dX7_allPlaces_2 : decode cX7_allPlaces 2 = .ok (.iconst 0, 1) := by decide +kernel
theorem dX7_allPlaces_3 : decode cX7_allPlaces 3 = .ok (.istore_n 2, 1) := by decide +kernel
theorem dX7_allPlaces_4 : decode cX7_allPlaces 4 = .ok (.iload_n 2, 1) := by decide +kernel
theorem dX7_allPlaces_5 : decode cX7_allPlaces 5 = .ok (.iconst 3, 1) := by decide +kernel
theorem dX7_allPlaces_6 : decode cX7_allPlaces 6 = .ok (.if_icmp .ge 34, 3) := by decide +kernel
theorem dX7_allPlaces_9 : decode cX7_allPlaces 9 = .ok (.aload_n 0, 1) := by decide +kernel
theorem dX7_allPlaces_10 : decode cX7_allPlaces 10 = .ok (.getfield 11, 3) := by decide +kernel
theorem dX7_allPlaces_13 : decode cX7_allPlaces 13 = .ok (.iload_n 2, 1) := by decide +kernel
theorem dX7_allPlaces_14 : decode cX7_allPlaces 14 = .ok (.aaload, 1) := by decide +kernel
theorem dX7_allPlaces_15 : decode cX7_allPlaces 15 = .ok (.astore_n 3, 1) := by decide +kernel
theorem dX7_allPlaces_16 : decode cX7_allPlaces 16 = .ok (.iload_n 1, 1) := by decide +kernel
theorem dX7_allPlaces_17 : decode cX7_allPlaces 17 = .ok (.aload_n 3, 1) := by decide +kernel
theorem dX7_allPlaces_18 : decode cX7_allPlaces 18 = .ok (.ifnonnull 7, 3) := by decide +kernel
theorem dX7_allPlaces_21 : decode cX7_allPlaces 21 = .ok (.iconst 0, 1) := by decide +kernel
theorem dX7_allPlaces_22 : decode cX7_allPlaces 22 = .ok (.goto 10, 3) := by decide +kernel
theorem dX7_allPlaces_25 : decode cX7_allPlaces 25 = .ok (.aload_n 3, 1) := by decide +kernel
theorem dX7_allPlaces_26 : decode cX7_allPlaces 26 = .ok (.getfield 42, 3) := by decide +kernel
theorem dX7_allPlaces_29 : decode cX7_allPlaces 29 = .ok (.getfield 45, 3) := by decide +kernel
theorem dX7_allPlaces_32 : decode cX7_allPlaces 32 = .ok (.iadd, 1) := by decide +kernel
theorem dX7_allPlaces_33 : decode cX7_allPlaces 33 = .ok (.istore_n 1, 1) := by decide +kernel
theorem dX7_allPlaces_34 : decode cX7_allPlaces 34 = .ok (.iinc 2 1, 3) := by decide +kernel
theorem dX7_allPlaces_37 : decode cX7_allPlaces 37 = .ok (.goto (-33), 3) := by decide +kernel
theorem dX7_allPlaces_40 : decode cX7_allPlaces 40 = .ok (.iload_n 1, 1) := by decide +kernel
theorem dX7_allPlaces_41 : decode cX7_allPlaces 41 = .ok (.ireturn, 1) := by decide +kernel

