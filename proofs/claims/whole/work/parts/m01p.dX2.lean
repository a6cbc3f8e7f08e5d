theorem dX2_init_0 : decode cX2_init 0 = .ok (.aload_n 0, 1) := by decide +kernel
theorem dX2_init_1 : decode cX2_init 1 = .ok (.invokespecial 3, 3) := by decide +kernel
theorem dX2_init_4 : decode cX2_init 4 = .ok (.aload_n 0, 1) := by decide +kernel
theorem dX2_init_5 : decode cX2_init 5 = .ok (.bipush 20, 2) := by decide +kernel
theorem dX2_init_7 : decode cX2_init 7 = .ok (.anewarray 9, 3) := by decide +kernel
theorem dX2_init_10 : decode cX2_init 10 = .ok (.putfield 11, 3) := by decide +kernel
theorem dX2_init_13 : decode cX2_init 13 = .ok (.return_, 1) := by decide +kernel
theorem dX2_keep_0 : decode cX2_keep 0 = .ok (.aload_n 0, 1) := by decide +kernel
theorem dX2_keep_1 : decode cX2_keep 1 = .ok (.getfield 17, 3) := by decide +kernel
theorem dX2_keep_4 : decode cX2_keep 4 = .ok (.bipush 20, 2) := by decide +kernel
theorem dX2_keep_6 : decode cX2_keep 6 = .ok (.if_icmp .ne 26, 3) := by decide +kernel
theorem dX2_keep_9 : decode cX2_keep 9 = .ok (.aload_n 0, 1) := by decide +kernel
theorem dX2_keep_10 : decode cX2_keep 10 = .ok (.aload_n 0, 1) := by decide +kernel
theorem dX2_keep_11 : decode cX2_keep 11 = .ok (.getfield 21, 3) := by decide +kernel
theorem dX2_keep_14 : decode cX2_keep 14 = .ok (.iconst 1, 1) := by decide +kernel
theorem dX2_keep_15 : decode cX2_keep 15 = .ok (.iadd, 1) := by decide +kernel
theorem dX2_keep_16 : decode cX2_keep 16 = .ok (.bipush 20, 2) := by decide +kernel
theorem dX2_keep_18 : decode cX2_keep 18 = .ok (.irem, 1) := by decide +kernel
theorem dX2_keep_19 : decode cX2_keep 19 = .ok (.putfield 21, 3) := by decide +kernel
theorem dX2_keep_22 : decode cX2_keep 22 = .ok (.aload_n 0, 1) := by decide +kernel
theorem dX2_keep_23 : decode cX2_keep 23 = .ok (.dup, 1) := by decide +kernel
theorem dX2_keep_24 : decode cX2_keep 24 = .ok (.getfield 17, 3) := by decide +kernel
theorem dX2_keep_27 : decode cX2_keep 27 = .ok (.iconst 1, 1) := by decide +kernel
theorem dX2_keep_28 : decode cX2_keep 28 = .ok (.isub, 1) := by decide +kernel
theorem dX2_keep_29 : decode cX2_keep 29 = .ok (.putfield 17, 3) := by decide +kernel
theorem dX2_keep_32 : decode cX2_keep 32 = .ok (.aload_n 0, 1) := by decide +kernel
theorem dX2_keep_33 : decode cX2_keep 33 = .ok (.dup, 1) := by decide +kernel
theorem dX2_keep_34 : decode cX2_keep 34 = .ok (.getfield 17, 3) := by decide +kernel
theorem dX2_keep_37 : decode cX2_keep 37 = .ok (.iconst 1, 1) := by decide +kernel
theorem dX2_keep_38 : decode cX2_keep 38 = .ok (.iadd, 1) := by decide +kernel
theorem dX2_keep_39 : decode cX2_keep 39 = .ok (.putfield 17, 3) := by decide +kernel
theorem dX2_keep_42 : decode cX2_keep 42 = .ok (.aload_n 0, 1) := by decide +kernel
theorem dX2_keep_43 : decode cX2_keep 43 = .ok (.aload_n 0, 1) := by decide +kernel
theorem dX2_keep_44 : decode cX2_keep 44 = .ok (.getfield 17, 3) := by decide +kernel
theorem dX2_keep_47 : decode cX2_keep 47 = .ok (.iconst 1, 1) := by decide +kernel
theorem dX2_keep_48 : decode cX2_keep 48 = .ok (.isub, 1) := by decide +kernel
theorem dX2_keep_49 : decode cX2_keep 49 = .ok (.invokevirtual 24, 3) := by decide +kernel
theorem dX2_keep_52 : decode cX2_keep 52 = .ok (.aload_n 1, 1) := by decide +kernel
theorem dX2_keep_53 : decode cX2_keep 53 = .ok (.invokevirtual 28, 3) := by decide +kernel
theorem dX2_keep_56 : decode cX2_keep 56 = .ok (.return_, 1) := by decide +kernel
theorem dX2_takeBack_0 : decode cX2_takeBack 0 = .ok (.aload_n 0, 1) := by decide +kernel
theorem dX2_takeBack_1 : decode cX2_takeBack 1 = .ok (.getfield 17, 3) := by decide +kernel
theorem dX2_takeBack_4 : decode cX2_takeBack 4 = .ok (.ifCond .ne 5, 3) := by decide +kernel
theorem dX2_takeBack_7 : decode cX2_takeBack 7 = .ok (.iconst 0, 1) := by decide +kernel
theorem dX2_takeBack_8 : decode cX2_takeBack 8 = .ok (.ireturn, 1) := by decide +kernel
theorem dX2_takeBack_9 : decode cX2_takeBack 9 = .ok (.aload_n 1, 1) := by decide +kernel
theorem dX2_takeBack_10 : decode cX2_takeBack 10 = .ok (.aload_n 0, 1) := by decide +kernel
theorem dX2_takeBack_11 : decode cX2_takeBack 11 = .ok (.aload_n 0, 1) := by decide +kernel
theorem dX2_takeBack_12 : decode cX2_takeBack 12 = .ok (.getfield 17, 3) := by decide +kernel
theorem dX2_takeBack_15 : decode cX2_takeBack 15 = .ok (.iconst 1, 1) := by decide +kernel
theorem dX2_takeBack_16 : decode cX2_takeBack 16 = .ok (.isub, 1) := by decide +kernel
theorem dX2_takeBack_17 : decode cX2_takeBack 17 = .ok (.invokevirtual 24, 3) := by decide +kernel
theorem dX2_takeBack_20 : decode cX2_takeBack 20 = .ok (.invokevirtual 28, 3) := by decide +kernel
theorem dX2_takeBack_23 : decode cX2_takeBack 23 = .ok (.aload_n 0, 1) := by decide +kernel
theorem dX2_takeBack_24 : decode cX2_takeBack 24 = .ok (.dup, 1) := by decide +kernel
theorem dX2_takeBack_25 : decode cX2_takeBack 25 = .ok (.getfield 17, 3) := by decide +kernel
theorem dX2_takeBack_28 : decode cX2_takeBack 28 = .ok (.iconst 1, 1) := by decide +kernel
theorem dX2_takeBack_29 : decode cX2_takeBack 29 = .ok (.isub, 1) := by decide +kernel
theorem dX2_takeBack_30 : decode cX2_takeBack 30 = .ok (.putfield 17, 3) := by decide +kernel
theorem dX2_takeBack_33 : decode cX2_takeBack 33 = .ok (.iconst 1, 1) := by decide +kernel
theorem dX2_takeBack_34 : decode cX2_takeBack 34 = .ok (.ireturn, 1) := by decide +kernel
theorem dX2_mirror_0 : decode cX2_mirror 0 = .ok (.aload_n 0, 1) := by decide +kernel
theorem dX2_mirror_1 : decode cX2_mirror 1 = .ok (.iconst 0, 1) := by decide +kernel
theorem dX2_mirror_2 : decode cX2_mirror 2 = .ok (.putfield 21, 3) := by decide +kernel
theorem dX2_mirror_5 : decode cX2_mirror 5 = .ok (.aload_n 0, 1) := by decide +kernel
theorem dX2_mirror_6 : decode cX2_mirror 6 = .ok (.aload_n 1, 1) := by decide +kernel
theorem dX2_mirror_7 : decode cX2_mirror 7 = .ok (.getfield 17, 3) := by decide +kernel
theorem dX2_mirror_10 : decode cX2_mirror 10 = .ok (.putfield 17, 3) := by decide +kernel
theorem dX2_mirror_13 : decode cX2_mirror 13 = .ok (.iconst 0, 1) := by decide +kernel
theorem dX2_mirror_14 : decode cX2_mirror 14 = .ok (.istore_n 2, 1) := by decide +kernel
theorem dX2_mirror_15 : decode cX2_mirror 15 = .ok (.iload_n 2, 1) := by decide +kernel
theorem dX2_mirror_16 : decode cX2_mirror 16 = .ok (.aload_n 0, 1) := by decide +kernel
theorem dX2_mirror_17 : decode cX2_mirror 17 = .ok (.getfield 17, 3) := by decide +kernel
theorem dX2_mirror_20 : decode cX2_mirror 20 = .ok (.if_icmp .ge 22, 3) := by decide +kernel
theorem dX2_mirror_23 : decode cX2_mirror 23 = .ok (.aload_n 0, 1) := by decide +kernel
theorem dX2_mirror_24 : decode cX2_mirror 24 = .ok (.iload_n 2, 1) := by decide +kernel
theorem dX2_mirror_25 : decode cX2_mirror 25 = .ok (.invokevirtual 24, 3) := by decide +kernel
theorem dX2_mirror_28 : decode cX2_mirror 28 = .ok (.aload_n 1, 1) := by decide +kernel
theorem dX2_mirror_29 : decode cX2_mirror 29 = .ok (.iload_n 2, 1) := by decide +kernel
theorem dX2_mirror_30 : decode cX2_mirror 30 = .ok (.invokevirtual 24, 3) := by decide +kernel
theorem dX2_mirror_33 : decode cX2_mirror 33 = .ok (.invokevirtual 28, 3) := by decide +kernel
theorem dX2_mirror_36 : decode cX2_mirror 36 = .ok (.iinc 2 1, 3) := by decide +kernel
theorem dX2_mirror_39 : decode cX2_mirror 39 = .ok (.goto (-24), 3) := by decide +kernel
theorem dX2_mirror_42 : decode cX2_mirror 42 = .ok (.return_, 1) := by decide +kernel
theorem dX2_rowAt_0 : decode cX2_rowAt 0 = .ok (.aload_n 0, 1) := by decide +kernel
theorem dX2_rowAt_1 : decode cX2_rowAt 1 = .ok (.getfield 21, 3) := by decide +kernel
theorem dX2_rowAt_4 : decode cX2_rowAt 4 = .ok (.iload_n 1, 1) := by decide +kernel
theorem dX2_rowAt_5 : decode cX2_rowAt 5 = .ok (.iadd, 1) := by decide +kernel
theorem dX2_rowAt_6 : decode cX2_rowAt 6 = .ok (.bipush 20, 2) := by decide +kernel
theorem dX2_rowAt_8 : decode cX2_rowAt 8 = .ok (.invokestatic 32, 3) := by decide +kernel
theorem dX2_rowAt_11 : decode cX2_rowAt 11 = .ok (.istore_n 2, 1) := by decide +kernel
theorem dX2_rowAt_12 : decode cX2_rowAt 12 = .ok (.aload_n 0, 1) := by decide +kernel
theorem dX2_rowAt_13 : decode cX2_rowAt 13 = .ok (.getfield 11, 3) := by decide +kernel
theorem dX2_rowAt_16 : decode cX2_rowAt 16 = .ok (.iload_n 2, 1) := by decide +kernel
theorem dX2_rowAt_17 : decode cX2_rowAt 17 = .ok (.aaload, 1) := by decide +kernel
theorem dX2_rowAt_18 : decode cX2_rowAt 18 = .ok (.astore_n 3, 1) := by decide +kernel
theorem dX2_rowAt_19 : decode cX2_rowAt 19 = .ok (.aload_n 3, 1) := by decide +kernel
theorem dX2_rowAt_20 : decode cX2_rowAt 20 = .ok (.ifnonnull 18, 3) := by decide +kernel
theorem dX2_rowAt_23 : decode cX2_rowAt 23 = .ok (.new 9, 3) := by decide +kernel
theorem dX2_rowAt_26 : decode cX2_rowAt 26 = .ok (.dup, 1) := by decide +kernel
theorem dX2_rowAt_27 : decode cX2_rowAt 27 = .ok (.invokespecial 38, 3) := by decide +kernel
theorem dX2_rowAt_30 : decode cX2_rowAt 30 = .ok (.astore_n 3, 1) := by decide +kernel
theorem dX2_rowAt_31 : decode cX2_rowAt 31 = .ok (.aload_n 0, 1) := by decide +kernel
theorem dX2_rowAt_32 : decode cX2_rowAt 32 = .ok (.getfield 11, 3) := by decide +kernel
theorem dX2_rowAt_35 : decode cX2_rowAt 35 = .ok (.iload_n 2, 1) := by decide +kernel
theorem dX2_rowAt_36 : decode cX2_rowAt 36 = .ok (.aload_n 3, 1) := by decide +kernel
theorem dX2_rowAt_37 : decode cX2_rowAt 37 = .ok (.aastore, 1) := by decide +kernel
theorem dX2_rowAt_38 : decode cX2_rowAt 38 = .ok (.aload_n 3, 1) := by decide +kernel
theorem dX2_rowAt_39 : decode cX2_rowAt 39 = .ok (.areturn, 1) := by decide +kernel

