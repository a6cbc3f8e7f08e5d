theorem dX9_looks_0 : decode cX9_looks 0 = .ok (.aload_n 0, 1) := by decide +kernel
theorem dX9_looks_1 : decode cX9_looks 1 = .ok (.iload_n 1, 1) := by decide +kernel
theorem dX9_looks_2 : decode cX9_looks 2 = .ok (.invokevirtual 370, 3) := by decide +kernel
theorem dX9_looks_5 : decode cX9_looks 5 = .ok (.astore_n 3, 1) := by decide +kernel
theorem dX9_looks_6 : decode cX9_looks 6 = .ok (.aload_n 3, 1) := by decide +kernel
theorem dX9_looks_7 : decode cX9_looks 7 = .ok (.ifnonnull 8, 3) := by decide +kernel
theorem dX9_looks_10 : decode cX9_looks 10 = .ok (.bipush (-2), 2) := by decide +kernel
theorem dX9_looks_12 : decode cX9_looks 12 = .ok (.goto 8, 3) := by decide +kernel
theorem dX9_looks_15 : decode cX9_looks 15 = .ok (.aload_n 3, 1) := by decide +kernel
theorem dX9_looks_16 : decode cX9_looks 16 = .ok (.iload_n 2, 1) := by decide +kernel
theorem dX9_looks_17 : decode cX9_looks 17 = .ok (.invokevirtual 376, 3) := by decide +kernel
theorem dX9_looks_20 : decode cX9_looks 20 = .ok (.ireturn, 1) := by decide +kernel
theorem dX9_sum_0 : decode cX9_sum 0 = .ok (.aload_n 0, 1) := by decide +kernel
theorem dX9_sum_1 : decode cX9_sum 1 = .ok (.iload_n 1, 1) := by decide +kernel
theorem dX9_sum_2 : decode cX9_sum 2 = .ok (.invokevirtual 89, 3) := by decide +kernel
theorem dX9_sum_5 : decode cX9_sum 5 = .ok (.astore 4, 2) := by decide +kernel
theorem dX9_sum_7 : decode cX9_sum 7 = .ok (.aload 4, 2) := by decide +kernel
theorem dX9_sum_9 : decode cX9_sum 9 = .ok (.ifnull 16, 3) := by decide +kernel
theorem dX9_sum_12 : decode cX9_sum 12 = .ok (.aload 4, 2) := by decide +kernel
theorem dX9_sum_14 : decode cX9_sum 14 = .ok (.getfield 101, 3) := by decide +kernel
theorem dX9_sum_17 : decode cX9_sum 17 = .ok (.iload_n 2, 1) := by decide +kernel
theorem dX9_sum_18 : decode cX9_sum 18 = .ok (.iload_n 3, 1) := by decide +kernel
theorem dX9_sum_19 : decode cX9_sum 19 = .ok (.invokevirtual 168, 3) := by decide +kernel
theorem dX9_sum_22 : decode cX9_sum 22 = .ok (.ifCond .ne 5, 3) := by decide +kernel
theorem dX9_sum_25 : decode cX9_sum 25 = .ok (.lconst 0, 1) := by decide +kernel
theorem dX9_sum_26 : decode cX9_sum 26 = .ok (.lreturn, 1) := by decide +kernel
theorem dX9_sum_27 : decode cX9_sum 27 = .ok (.aload 4, 2) := by decide +kernel
theorem dX9_sum_29 : decode cX9_sum 29 = .ok (.getfield 101, 3) := by decide +kernel
theorem dX9_sum_32 : decode cX9_sum 32 = .ok (.iload_n 2, 1) := by decide +kernel
theorem dX9_sum_33 : decode cX9_sum 33 = .ok (.iload_n 3, 1) := by decide +kernel
theorem dX9_sum_34 : decode cX9_sum 34 = .ok (.invokevirtual 379, 3) := by decide +kernel
theorem dX9_sum_37 : decode cX9_sum 37 = .ok (.lreturn, 1) := by decide +kernel
theorem dX9_count_0 : decode cX9_count 0 = .ok (.aload_n 0, 1) := by decide +kernel
theorem dX9_count_1 : decode cX9_count 1 = .ok (.iload_n 1, 1) := by decide +kernel
theorem dX9_count_2 : decode cX9_count 2 = .ok (.invokevirtual 89, 3) := by decide +kernel
theorem dX9_count_5 : decode cX9_count 5 = .ok (.astore 4, 2) := by decide +kernel
theorem dX9_count_7 : decode cX9_count 7 = .ok (.aload 4, 2) := by decide +kernel
theorem dX9_count_9 : decode cX9_count 9 = .ok (.ifnonnull 7, 3) := by decide +kernel
theorem dX9_count_12 : decode cX9_count 12 = .ok (.iconst (-1), 1) := by decide +kernel
theorem dX9_count_13 : decode cX9_count 13 = .ok (.goto 13, 3) := by decide +kernel
theorem dX9_count_16 : decode cX9_count 16 = .ok (.aload 4, 2) := by decide +kernel
theorem dX9_count_18 : decode cX9_count 18 = .ok (.getfield 101, 3) := by decide +kernel
theorem dX9_count_21 : decode cX9_count 21 = .ok (.iload_n 2, 1) := by decide +kernel
theorem dX9_count_22 : decode cX9_count 22 = .ok (.iload_n 3, 1) := by decide +kernel
theorem dX9_count_23 : decode cX9_count 23 = .ok (.invokevirtual 383, 3) := by decide +kernel
theorem dX9_count_26 : decode cX9_count 26 = .ok (.ireturn, 1) := by decide +kernel
theorem dX9_skipped_0 : decode cX9_skipped 0 = .ok (.aload_n 0, 1) := by decide +kernel
theorem dX9_skipped_1 : decode cX9_skipped 1 = .ok (.iload_n 1, 1) := by decide +kernel
theorem dX9_skipped_2 : decode cX9_skipped 2 = .ok (.invokevirtual 89, 3) := by decide +kernel
theorem dX9_skipped_5 : decode cX9_skipped 5 = .ok (.astore 4, 2) := by decide +kernel
theorem dX9_skipped_7 : decode cX9_skipped 7 = .ok (.aload 4, 2) := by decide +kernel
theorem dX9_skipped_9 : decode cX9_skipped 9 = .ok (.ifnonnull 7, 3) := by decide +kernel
theorem dX9_skipped_12 : decode cX9_skipped 12 = .ok (.iconst (-1), 1) := by decide +kernel
theorem dX9_skipped_13 : decode cX9_skipped 13 = .ok (.goto 10, 3) := by decide +kernel
theorem dX9_skipped_16 : decode cX9_skipped 16 = .ok (.aload 4, 2) := by decide +kernel
theorem dX9_skipped_18 : decode cX9_skipped 18 = .ok (.iload_n 2, 1) := by decide +kernel
theorem dX9_skipped_19 : decode cX9_skipped 19 = .ok (.iload_n 3, 1) := by decide +kernel
theorem dX9_skipped_20 : decode cX9_skipped 20 = .ok (.invokevirtual 386, 3) := by decide +kernel
theorem dX9_skipped_23 : decode cX9_skipped 23 = .ok (.ireturn, 1) := by decide +kernel
theorem dX9_ranked_0 : decode cX9_ranked 0 = .ok (.aload_n 0, 1) := by decide +kernel
theorem dX9_ranked_1 : decode cX9_ranked 1 = .ok (.iload_n 1, 1) := by decide +kernel
theorem dX9_ranked_2 : decode cX9_ranked 2 = .ok (.invokevirtual 89, 3) := by decide +kernel
theorem dX9_ranked_5 : decode cX9_ranked 5 = .ok (.astore_n 3, 1) := by decide +kernel
theorem dX9_ranked_6 : decode cX9_ranked 6 = .ok (.aload_n 3, 1) := by decide +kernel
theorem dX9_ranked_7 : decode cX9_ranked 7 = .ok (.ifnonnull 9, 3) := by decide +kernel
theorem dX9_ranked_10 : decode cX9_ranked 10 = .ok (.ldc2_w 267, 3) := by decide +kernel
theorem dX9_ranked_13 : decode cX9_ranked 13 = .ok (.goto 11, 3) := by decide +kernel
theorem dX9_ranked_16 : decode cX9_ranked 16 = .ok (.aload_n 3, 1) := by decide +kernel
theorem dX9_ranked_17 : decode cX9_ranked 17 = .ok (.getfield 101, 3) := by decide +kernel
theorem dX9_ranked_20 : decode cX9_ranked 20 = .ok (.iload_n 2, 1) := by decide +kernel
theorem dX9_ranked_21 : decode cX9_ranked 21 = .ok (.invokevirtual 389, 3) := by decide +kernel
theorem dX9_ranked_24 : decode cX9_ranked 24 = .ok (.lreturn, 1) := by decide +kernel
theorem dX9_distinct_0 : decode cX9_distinct 0 = .ok (.aload_n 0, 1) := by decide +kernel
theorem dX9_distinct_1 : decode cX9_distinct 1 = .ok (.iload_n 1, 1) := by decide +kernel
theorem dX9_distinct_2 : decode cX9_distinct 2 = .ok (.invokevirtual 89, 3) := by decide +kernel
theorem dX9_distinct_5 : decode cX9_distinct 5 = .ok (.astore_n 2, 1) := by decide +kernel
theorem dX9_distinct_6 : decode cX9_distinct 6 = .ok (.aload_n 2, 1) := by decide +kernel
theorem dX9_distinct_7 : decode cX9_distinct 7 = .ok (.ifnonnull 7, 3) := by decide +kernel
theorem dX9_distinct_10 : decode cX9_distinct 10 = .ok (.iconst (-1), 1) := by decide +kernel
theorem dX9_distinct_11 : decode cX9_distinct 11 = .ok (.goto 10, 3) := by decide +kernel
theorem dX9_distinct_14 : decode cX9_distinct 14 = .ok (.aload_n 2, 1) := by decide +kernel
theorem dX9_distinct_15 : decode cX9_distinct 15 = .ok (.getfield 101, 3) := by decide +kernel
theorem dX9_distinct_18 : decode cX9_distinct 18 = .ok (.invokevirtual 392, 3) := by decide +kernel
theorem dX9_distinct_21 : decode cX9_distinct 21 = .ok (.ireturn, 1) := by decide +kernel
theorem dX9_run_0 : decode cX9_run 0 = .ok (.aload_n 0, 1) := by decide +kernel
theorem dX9_run_1 : decode cX9_run 1 = .ok (.iload_n 1, 1) := by decide +kernel
theorem dX9_run_2 : decode cX9_run 2 = .ok (.invokevirtual 89, 3) := by decide +kernel
theorem dX9_run_5 : decode cX9_run 5 = .ok (.astore_n 2, 1) := by decide +kernel
theorem dX9_run_6 : decode cX9_run 6 = .ok (.aload_n 2, 1) := by decide +kernel
theorem dX9_run_7 : decode cX9_run 7 = .ok (.ifnonnull 7, 3) := by decide +kernel
theorem dX9_run_10 : decode cX9_run 10 = .ok (.iconst (-1), 1) := by decide +kernel
theorem dX9_run_11 : decode cX9_run 11 = .ok (.goto 10, 3) := by decide +kernel
theorem dX9_run_14 : decode cX9_run 14 = .ok (.aload_n 2, 1) := by decide +kernel
theorem dX9_run_15 : decode cX9_run 15 = .ok (.getfield 101, 3) := by decide +kernel
theorem dX9_run_18 : decode cX9_run 18 = .ok (.invokevirtual 395, 3) := by decide +kernel
theorem dX9_run_21 : decode cX9_run 21 = .ok (.ireturn, 1) := by decide +kernel
theorem dX9_unlike_0 : decode cX9_unlike 0 = .ok (.aload_n 0, 1) := by decide +kernel
theorem dX9_unlike_1 : decode cX9_unlike 1 = .ok (.iload_n 1, 1) := by decide +kernel
theorem dX9_unlike_2 : decode cX9_unlike 2 = .ok (.invokevirtual 89, 3) := by decide +kernel
theorem dX9_unlike_5 : decode cX9_unlike 5 = .ok (.astore_n 3, 1) := by decide +kernel
theorem dX9_unlike_6 : decode cX9_unlike 6 = .ok (.aload_n 0, 1) := by decide +kernel
theorem dX9_unlike_7 : decode cX9_unlike 7 = .ok (.iload_n 2, 1) := by decide +kernel
theorem dX9_unlike_8 : decode cX9_unlike 8 = .ok (.invokevirtual 89, 3) := by decide +kernel
theorem dX9_unlike_11 : decode cX9_unlike 11 = .ok (.astore 4, 2) := by decide +kernel
theorem dX9_unlike_13 : decode cX9_unlike 13 = .ok (.aload_n 3, 1) := by decide +kernel
theorem dX9_unlike_14 : decode cX9_unlike 14 = .ok (.ifnull 8, 3) := by decide +kernel
theorem dX9_unlike_17 : decode cX9_unlike 17 = .ok (.aload 4, 2) := by decide +kernel
theorem dX9_unlike_19 : decode cX9_unlike 19 = .ok (.ifnonnull 5, 3) := by decide +kernel
theorem dX9_unlike_22 : decode cX9_unlike 22 = .ok (.iconst (-1), 1) := by decide +kernel
theorem dX9_unlike_23 : decode cX9_unlike 23 = .ok (.ireturn, 1) := by decide +kernel
theorem dX9_unlike_24 : decode cX9_unlike 24 = .ok (.aload_n 3, 1) := by decide +kernel
theorem dX9_unlike_25 : decode cX9_unlike 25 = .ok (.getfield 101, 3) := by decide +kernel
theorem dX9_unlike_28 : decode cX9_unlike 28 = .ok (.aload 4, 2) := by decide +kernel
theorem dX9_unlike_30 : decode cX9_unlike 30 = .ok (.getfield 101, 3) := by decide +kernel
theorem dX9_unlike_33 : decode cX9_unlike 33 = .ok (.invokevirtual 398, 3) := by decide +kernel
theorem dX9_unlike_36 : decode cX9_unlike 36 = .ok (.ireturn, 1) := by decide +kernel
theorem dX9_alike_0 : decode cX9_alike 0 = .ok (.aload_n 0, 1) := by decide +kernel
theorem dX9_alike_1 : decode cX9_alike 1 = .ok (.iload_n 1, 1) := by decide +kernel
theorem dX9_alike_2 : decode cX9_alike 2 = .ok (.invokevirtual 89, 3) := by decide +kernel
theorem dX9_alike_5 : decode cX9_alike 5 = .ok (.astore_n 3, 1) := by decide +kernel
theorem dX9_alike_6 : decode cX9_alike 6 = .ok (.aload_n 0, 1) := by decide +kernel
theorem dX9_alike_7 : decode cX9_alike 7 = .ok (.iload_n 2, 1) := by decide +kernel
theorem dX9_alike_8 : decode cX9_alike 8 = .ok (.invokevirtual 89, 3) := by decide +kernel
theorem dX9_alike_11 : decode cX9_alike 11 = .ok (.astore 4, 2) := by decide +kernel
theorem dX9_alike_13 : decode cX9_alike 13 = .ok (.aload_n 3, 1) := by decide +kernel
theorem dX9_alike_14 : decode cX9_alike 14 = .ok (.ifnull 28, 3) := by decide +kernel
theorem dX9_alike_17 : decode cX9_alike 17 = .ok (.aload 4, 2) := by decide +kernel
theorem dX9_alike_19 : decode cX9_alike 19 = .ok (.ifnull 23, 3) := by decide +kernel
theorem dX9_alike_22 : decode cX9_alike 22 = .ok (.aload_n 3, 1) := by decide +kernel
theorem dX9_alike_23 : decode cX9_alike 23 = .ok (.getfield 101, 3) := by decide +kernel
theorem dX9_alike_26 : decode cX9_alike 26 = .ok (.aload 4, 2) := by decide +kernel
theorem dX9_alike_28 : decode cX9_alike 28 = .ok (.getfield 101, 3) := by decide +kernel
theorem dX9_alike_31 : decode cX9_alike 31 = .ok (.invokevirtual 398, 3) := by decide +kernel
theorem dX9_alike_34 : decode cX9_alike 34 = .ok (.iconst (-1), 1) := by decide +kernel
theorem dX9_alike_35 : decode cX9_alike 35 = .ok (.if_icmp .ne 7, 3) := by decide +kernel
theorem dX9_alike_38 : decode cX9_alike 38 = .ok (.iconst 1, 1) := by decide +kernel
theorem dX9_alike_39 : decode cX9_alike 39 = .ok (.goto 4, 3) := by decide +kernel
theorem dX9_alike_42 : decode cX9_alike 42 = .ok (.iconst 0, 1) := by decide +kernel
theorem dX9_alike_43 : decode cX9_alike 43 = .ok (.ireturn, 1) := by decide +kernel
theorem dX9_ratio_0 : decode cX9_ratio 0 = .ok (.aload_n 0, 1) := by decide +kernel
theorem dX9_ratio_1 : decode cX9_ratio 1 = .ok (.iload_n 1, 1) := by decide +kernel
theorem dX9_ratio_2 : decode cX9_ratio 2 = .ok (.invokevirtual 187, 3) := by decide +kernel
theorem dX9_ratio_5 : decode cX9_ratio 5 = .ok (.astore_n 2, 1) := by decide +kernel
theorem dX9_ratio_6 : decode cX9_ratio 6 = .ok (.aload_n 2, 1) := by decide +kernel
theorem dX9_ratio_7 : decode cX9_ratio 7 = .ok (.ifnull 13, 3) := by decide +kernel
theorem dX9_ratio_10 : decode cX9_ratio 10 = .ok (.aload_n 2, 1) := by decide +kernel
theorem dX9_ratio_11 : decode cX9_ratio 11 = .ok (.getfield 101, 3) := by decide +kernel
theorem dX9_ratio_14 : decode cX9_ratio 14 = .ok (.getfield 83, 3) := by decide +kernel
theorem dX9_ratio_17 : decode cX9_ratio 17 = .ok (.ifCond .ne 5, 3) := by decide +kernel
theorem dX9_ratio_20 : decode cX9_ratio 20 = .ok (.lconst 0, 1) := by decide +kernel
theorem dX9_ratio_21 : decode cX9_ratio 21 = .ok (.lreturn, 1) := by decide +kernel
theorem dX9_ratio_22 : decode cX9_ratio 22 = .ok (.aload_n 2, 1) := by decide +kernel
theorem dX9_ratio_23 : decode cX9_ratio 23 = .ok (.getfield 101, 3) := by decide +kernel
theorem dX9_ratio_26 : decode cX9_ratio 26 = .ok (.getfield 83, 3) := by decide +kernel
theorem dX9_ratio_29 : decode cX9_ratio 29 = .ok (.i2d, 1) := by decide +kernel
theorem dX9_ratio_30 : decode cX9_ratio 30 = .ok (.dstore_n 3, 1) := by decide +kernel
theorem dX9_ratio_31 : decode cX9_ratio 31 = .ok (.aload_n 2, 1) := by decide +kernel
theorem dX9_ratio_32 : decode cX9_ratio 32 = .ok (.iconst 5, 1) := by decide +kernel
theorem dX9_ratio_33 : decode cX9_ratio 33 = .ok (.invokevirtual 131, 3) := by decide +kernel
theorem dX9_ratio_36 : decode cX9_ratio 36 = .ok (.i2d, 1) := by decide +kernel
theorem dX9_ratio_37 : decode cX9_ratio 37 = .ok (.ldc2_w 402, 3) := by decide +kernel
theorem dX9_ratio_40 : decode cX9_ratio 40 = .ok (.dload_n 3, 1) := by decide +kernel
theorem dX9_ratio_41 : decode cX9_ratio 41 = .ok (.dmul, 1) := by decide +kernel
theorem dX9_ratio_42 : decode cX9_ratio 42 = .ok (.ddiv, 1) := by decide +kernel
theorem dX9_ratio_43 : decode cX9_ratio 43 = .ok (.invokestatic 404, 3) := by decide +kernel
theorem dX9_ratio_46 : decode cX9_ratio 46 = .ok (.lreturn, 1) := by decide +kernel
theorem dX9_image_0 : decode cX9_image 0 = .ok (.aload_n 0, 1) := by decide +kernel
theorem dX9_image_1 : decode cX9_image 1 = .ok (.getfield 23, 3) := by decide +kernel
theorem dX9_image_4 : decode cX9_image 4 = .ok (.aload_n 0, 1) := by decide +kernel
theorem dX9_image_5 : decode cX9_image 5 = .ok (.getfield 12, 3) := by decide +kernel
theorem dX9_image_8 : decode cX9_image 8 = .ok (.invokevirtual 408, 3) := by decide +kernel
theorem dX9_image_11 : decode cX9_image 11 = .ok (.aload_n 0, 1) := by decide +kernel
theorem dX9_image_12 : decode cX9_image 12 = .ok (.getfield 26, 3) := by decide +kernel
theorem dX9_image_15 : decode cX9_image 15 = .ok (.aload_n 0, 1) := by decide +kernel
theorem dX9_image_16 : decode cX9_image 16 = .ok (.getfield 19, 3) := by decide +kernel
theorem dX9_image_19 : decode cX9_image 19 = .ok (.invokevirtual 410, 3) := by decide +kernel
theorem dX9_image_22 : decode cX9_image 22 = .ok (.aload_n 0, 1) := by decide +kernel
theorem dX9_image_23 : decode cX9_image 23 = .ok (.getfield 12, 3) := by decide +kernel
theorem dX9_image_26 : decode cX9_image 26 = .ok (.invokevirtual 413, 3) := by decide +kernel
theorem dX9_image_29 : decode cX9_image 29 = .ok (.ireturn, 1) := by decide +kernel
theorem dX9_back_0 : decode cX9_back 0 = .ok (.aload_n 0, 1) := by decide +kernel
theorem dX9_back_1 : decode cX9_back 1 = .ok (.getfield 12, 3) := by decide +kernel
theorem dX9_back_4 : decode cX9_back 4 = .ok (.aload_n 0, 1) := by decide +kernel
theorem dX9_back_5 : decode cX9_back 5 = .ok (.getfield 23, 3) := by decide +kernel
theorem dX9_back_8 : decode cX9_back 8 = .ok (.invokevirtual 408, 3) := by decide +kernel
theorem dX9_back_11 : decode cX9_back 11 = .ok (.aload_n 0, 1) := by decide +kernel
theorem dX9_back_12 : decode cX9_back 12 = .ok (.getfield 19, 3) := by decide +kernel
theorem dX9_back_15 : decode cX9_back 15 = .ok (.aload_n 0, 1) := by decide +kernel
theorem dX9_back_16 : decode cX9_back 16 = .ok (.getfield 26, 3) := by decide +kernel
theorem dX9_back_19 : decode cX9_back 19 = .ok (.invokevirtual 410, 3) := by decide +kernel
theorem dX9_back_22 : decode cX9_back 22 = .ok (.aload_n 0, 1) := by decide +kernel
theorem dX9_back_23 : decode cX9_back 23 = .ok (.getfield 12, 3) := by decide +kernel
theorem dX9_back_26 : decode cX9_back 26 = .ok (.invokevirtual 413, 3) := by decide +kernel
theorem dX9_back_29 : decode cX9_back 29 = .ok (.ireturn, 1) := by decide +kernel
theorem dX9_about_0 : decode cX9_about 0 = .ok (.iload_n 1, 1) := by decide +kernel
theorem dX9_about_1 : decode cX9_about 1 = .ok (.tableswitch 66 0 3 #[31, 42, 50, 58], 31) := by decide +kernel
theorem dX9_about_32 : decode cX9_about 32 = .ok (.aload_n 0, 1) := by decide +kernel
theorem dX9_about_33 : decode cX9_about 33 = .ok (.getfield 12, 3) := by decide +kernel
theorem dX9_about_36 : decode cX9_about 36 = .ok (.getfield 79, 3) := by decide +kernel
theorem dX9_about_39 : decode cX9_about 39 = .ok (.getfield 83, 3) := by decide +kernel
theorem dX9_about_42 : decode cX9_about 42 = .ok (.ireturn, 1) := by decide +kernel
theorem dX9_about_43 : decode cX9_about 43 = .ok (.aload_n 0, 1) := by decide +kernel
theorem dX9_about_44 : decode cX9_about 44 = .ok (.getfield 19, 3) := by decide +kernel
theorem dX9_about_47 : decode cX9_about 47 = .ok (.getfield 240, 3) := by decide +kernel
theorem dX9_about_50 : decode cX9_about 50 = .ok (.ireturn, 1) := by decide +kernel
theorem dX9_about_51 : decode cX9_about 51 = .ok (.aload_n 0, 1) := by decide +kernel
theorem dX9_about_52 : decode cX9_about 52 = .ok (.getfield 32, 3) := by decide +kernel
theorem dX9_about_55 : decode cX9_about 55 = .ok (.getfield 209, 3) := by decide +kernel
theorem dX9_about_58 : decode cX9_about 58 = .ok (.ireturn, 1) := by decide +kernel
theorem dX9_about_59 : decode cX9_about 59 = .ok (.aload_n 0, 1) := by decide +kernel
theorem dX9_about_60 : decode cX9_about 60 = .ok (.getfield 12, 3) := by decide +kernel
theorem dX9_about_63 : decode cX9_about 63 = .ok (.getfield 203, 3) := by decide +kernel
theorem dX9_about_66 : decode cX9_about 66 = .ok (.ireturn, 1) := by decide +kernel
theorem dX9_about_67 : decode cX9_about 67 = .ok (.iconst (-1), 1) := by decide +kernel
theorem dX9_about_68 : decode cX9_about 68 = .ok (.ireturn, 1) := by decide +kernel
theorem dX9_columnAt_0 : decode cX9_columnAt 0 = .ok (.iload_n 1, 1) := by decide +kernel
theorem dX9_columnAt_1 : decode cX9_columnAt 1 = .ok (.ifCond .lt 20, 3) := by decide +kernel
theorem dX9_columnAt_4 : decode cX9_columnAt 4 = .ok (.iload_n 1, 1) := by decide +kernel
theorem dX9_columnAt_5 : decode cX9_columnAt 5 = .ok (.iconst 3, 1) := by decide +kernel
theorem dX9_columnAt_6 : decode cX9_columnAt 6 = .ok (.if_icmp .ge 15, 3) := by decide +kernel
theorem dX9_columnAt_9 : decode cX9_columnAt 9 = .ok (.aload_n 0, 1) := by decide +kernel
theorem dX9_columnAt_10 : decode cX9_columnAt 10 = .ok (.getfield 12, 3) := by decide +kernel
theorem dX9_columnAt_13 : decode cX9_columnAt 13 = .ok (.getfield 416, 3) := by decide +kernel
theorem dX9_columnAt_16 : decode cX9_columnAt 16 = .ok (.iload_n 1, 1) := by decide +kernel
theorem dX9_columnAt_17 : decode cX9_columnAt 17 = .ok (.aaload, 1) := by decide +kernel
theorem dX9_columnAt_18 : decode cX9_columnAt 18 = .ok (.goto 4, 3) := by decide +kernel
theorem dX9_columnAt_21 : decode cX9_columnAt 21 = .ok (.aconst_null, 1) := by decide +kernel
theorem dX9_columnAt_22 : decode cX9_columnAt 22 = .ok (.areturn, 1) := by decide +kernel
theorem dX9_withBlocks_0 : decode cX9_withBlocks 0 = .ok (.aload_n 0, 1) := by decide +kernel
theorem dX9_withBlocks_1 : decode cX9_withBlocks 1 = .ok (.iload_n 1, 1) := by decide +kernel
theorem dX9_withBlocks_2 : decode cX9_withBlocks 2 = .ok (.invokevirtual 89, 3) := by decide +kernel
theorem dX9_withBlocks_5 : decode cX9_withBlocks 5 = .ok (.astore_n 2, 1) := by decide +kernel
theorem dX9_withBlocks_6 : decode cX9_withBlocks 6 = .ok (.aload_n 2, 1) := by decide +kernel
theorem dX9_withBlocks_7 : decode cX9_withBlocks 7 = .ok (.ifnull 10, 3) := by decide +kernel
theorem dX9_withBlocks_10 : decode cX9_withBlocks 10 = .ok (.aload_n 2, 1) := by decide +kernel
theorem dX9_withBlocks_11 : decode cX9_withBlocks 11 = .ok (.getfield 112, 3) := by decide +kernel
theorem dX9_withBlocks_14 : decode cX9_withBlocks 14 = .ok (.ifCond .ne 7, 3) := by decide +kernel
theorem dX9_withBlocks_17 : decode cX9_withBlocks 17 = .ok (.aconst_null, 1) := by decide +kernel
theorem dX9_withBlocks_18 : decode cX9_withBlocks 18 = .ok (.goto 4, 3) := by decide +kernel
theorem dX9_withBlocks_21 : decode cX9_withBlocks 21 = .ok (.aload_n 2, 1) := by decide +kernel
theorem dX9_withBlocks_22 : decode cX9_withBlocks 22 = .ok (.areturn, 1) := by decide +kernel
theorem dX9_withBlock_0 : decode cX9_withBlock 0 = .ok (.aload_n 0, 1) := by decide +kernel
theorem dX9_withBlock_1 : decode cX9_withBlock 1 = .ok (.iload_n 1, 1) := by decide +kernel
theorem dX9_withBlock_2 : decode cX9_withBlock 2 = .ok (.invokevirtual 89, 3) := by decide +kernel
theorem dX9_withBlock_5 : decode cX9_withBlock 5 = .ok (.astore_n 3, 1) := by decide +kernel
theorem dX9_withBlock_6 : decode cX9_withBlock 6 = .ok (.aload_n 3, 1) := by decide +kernel
theorem dX9_withBlock_7 : decode cX9_withBlock 7 = .ok (.ifnull 11, 3) := by decide +kernel
theorem dX9_withBlock_10 : decode cX9_withBlock 10 = .ok (.aload_n 3, 1) := by decide +kernel
theorem dX9_withBlock_11 : decode cX9_withBlock 11 = .ok (.iload_n 2, 1) := by decide +kernel
theorem dX9_withBlock_12 : decode cX9_withBlock 12 = .ok (.invokevirtual 178, 3) := by decide +kernel
theorem dX9_withBlock_15 : decode cX9_withBlock 15 = .ok (.ifCond .ne 7, 3) := by decide +kernel
theorem dX9_withBlock_18 : decode cX9_withBlock 18 = .ok (.aconst_null, 1) := by decide +kernel
theorem dX9_withBlock_19 : decode cX9_withBlock 19 = .ok (.goto 4, 3) := by decide +kernel
theorem dX9_withBlock_22 : decode cX9_withBlock 22 = .ok (.aload_n 3, 1) := by decide +kernel
theorem dX9_withBlock_23 : decode cX9_withBlock 23 = .ok (.areturn, 1) := by decide +kernel
theorem dX9_withPlace_0 : decode cX9_withPlace 0 = .ok (.aload_n 0, 1) := by decide +kernel
theorem dX9_withPlace_1 : decode cX9_withPlace 1 = .ok (.iload_n 1, 1) := by decide +kernel
theorem dX9_withPlace_2 : decode cX9_withPlace 2 = .ok (.invokevirtual 89, 3) := by decide +kernel
theorem dX9_withPlace_5 : decode cX9_withPlace 5 = .ok (.astore_n 3, 1) := by decide +kernel
theorem dX9_withPlace_6 : decode cX9_withPlace 6 = .ok (.aload_n 3, 1) := by decide +kernel
theorem dX9_withPlace_7 : decode cX9_withPlace 7 = .ok (.ifnull 14, 3) := by decide +kernel
theorem dX9_withPlace_10 : decode cX9_withPlace 10 = .ok (.aload_n 3, 1) := by decide +kernel
theorem dX9_withPlace_11 : decode cX9_withPlace 11 = .ok (.getfield 101, 3) := by decide +kernel
theorem dX9_withPlace_14 : decode cX9_withPlace 14 = .ok (.iload_n 2, 1) := by decide +kernel
theorem dX9_withPlace_15 : decode cX9_withPlace 15 = .ok (.invokevirtual 135, 3) := by decide +kernel
theorem dX9_withPlace_18 : decode cX9_withPlace 18 = .ok (.ifCond .ne 7, 3) := by decide +kernel
theorem dX9_withPlace_21 : decode cX9_withPlace 21 = .ok (.aconst_null, 1) := by decide +kernel
theorem dX9_withPlace_22 : decode cX9_withPlace 22 = .ok (.goto 4, 3) := by decide +kernel
theorem dX9_withPlace_25 : decode cX9_withPlace 25 = .ok (.aload_n 3, 1) := by decide +kernel
theorem dX9_withPlace_26 : decode cX9_withPlace 26 = .ok (.areturn, 1) := by decide +kernel
theorem dX9_sortedColumn_0 : decode cX9_sortedColumn 0 = .ok (.aload_n 0, 1) := by decide +kernel
theorem dX9_sortedColumn_1 : decode cX9_sortedColumn 1 = .ok (.iload_n 1, 1) := by decide +kernel
theorem dX9_sortedColumn_2 : decode cX9_sortedColumn 2 = .ok (.invokevirtual 89, 3) := by decide +kernel
theorem dX9_sortedColumn_5 : decode cX9_sortedColumn 5 = .ok (.astore_n 2, 1) := by decide +kernel
theorem dX9_sortedColumn_6 : decode cX9_sortedColumn 6 = .ok (.aload_n 2, 1) := by decide +kernel
theorem dX9_sortedColumn_7 : decode cX9_sortedColumn 7 = .ok (.ifnull 13, 3) := by decide +kernel
theorem dX9_sortedColumn_10 : decode cX9_sortedColumn 10 = .ok (.aload_n 2, 1) := by decide +kernel
theorem dX9_sortedColumn_11 : decode cX9_sortedColumn 11 = .ok (.getfield 101, 3) := by decide +kernel
theorem dX9_sortedColumn_14 : decode cX9_sortedColumn 14 = .ok (.invokevirtual 153, 3) := by decide +kernel
theorem dX9_sortedColumn_17 : decode cX9_sortedColumn 17 = .ok (.ifCond .ne 7, 3) := by decide +kernel
theorem dX9_sortedColumn_20 : decode cX9_sortedColumn 20 = .ok (.aconst_null, 1) := by decide +kernel
theorem dX9_sortedColumn_21 : decode cX9_sortedColumn 21 = .ok (.goto 4, 3) := by decide +kernel
theorem dX9_sortedColumn_24 : decode cX9_sortedColumn 24 = .ok (.aload_n 2, 1) := by decide +kernel
theorem dX9_sortedColumn_25 : decode cX9_sortedColumn 25 = .ok (.areturn, 1) := by decide +kernel
theorem dX9_comeBehindPending_0 : decode cX9_comeBehindPending 0 = .ok (.aload_n 0, 1) := by decide +kernel
theorem dX9_comeBehindPending_1 : decode cX9_comeBehindPending 1 = .ok (.getfield 12, 3) := by decide +kernel
theorem dX9_comeBehindPending_4 : decode cX9_comeBehindPending 4 = .ok (.getfield 79, 3) := by decide +kernel
theorem dX9_comeBehindPending_7 : decode cX9_comeBehindPending 7 = .ok (.lload_n 1, 1) := by decide +kernel
theorem dX9_comeBehindPending_8 : decode cX9_comeBehindPending 8 = .ok (.invokevirtual 420, 3) := by decide +kernel
theorem dX9_comeBehindPending_11 : decode cX9_comeBehindPending 11 = .ok (.ifCond .eq 16, 3) := by decide +kernel
theorem dX9_comeBehindPending_14 : decode cX9_comeBehindPending 14 = .ok (.aload_n 0, 1) := by decide +kernel
theorem dX9_comeBehindPending_15 : decode cX9_comeBehindPending 15 = .ok (.getfield 12, 3) := by decide +kernel
theorem dX9_comeBehindPending_18 : decode cX9_comeBehindPending 18 = .ok (.getfield 79, 3) := by decide +kernel
theorem dX9_comeBehindPending_21 : decode cX9_comeBehindPending 21 = .ok (.getfield 83, 3) := by decide +kernel
theorem dX9_comeBehindPending_24 : decode cX9_comeBehindPending 24 = .ok (.goto 4, 3) := by decide +kernel
theorem dX9_comeBehindPending_27 : decode cX9_comeBehindPending 27 = .ok (.iconst (-1), 1) := by decide +kernel
theorem dX9_comeBehindPending_28 : decode cX9_comeBehindPending 28 = .ok (.ireturn, 1) := by decide +kernel
theorem dX9_change_0 : decode cX9_change 0 = .ok (.aload_n 0, 1) := by decide +kernel
theorem dX9_change_1 : decode cX9_change 1 = .ok (.iload_n 1, 1) := by decide +kernel
theorem dX9_change_2 : decode cX9_change 2 = .ok (.iload_n 2, 1) := by decide +kernel
theorem dX9_change_3 : decode cX9_change 3 = .ok (.invokevirtual 289, 3) := by decide +kernel
theorem dX9_change_6 : decode cX9_change 6 = .ok (.astore 5, 2) := by decide +kernel
theorem dX9_change_8 : decode cX9_change 8 = .ok (.aload 5, 2) := by decide +kernel
theorem dX9_change_10 : decode cX9_change 10 = .ok (.ifnonnull 5, 3) := by decide +kernel
theorem dX9_change_13 : decode cX9_change 13 = .ok (.iconst (-1), 1) := by decide +kernel
theorem dX9_change_14 : decode cX9_change 14 = .ok (.ireturn, 1) := by decide +kernel
theorem dX9_change_15 : decode cX9_change 15 = .ok (.aload_n 0, 1) := by decide +kernel
theorem dX9_change_16 : decode cX9_change 16 = .ok (.getfield 19, 3) := by decide +kernel
theorem dX9_change_19 : decode cX9_change 19 = .ok (.aload_n 0, 1) := by decide +kernel
theorem dX9_change_20 : decode cX9_change 20 = .ok (.getfield 12, 3) := by decide +kernel
theorem dX9_change_23 : decode cX9_change 23 = .ok (.invokevirtual 97, 3) := by decide +kernel
theorem dX9_change_26 : decode cX9_change 26 = .ok (.aload 5, 2) := by decide +kernel
theorem dX9_change_28 : decode cX9_change 28 = .ok (.getfield 101, 3) := by decide +kernel
theorem dX9_change_31 : decode cX9_change 31 = .ok (.iload_n 2, 1) := by decide +kernel
theorem dX9_change_32 : decode cX9_change 32 = .ok (.lload_n 3, 1) := by decide +kernel
theorem dX9_change_33 : decode cX9_change 33 = .ok (.invokevirtual 423, 3) := by decide +kernel
theorem dX9_change_36 : decode cX9_change 36 = .ok (.aload 5, 2) := by decide +kernel
theorem dX9_change_38 : decode cX9_change 38 = .ok (.iload_n 2, 1) := by decide +kernel
theorem dX9_change_39 : decode cX9_change 39 = .ok (.invokevirtual 286, 3) := by decide +kernel
theorem dX9_change_42 : decode cX9_change 42 = .ok (.istore 6, 2) := by decide +kernel
theorem dX9_change_44 : decode cX9_change 44 = .ok (.aload 5, 2) := by decide +kernel
theorem dX9_change_46 : decode cX9_change 46 = .ok (.aload_n 0, 1) := by decide +kernel
theorem dX9_change_47 : decode cX9_change 47 = .ok (.getfield 39, 3) := by decide +kernel
theorem dX9_change_50 : decode cX9_change 50 = .ok (.iload 6, 2) := by decide +kernel
theorem dX9_change_52 : decode cX9_change 52 = .ok (.invokevirtual 426, 3) := by decide +kernel
theorem dX9_change_55 : decode cX9_change 55 = .ok (.aload 5, 2) := by decide +kernel
theorem dX9_change_57 : decode cX9_change 57 = .ok (.iload 6, 2) := by decide +kernel
theorem dX9_change_59 : decode cX9_change 59 = .ok (.iconst 5, 1) := by decide +kernel
theorem dX9_change_60 : decode cX9_change 60 = .ok (.invokevirtual 115, 3) := by decide +kernel
theorem dX9_change_63 : decode cX9_change 63 = .ok (.ireturn, 1) := by decide +kernel
theorem dX9_measurePending_0 : decode cX9_measurePending 0 = .ok (.aload_n 0, 1) := by decide +kernel
theorem dX9_measurePending_1 : decode cX9_measurePending 1 = .ok (.getfield 39, 3) := by decide +kernel
theorem dX9_measurePending_4 : decode cX9_measurePending 4 = .ok (.aload_n 0, 1) := by decide +kernel
theorem dX9_measurePending_5 : decode cX9_measurePending 5 = .ok (.getfield 12, 3) := by decide +kernel
theorem dX9_measurePending_8 : decode cX9_measurePending 8 = .ok (.getfield 79, 3) := by decide +kernel
theorem dX9_measurePending_11 : decode cX9_measurePending 11 = .ok (.iconst 0, 1) := by decide +kernel
theorem dX9_measurePending_12 : decode cX9_measurePending 12 = .ok (.aload_n 0, 1) := by decide +kernel
theorem dX9_measurePending_13 : decode cX9_measurePending 13 = .ok (.getfield 12, 3) := by decide +kernel
theorem dX9_measurePending_16 : decode cX9_measurePending 16 = .ok (.getfield 79, 3) := by decide +kernel
theorem dX9_measurePending_19 : decode cX9_measurePending 19 = .ok (.getfield 83, 3) := by decide +kernel
theorem dX9_measurePending_22 : decode cX9_measurePending 22 = .ok (.invokevirtual 429, 3) := by decide +kernel
theorem dX9_measurePending_25 : decode cX9_measurePending 25 = .ok (.aload_n 0, 1) := by decide +kernel
theorem dX9_measurePending_26 : decode cX9_measurePending 26 = .ok (.getfield 39, 3) := by decide +kernel
theorem dX9_measurePending_29 : decode cX9_measurePending 29 = .ok (.getfield 432, 3) := by decide +kernel
theorem dX9_measurePending_32 : decode cX9_measurePending 32 = .ok (.ifCond .le 18, 3) := by decide +kernel
theorem dX9_measurePending_35 : decode cX9_measurePending 35 = .ok (.aload_n 0, 1) := by decide +kernel
theorem dX9_measurePending_36 : decode cX9_measurePending 36 = .ok (.getfield 39, 3) := by decide +kernel
theorem dX9_measurePending_39 : decode cX9_measurePending 39 = .ok (.iload_n 1, 1) := by decide +kernel
theorem dX9_measurePending_40 : decode cX9_measurePending 40 = .ok (.invokevirtual 435, 3) := by decide +kernel
theorem dX9_measurePending_43 : decode cX9_measurePending 43 = .ok (.ifCond .eq 7, 3) := by decide +kernel
theorem dX9_measurePending_46 : decode cX9_measurePending 46 = .ok (.iconst 1, 1) := by decide +kernel
theorem dX9_measurePending_47 : decode cX9_measurePending 47 = .ok (.goto 4, 3) := by decide +kernel
theorem dX9_measurePending_50 : decode cX9_measurePending 50 = .ok (.iconst 0, 1) := by decide +kernel
theorem dX9_measurePending_51 : decode cX9_measurePending 51 = .ok (.ireturn, 1) := by decide +kernel
theorem dX9_blocksFor_0 : decode cX9_blocksFor 0 = .ok (.iload_n 0, 1) := by decide +kernel
theorem dX9_blocksFor_1 : decode cX9_blocksFor 1 = .ok (.bipush 16, 2) := by decide +kernel
theorem dX9_blocksFor_3 : decode cX9_blocksFor 3 = .ok (.iadd, 1) := by decide +kernel
theorem dX9_blocksFor_4 : decode cX9_blocksFor 4 = .ok (.iconst 1, 1) := by decide +kernel
theorem dX9_blocksFor_5 : decode cX9_blocksFor 5 = .ok (.isub, 1) := by decide +kernel
theorem dX9_blocksFor_6 : decode cX9_blocksFor 6 = .ok (.bipush 16, 2) := by decide +kernel
theorem dX9_blocksFor_8 : decode cX9_blocksFor 8 = .ok (.idiv, 1) := by decide +kernel
theorem dX9_blocksFor_9 : decode cX9_blocksFor 9 = .ok (.ireturn, 1) := by decide +kernel
theorem dX9_wordsFor_0 : decode cX9_wordsFor 0 = .ok (.iload_n 0, 1) := by decide +kernel
theorem dX9_wordsFor_1 : decode cX9_wordsFor 1 = .ok (.bipush 32, 2) := by decide +kernel
theorem dX9_wordsFor_3 : decode cX9_wordsFor 3 = .ok (.iadd, 1) := by decide +kernel
theorem dX9_wordsFor_4 : decode cX9_wordsFor 4 = .ok (.iconst 1, 1) := by decide +kernel
theorem dX9_wordsFor_5 : decode cX9_wordsFor 5 = .ok (.isub, 1) := by decide +kernel
theorem dX9_wordsFor_6 : decode cX9_wordsFor 6 = .ok (.bipush 32, 2) := by decide +kernel
theorem dX9_wordsFor_8 : decode cX9_wordsFor 8 = .ok (.idiv, 1) := by decide +kernel
theorem dX9_wordsFor_9 : decode cX9_wordsFor 9 = .ok (.ireturn, 1) := by decide +kernel
theorem dX9_fold_0 : decode cX9_fold 0 = .ok (.iload_n 0, 1) := by decide +kernel
theorem dX9_fold_1 : decode cX9_fold 1 = .ok (.iconst 1, 1) := by decide +kernel
theorem dX9_fold_2 : decode cX9_fold 2 = .ok (.ishl, 1) := by decide +kernel
theorem dX9_fold_3 : decode cX9_fold 3 = .ok (.iload_n 0, 1) := by decide +kernel
theorem dX9_fold_4 : decode cX9_fold 4 = .ok (.bipush 31, 2) := by decide +kernel
theorem dX9_fold_6 : decode cX9_fold 6 = .ok (.ishr, 1) := by decide +kernel
theorem dX9_fold_7 : decode cX9_fold 7 = .ok (.ixor, 1) := by decide +kernel
theorem dX9_fold_8 : decode cX9_fold 8 = .ok (.ireturn, 1) := by decide +kernel
theorem dX9_unfold_0 : decode cX9_unfold 0 = .ok (.iload_n 0, 1) := by decide +kernel
theorem dX9_unfold_1 : decode cX9_unfold 1 = .ok (.iconst 1, 1) := by decide +kernel
theorem dX9_unfold_2 : decode cX9_unfold 2 = .ok (.iushr, 1) := by decide +kernel
theorem dX9_unfold_3 : decode cX9_unfold 3 = .ok (.iload_n 0, 1) := by decide +kernel
theorem dX9_unfold_4 : decode cX9_unfold 4 = .ok (.iconst 1, 1) := by decide +kernel
theorem dX9_unfold_5 : decode cX9_unfold 5 = .ok (.iand, 1) := by decide +kernel
theorem dX9_unfold_6 : decode cX9_unfold 6 = .ok (.ineg, 1) := by decide +kernel
theorem dX9_unfold_7 : decode cX9_unfold 7 = .ok (.ixor, 1) := by decide +kernel
theorem dX9_unfold_8 : decode cX9_unfold 8 = .ok (.ireturn, 1) := by decide +kernel
theorem dX9_unsigned_0 : decode cX9_unsigned 0 = .ok (.iload_n 0, 1) := by decide +kernel
theorem dX9_unsigned_1 : decode cX9_unsigned 1 = .ok (.i2l, 1) := by decide +kernel
theorem dX9_unsigned_2 : decode cX9_unsigned 2 = .ok (.ldc2_w 438, 3) := by decide +kernel
theorem dX9_unsigned_5 : decode cX9_unsigned 5 = .ok (.land, 1) := by decide +kernel
theorem dX9_unsigned_6 : decode cX9_unsigned 6 = .ok (.lreturn, 1) := by decide +kernel
theorem dX9_bitsOfDouble_0 : decode cX9_bitsOfDouble 0 = .ok (.dload_n 0, 1) := by decide +kernel
theorem dX9_bitsOfDouble_1 : decode cX9_bitsOfDouble 1 = .ok (.dstore_n 2, 1) := by decide +kernel
theorem dX9_bitsOfDouble_2 : decode cX9_bitsOfDouble 2 = .ok (.ldc2_w 440, 3) := by decide +kernel
theorem dX9_bitsOfDouble_5 : decode cX9_bitsOfDouble 5 = .ok (.lstore 4, 2) := by decide +kernel
theorem dX9_bitsOfDouble_7 : decode cX9_bitsOfDouble 7 = .ok (.iconst 0, 1) := by decide +kernel
theorem dX9_bitsOfDouble_8 : decode cX9_bitsOfDouble 8 = .ok (.istore 6, 2) := by decide +kernel
theorem dX9_bitsOfDouble_10 : decode cX9_bitsOfDouble 10 = .ok (.iload 6, 2) := by decide +kernel
theorem dX9_bitsOfDouble_12 : decode cX9_bitsOfDouble 12 = .ok (.bipush 64, 2) := by decide +kernel
theorem dX9_bitsOfDouble_14 : decode cX9_bitsOfDouble 14 = .ok (.if_icmp .ge 29, 3) := by decide +kernel
theorem dX9_bitsOfDouble_17 : decode cX9_bitsOfDouble 17 = .ok (.dload_n 2, 1) := by decide +kernel
theorem dX9_bitsOfDouble_18 : decode cX9_bitsOfDouble 18 = .ok (.ldc2_w 442, 3) := by decide +kernel
theorem dX9_bitsOfDouble_21 : decode cX9_bitsOfDouble 21 = .ok (.dcmp .l, 1) := by decide +kernel
theorem dX9_bitsOfDouble_22 : decode cX9_bitsOfDouble 22 = .ok (.ifCond .lt 21, 3) := by decide +kernel
theorem dX9_bitsOfDouble_25 : decode cX9_bitsOfDouble 25 = .ok (.dload_n 2, 1) := by decide +kernel
theorem dX9_bitsOfDouble_26 : decode cX9_bitsOfDouble 26 = .ok (.ldc2_w 442, 3) := by decide +kernel
theorem dX9_bitsOfDouble_29 : decode cX9_bitsOfDouble 29 = .ok (.ddiv, 1) := by decide +kernel
theorem dX9_bitsOfDouble_30 : decode cX9_bitsOfDouble 30 = .ok (.dstore_n 2, 1) := by decide +kernel
theorem dX9_bitsOfDouble_31 : decode cX9_bitsOfDouble 31 = .ok (.lload 4, 2) := by decide +kernel
theorem dX9_bitsOfDouble_33 : decode cX9_bitsOfDouble 33 = .ok (.lconst 1, 1) := by decide +kernel
theorem dX9_bitsOfDouble_34 : decode cX9_bitsOfDouble 34 = .ok (.ladd, 1) := by decide +kernel
theorem dX9_bitsOfDouble_35 : decode cX9_bitsOfDouble 35 = .ok (.lstore 4, 2) := by decide +kernel
theorem dX9_bitsOfDouble_37 : decode cX9_bitsOfDouble 37 = .ok (.iinc 6 1, 3) := by decide +kernel
theorem dX9_bitsOfDouble_40 : decode cX9_bitsOfDouble 40 = .ok (.goto (-30), 3) := by decide +kernel
theorem dX9_bitsOfDouble_43 : decode cX9_bitsOfDouble 43 = .ok (.iconst 0, 1) := by decide +kernel
theorem dX9_bitsOfDouble_44 : decode cX9_bitsOfDouble 44 = .ok (.istore 6, 2) := by decide +kernel
theorem dX9_bitsOfDouble_46 : decode cX9_bitsOfDouble 46 = .ok (.iload 6, 2) := by decide +kernel
theorem dX9_bitsOfDouble_48 : decode cX9_bitsOfDouble 48 = .ok (.bipush 64, 2) := by decide +kernel
theorem dX9_bitsOfDouble_50 : decode cX9_bitsOfDouble 50 = .ok (.if_icmp .ge 27, 3) := by decide +kernel
theorem dX9_bitsOfDouble_53 : decode cX9_bitsOfDouble 53 = .ok (.dload_n 2, 1) := by decide +kernel
theorem dX9_bitsOfDouble_54 : decode cX9_bitsOfDouble 54 = .ok (.dconst 1, 1) := by decide +kernel
theorem dX9_bitsOfDouble_55 : decode cX9_bitsOfDouble 55 = .ok (.dcmp .g, 1) := by decide +kernel
theorem dX9_bitsOfDouble_56 : decode cX9_bitsOfDouble 56 = .ok (.ifCond .ge 21, 3) := by decide +kernel
theorem dX9_bitsOfDouble_59 : decode cX9_bitsOfDouble 59 = .ok (.dload_n 2, 1) := by decide +kernel
theorem dX9_bitsOfDouble_60 : decode cX9_bitsOfDouble 60 = .ok (.ldc2_w 442, 3) := by decide +kernel
theorem dX9_bitsOfDouble_63 : decode cX9_bitsOfDouble 63 = .ok (.dmul, 1) := by decide +kernel
theorem dX9_bitsOfDouble_64 : decode cX9_bitsOfDouble 64 = .ok (.dstore_n 2, 1) := by decide +kernel
theorem dX9_bitsOfDouble_65 : decode cX9_bitsOfDouble 65 = .ok (.lload 4, 2) := by decide +kernel
theorem dX9_bitsOfDouble_67 : decode cX9_bitsOfDouble 67 = .ok (.lconst 1, 1) := by decide +kernel
theorem dX9_bitsOfDouble_68 : decode cX9_bitsOfDouble 68 = .ok (.lsub, 1) := by decide +kernel
theorem dX9_bitsOfDouble_69 : decode cX9_bitsOfDouble 69 = .ok (.lstore 4, 2) := by decide +kernel
theorem dX9_bitsOfDouble_71 : decode cX9_bitsOfDouble 71 = .ok (.iinc 6 1, 3) := by decide +kernel
theorem dX9_bitsOfDouble_74 : decode cX9_bitsOfDouble 74 = .ok (.goto (-28), 3) := by decide +kernel
theorem dX9_bitsOfDouble_77 : decode cX9_bitsOfDouble 77 = .ok (.lload 4, 2) := by decide +kernel
theorem dX9_bitsOfDouble_79 : decode cX9_bitsOfDouble 79 = .ok (.bipush 52, 2) := by decide +kernel
theorem dX9_bitsOfDouble_81 : decode cX9_bitsOfDouble 81 = .ok (.lshl, 1) := by decide +kernel
theorem dX9_bitsOfDouble_82 : decode cX9_bitsOfDouble 82 = .ok (.dload_n 2, 1) := by decide +kernel
theorem dX9_bitsOfDouble_83 : decode cX9_bitsOfDouble 83 = .ok (.dconst 1, 1) := by decide +kernel
theorem dX9_bitsOfDouble_84 : decode cX9_bitsOfDouble 84 = .ok (.dsub, 1) := by decide +kernel
theorem dX9_bitsOfDouble_85 : decode cX9_bitsOfDouble 85 = .ok (.ldc2_w 444, 3) := by decide +kernel
theorem dX9_bitsOfDouble_88 : decode cX9_bitsOfDouble 88 = .ok (.dmul, 1) := by decide +kernel
theorem dX9_bitsOfDouble_89 : decode cX9_bitsOfDouble 89 = .ok (.d2l, 1) := by decide +kernel
theorem dX9_bitsOfDouble_90 : decode cX9_bitsOfDouble 90 = .ok (.lor, 1) := by decide +kernel
theorem dX9_bitsOfDouble_91 : decode cX9_bitsOfDouble 91 = .ok (.lreturn, 1) := by decide +kernel

