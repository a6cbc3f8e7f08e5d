theorem dX0_init_0 : decode cX0_init 0 = .ok (.aload_n 0, 1) := by decide +kernel
theorem dX0_init_1 : decode cX0_init 1 = .ok (.invokespecial 3, 3) := by decide +kernel
theorem dX0_init_4 : decode cX0_init 4 = .ok (.aload_n 0, 1) := by decide +kernel
theorem dX0_init_5 : decode cX0_init 5 = .ok (.new 9, 3) := by decide +kernel
theorem dX0_init_8 : decode cX0_init 8 = .ok (.dup, 1) := by decide +kernel
theorem dX0_init_9 : decode cX0_init 9 = .ok (.sipush 128, 3) := by decide +kernel
theorem dX0_init_12 : decode cX0_init 12 = .ok (.invokespecial 11, 3) := by decide +kernel
theorem dX0_init_15 : decode cX0_init 15 = .ok (.putfield 14, 3) := by decide +kernel
theorem dX0_init_18 : decode cX0_init 18 = .ok (.aload_n 0, 1) := by decide +kernel
theorem dX0_init_19 : decode cX0_init 19 = .ok (.sipush 192, 3) := by decide +kernel
theorem dX0_init_22 : decode cX0_init 22 = .ok (.newarray .int, 2) := by decide +kernel
theorem dX0_init_24 : decode cX0_init 24 = .ok (.putfield 20, 3) := by decide +kernel
theorem dX0_init_27 : decode cX0_init 27 = .ok (.return_, 1) := by decide +kernel
theorem dX0_empty_0 : decode cX0_empty 0 = .ok (.aload_n 0, 1) := by decide +kernel
theorem dX0_empty_1 : decode cX0_empty 1 = .ok (.getfield 14, 3) := by decide +kernel
theorem dX0_empty_4 : decode cX0_empty 4 = .ok (.iconst 0, 1) := by decide +kernel
theorem dX0_empty_5 : decode cX0_empty 5 = .ok (.putfield 24, 3) := by decide +kernel
theorem dX0_empty_8 : decode cX0_empty 8 = .ok (.aload_n 0, 1) := by decide +kernel
theorem dX0_empty_9 : decode cX0_empty 9 = .ok (.iconst 0, 1) := by decide +kernel
theorem dX0_empty_10 : decode cX0_empty 10 = .ok (.putfield 28, 3) := by decide +kernel
theorem dX0_empty_13 : decode cX0_empty 13 = .ok (.return_, 1) := by decide +kernel
theorem dX0_mirror_0 : decode cX0_mirror 0 = .ok (.aload_n 0, 1) := by decide +kernel
theorem dX0_mirror_1 : decode cX0_mirror 1 = .ok (.getfield 14, 3) := by decide +kernel
theorem dX0_mirror_4 : decode cX0_mirror 4 = .ok (.aload_n 1, 1) := by decide +kernel
theorem dX0_mirror_5 : decode cX0_mirror 5 = .ok (.getfield 14, 3) := by decide +kernel
theorem dX0_mirror_8 : decode cX0_mirror 8 = .ok (.invokevirtual 31, 3) := by decide +kernel
theorem dX0_mirror_11 : decode cX0_mirror 11 = .ok (.aload_n 1, 1) := by decide +kernel
theorem dX0_mirror_12 : decode cX0_mirror 12 = .ok (.getfield 20, 3) := by decide +kernel
theorem dX0_mirror_15 : decode cX0_mirror 15 = .ok (.iconst 0, 1) := by decide +kernel
theorem dX0_mirror_16 : decode cX0_mirror 16 = .ok (.aload_n 0, 1) := by decide +kernel
theorem dX0_mirror_17 : decode cX0_mirror 17 = .ok (.getfield 20, 3) := by decide +kernel
theorem dX0_mirror_20 : decode cX0_mirror 20 = .ok (.iconst 0, 1) := by decide +kernel
theorem dX0_mirror_21 : decode cX0_mirror 21 = .ok (.aload_n 1, 1) := by decide +kernel
theorem dX0_mirror_22 : decode cX0_mirror 22 = .ok (.getfield 28, 3) := by decide +kernel
theorem dX0_mirror_25 : decode cX0_mirror 25 = .ok (.bipush 8, 2) := by decide +kernel
theorem dX0_mirror_27 : decode cX0_mirror 27 = .ok (.imul, 1) := by decide +kernel
theorem dX0_mirror_28 : decode cX0_mirror 28 = .ok (.invokestatic 35, 3) := by decide +kernel
theorem dX0_mirror_31 : decode cX0_mirror 31 = .ok (.aload_n 0, 1) := by decide +kernel
theorem dX0_mirror_32 : decode cX0_mirror 32 = .ok (.aload_n 1, 1) := by decide +kernel
theorem dX0_mirror_33 : decode cX0_mirror 33 = .ok (.getfield 28, 3) := by decide +kernel
theorem dX0_mirror_36 : decode cX0_mirror 36 = .ok (.putfield 28, 3) := by decide +kernel
theorem dX0_mirror_39 : decode cX0_mirror 39 = .ok (.return_, 1) := by decide +kernel
theorem dX0_hasBlock_0 : decode cX0_hasBlock 0 = .ok (.iload_n 1, 1) := by decide +kernel
theorem dX0_hasBlock_1 : decode cX0_hasBlock 1 = .ok (.ifCond .lt 15, 3) := by decide +kernel
theorem dX0_hasBlock_4 : decode cX0_hasBlock 4 = .ok (.iload_n 1, 1) := by decide +kernel
theorem dX0_hasBlock_5 : decode cX0_hasBlock 5 = .ok (.aload_n 0, 1) := by decide +kernel
theorem dX0_hasBlock_6 : decode cX0_hasBlock 6 = .ok (.getfield 28, 3) := by decide +kernel
theorem dX0_hasBlock_9 : decode cX0_hasBlock 9 = .ok (.if_icmp .ge 7, 3) := by decide +kernel
theorem dX0_hasBlock_12 : decode cX0_hasBlock 12 = .ok (.iconst 1, 1) := by decide +kernel
theorem dX0_hasBlock_13 : decode cX0_hasBlock 13 = .ok (.goto 4, 3) := by decide +kernel
theorem dX0_hasBlock_16 : decode cX0_hasBlock 16 = .ok (.iconst 0, 1) := by decide +kernel
theorem dX0_hasBlock_17 : decode cX0_hasBlock 17 = .ok (.ireturn, 1) := by decide +kernel
theorem dX0_hasRoom_0 : decode cX0_hasRoom 0 = .ok (.aload_n 0, 1) := by decide +kernel
theorem dX0_hasRoom_1 : decode cX0_hasRoom 1 = .ok (.getfield 14, 3) := by decide +kernel
theorem dX0_hasRoom_4 : decode cX0_hasRoom 4 = .ok (.getfield 24, 3) := by decide +kernel
theorem dX0_hasRoom_7 : decode cX0_hasRoom 7 = .ok (.iload_n 1, 1) := by decide +kernel
theorem dX0_hasRoom_8 : decode cX0_hasRoom 8 = .ok (.iadd, 1) := by decide +kernel
theorem dX0_hasRoom_9 : decode cX0_hasRoom 9 = .ok (.sipush 128, 3) := by decide +kernel
theorem dX0_hasRoom_12 : decode cX0_hasRoom 12 = .ok (.if_icmp .gt 18, 3) := by decide +kernel
theorem dX0_hasRoom_15 : decode cX0_hasRoom 15 = .ok (.aload_n 0, 1) := by decide +kernel
theorem dX0_hasRoom_16 : decode cX0_hasRoom 16 = .ok (.getfield 28, 3) := by decide +kernel
theorem dX0_hasRoom_19 : decode cX0_hasRoom 19 = .ok (.iload_n 2, 1) := by decide +kernel
theorem dX0_hasRoom_20 : decode cX0_hasRoom 20 = .ok (.iadd, 1) := by decide +kernel
theorem dX0_hasRoom_21 : decode cX0_hasRoom 21 = .ok (.bipush 24, 2) := by decide +kernel
theorem dX0_hasRoom_23 : decode cX0_hasRoom 23 = .ok (.if_icmp .gt 7, 3) := by decide +kernel
theorem dX0_hasRoom_26 : decode cX0_hasRoom 26 = .ok (.iconst 1, 1) := by decide +kernel
theorem dX0_hasRoom_27 : decode cX0_hasRoom 27 = .ok (.goto 4, 3) := by decide +kernel
theorem dX0_hasRoom_30 : decode cX0_hasRoom 30 = .ok (.iconst 0, 1) := by decide +kernel
theorem dX0_hasRoom_31 : decode cX0_hasRoom 31 = .ok (.ireturn, 1) := by decide +kernel
theorem dX0_fact_0 : decode cX0_fact 0 = .ok (.aload_n 0, 1) := by decide +kernel
theorem dX0_fact_1 : decode cX0_fact 1 = .ok (.iload_n 1, 1) := by decide +kernel
theorem dX0_fact_2 : decode cX0_fact 2 = .ok (.invokevirtual 41, 3) := by decide +kernel
theorem dX0_fact_5 : decode cX0_fact 5 = .ok (.ifCond .eq 27, 3) := by decide +kernel
theorem dX0_fact_8 : decode cX0_fact 8 = .ok (.iload_n 2, 1) := by decide +kernel
theorem dX0_fact_9 : decode cX0_fact 9 = .ok (.ifCond .lt 23, 3) := by decide +kernel
theorem dX0_fact_12 : decode cX0_fact 12 = .ok (.iload_n 2, 1) := by decide +kernel
theorem dX0_fact_13 : decode cX0_fact 13 = .ok (.bipush 8, 2) := by decide +kernel
theorem dX0_fact_15 : decode cX0_fact 15 = .ok (.if_icmp .ge 17, 3) := by decide +kernel
theorem dX0_fact_18 : decode cX0_fact 18 = .ok (.aload_n 0, 1) := by decide +kernel
theorem dX0_fact_19 : decode cX0_fact 19 = .ok (.getfield 20, 3) := by decide +kernel
theorem dX0_fact_22 : decode cX0_fact 22 = .ok (.iload_n 1, 1) := by decide +kernel
theorem dX0_fact_23 : decode cX0_fact 23 = .ok (.bipush 8, 2) := by decide +kernel
theorem dX0_fact_25 : decode cX0_fact 25 = .ok (.imul, 1) := by decide +kernel
theorem dX0_fact_26 : decode cX0_fact 26 = .ok (.iload_n 2, 1) := by decide +kernel
theorem dX0_fact_27 : decode cX0_fact 27 = .ok (.iadd, 1) := by decide +kernel
theorem dX0_fact_28 : decode cX0_fact 28 = .ok (.iaload, 1) := by decide +kernel
theorem dX0_fact_29 : decode cX0_fact 29 = .ok (.goto 4, 3) := by decide +kernel
theorem dX0_fact_32 : decode cX0_fact 32 = .ok (.iconst 0, 1) := by decide +kernel
theorem dX0_fact_33 : decode cX0_fact 33 = .ok (.ireturn, 1) := by decide +kernel
theorem dX0_keepFact_0 : decode cX0_keepFact 0 = .ok (.aload_n 0, 1) := by decide +kernel
theorem dX0_keepFact_1 : decode cX0_keepFact 1 = .ok (.iload_n 1, 1) := by decide +kernel
theorem dX0_keepFact_2 : decode cX0_keepFact 2 = .ok (.invokevirtual 41, 3) := by decide +kernel
theorem dX0_keepFact_5 : decode cX0_keepFact 5 = .ok (.ifCond .eq 25, 3) := by decide +kernel
theorem dX0_keepFact_8 : decode cX0_keepFact 8 = .ok (.iload_n 2, 1) := by decide +kernel
theorem dX0_keepFact_9 : decode cX0_keepFact 9 = .ok (.ifCond .lt 21, 3) := by decide +kernel
theorem dX0_keepFact_12 : decode cX0_keepFact 12 = .ok (.iload_n 2, 1) := by decide +kernel
theorem dX0_keepFact_13 : decode cX0_keepFact 13 = .ok (.bipush 8, 2) := by decide +kernel
theorem dX0_keepFact_15 : decode cX0_keepFact 15 = .ok (.if_icmp .ge 15, 3) := by decide +kernel
theorem dX0_keepFact_18 : decode cX0_keepFact 18 = .ok (.aload_n 0, 1) := by decide +kernel
theorem dX0_keepFact_19 : decode cX0_keepFact 19 = .ok (.getfield 20, 3) := by decide +kernel
theorem dX0_keepFact_22 : decode cX0_keepFact 22 = .ok (.iload_n 1, 1) := by decide +kernel
theorem dX0_keepFact_23 : decode cX0_keepFact 23 = .ok (.bipush 8, 2) := by decide +kernel
theorem dX0_keepFact_25 : decode cX0_keepFact 25 = .ok (.imul, 1) := by decide +kernel
theorem dX0_keepFact_26 : decode cX0_keepFact 26 = .ok (.iload_n 2, 1) := by decide +kernel
theorem dX0_keepFact_27 : decode cX0_keepFact 27 = .ok (.iadd, 1) := by decide +kernel
theorem dX0_keepFact_28 : decode cX0_keepFact 28 = .ok (.iload_n 3, 1) := by decide +kernel
theorem dX0_keepFact_29 : decode cX0_keepFact 29 = .ok (.iastore, 1) := by decide +kernel
theorem dX0_keepFact_30 : decode cX0_keepFact 30 = .ok (.return_, 1) := by decide +kernel
theorem dX0_all_0 : decode cX0_all 0 = .ok (.iconst 0, 1) := by decide +kernel
theorem dX0_all_1 : decode cX0_all 1 = .ok (.istore_n 2, 1) := by decide +kernel
theorem dX0_all_2 : decode cX0_all 2 = .ok (.iconst 0, 1) := by decide +kernel
theorem dX0_all_3 : decode cX0_all 3 = .ok (.istore_n 3, 1) := by decide +kernel
theorem dX0_all_4 : decode cX0_all 4 = .ok (.iload_n 3, 1) := by decide +kernel
theorem dX0_all_5 : decode cX0_all 5 = .ok (.aload_n 0, 1) := by decide +kernel
theorem dX0_all_6 : decode cX0_all 6 = .ok (.getfield 28, 3) := by decide +kernel
theorem dX0_all_9 : decode cX0_all 9 = .ok (.if_icmp .ge 18, 3) := by decide +kernel
theorem dX0_all_12 : decode cX0_all 12 = .ok (.iload_n 2, 1) := by decide +kernel
theorem dX0_all_13 : decode cX0_all 13 = .ok (.aload_n 0, 1) := by decide +kernel
theorem dX0_all_14 : decode cX0_all 14 = .ok (.iload_n 3, 1) := by decide +kernel
theorem dX0_all_15 : decode cX0_all 15 = .ok (.iload_n 1, 1) := by decide +kernel
theorem dX0_all_16 : decode cX0_all 16 = .ok (.invokevirtual 45, 3) := by decide +kernel
theorem dX0_all_19 : decode cX0_all 19 = .ok (.iadd, 1) := by decide +kernel
theorem dX0_all_20 : decode cX0_all 20 = .ok (.istore_n 2, 1) := by decide +kernel
theorem dX0_all_21 : decode cX0_all 21 = .ok (.iinc 3 1, 3) := by decide +kernel
theorem dX0_all_24 : decode cX0_all 24 = .ok (.goto (-20), 3) := by decide +kernel
theorem dX0_all_27 : decode cX0_all 27 = .ok (.iload_n 2, 1) := by decide +kernel
theorem dX0_all_28 : decode cX0_all 28 = .ok (.ireturn, 1) := by decide +kernel
theorem dX0_wordsOf_0 : decode cX0_wordsOf 0 = .ok (.aload_n 0, 1) := by decide +kernel
theorem dX0_wordsOf_1 : decode cX0_wordsOf 1 = .ok (.iload_n 1, 1) := by decide +kernel
theorem dX0_wordsOf_2 : decode cX0_wordsOf 2 = .ok (.iconst 5, 1) := by decide +kernel
theorem dX0_wordsOf_3 : decode cX0_wordsOf 3 = .ok (.invokevirtual 45, 3) := by decide +kernel
theorem dX0_wordsOf_6 : decode cX0_wordsOf 6 = .ok (.invokestatic 49, 3) := by decide +kernel
theorem dX0_wordsOf_9 : decode cX0_wordsOf 9 = .ok (.ireturn, 1) := by decide +kernel
theorem dX0_allWords_0 : decode cX0_allWords 0 = .ok (.iconst 0, 1) := by decide +kernel
theorem dX0_allWords_1 : decode cX0_allWords 1 = .ok (.istore_n 1, 1) := by decide +kernel
theorem dX0_allWords_2 : decode cX0_allWords 2 = .ok (.iconst 0, 1) := by decide +kernel
theorem dX0_allWords_3 : decode cX0_allWords 3 = .ok (.istore_n 2, 1) := by decide +kernel
theorem dX0_allWords_4 : decode cX0_allWords 4 = .ok (.iload_n 2, 1) := by decide +kernel
theorem dX0_allWords_5 : decode cX0_allWords 5 = .ok (.aload_n 0, 1) := by decide +kernel
theorem dX0_allWords_6 : decode cX0_allWords 6 = .ok (.getfield 28, 3) := by decide +kernel
theorem dX0_allWords_9 : decode cX0_allWords 9 = .ok (.if_icmp .ge 17, 3) := by decide +kernel
theorem dX0_allWords_12 : decode cX0_allWords 12 = .ok (.iload_n 1, 1) := by decide +kernel
theorem dX0_allWords_13 : decode cX0_allWords 13 = .ok (.aload_n 0, 1) := by decide +kernel
theorem dX0_allWords_14 : decode cX0_allWords 14 = .ok (.iload_n 2, 1) := by decide +kernel
theorem dX0_allWords_15 : decode cX0_allWords 15 = .ok (.invokevirtual 53, 3) := by decide +kernel
theorem dX0_allWords_18 : decode cX0_allWords 18 = .ok (.iadd, 1) := by decide +kernel
theorem dX0_allWords_19 : decode cX0_allWords 19 = .ok (.istore_n 1, 1) := by decide +kernel
theorem dX0_allWords_20 : decode cX0_allWords 20 = .ok (.iinc 2 1, 3) := by decide +kernel
theorem dX0_allWords_23 : decode cX0_allWords 23 = .ok (.goto (-19), 3) := by decide +kernel
theorem dX0_allWords_26 : decode cX0_allWords 26 = .ok (.iload_n 1, 1) := by decide +kernel
theorem dX0_allWords_27 : decode cX0_allWords 27 = .ok (.ireturn, 1) := by decide +kernel
theorem dX0_firstOf_0 : decode cX0_firstOf 0 = .ok (.iconst 0, 1) := by decide +kernel
theorem dX0_firstOf_1 : decode cX0_firstOf 1 = .ok (.istore_n 2, 1) := by decide +kernel
theorem dX0_firstOf_2 : decode cX0_firstOf 2 = .ok (.iconst 0, 1) := by decide +kernel
theorem dX0_firstOf_3 : decode cX0_firstOf 3 = .ok (.istore_n 3, 1) := by decide +kernel
theorem dX0_firstOf_4 : decode cX0_firstOf 4 = .ok (.iload_n 3, 1) := by decide +kernel
theorem dX0_firstOf_5 : decode cX0_firstOf 5 = .ok (.iload_n 1, 1) := by decide +kernel
theorem dX0_firstOf_6 : decode cX0_firstOf 6 = .ok (.if_icmp .ge 18, 3) := by decide +kernel
theorem dX0_firstOf_9 : decode cX0_firstOf 9 = .ok (.iload_n 2, 1) := by decide +kernel
theorem dX0_firstOf_10 : decode cX0_firstOf 10 = .ok (.aload_n 0, 1) := by decide +kernel
theorem dX0_firstOf_11 : decode cX0_firstOf 11 = .ok (.iload_n 3, 1) := by decide +kernel
theorem dX0_firstOf_12 : decode cX0_firstOf 12 = .ok (.iconst 0, 1) := by decide +kernel
theorem dX0_firstOf_13 : decode cX0_firstOf 13 = .ok (.invokevirtual 45, 3) := by decide +kernel
theorem dX0_firstOf_16 : decode cX0_firstOf 16 = .ok (.iadd, 1) := by decide +kernel
theorem dX0_firstOf_17 : decode cX0_firstOf 17 = .ok (.istore_n 2, 1) := by decide +kernel
theorem dX0_firstOf_18 : decode cX0_firstOf 18 = .ok (.iinc 3 1, 3) := by decide +kernel
theorem dX0_firstOf_21 : decode cX0_firstOf 21 = .ok (.goto (-17), 3) := by decide +kernel
theorem dX0_firstOf_24 : decode cX0_firstOf 24 = .ok (.iload_n 2, 1) := by decide +kernel
theorem dX0_firstOf_25 : decode cX0_firstOf 25 = .ok (.ireturn, 1) := by decide +kernel
theorem dX0_holderOf_0 : decode cX0_holderOf 0 = .ok (.aload_n 0, 1) := by decide +kernel
theorem dX0_holderOf_1 : decode cX0_holderOf 1 = .ok (.getfield 14, 3) := by decide +kernel
theorem dX0_holderOf_4 : decode cX0_holderOf 4 = .ok (.iload_n 1, 1) := by decide +kernel
theorem dX0_holderOf_5 : decode cX0_holderOf 5 = .ok (.invokevirtual 56, 3) := by decide +kernel
theorem dX0_holderOf_8 : decode cX0_holderOf 8 = .ok (.ifCond .ne 5, 3) := by decide +kernel
theorem dX0_holderOf_11 : decode cX0_holderOf 11 = .ok (.iconst (-1), 1) := by decide +kernel
theorem dX0_holderOf_12 : decode cX0_holderOf 12 = .ok (.ireturn, 1) := by decide +kernel
theorem dX0_holderOf_13 : decode cX0_holderOf 13 = .ok (.iconst 0, 1) := by decide +kernel
theorem dX0_holderOf_14 : decode cX0_holderOf 14 = .ok (.istore_n 2, 1) := by decide +kernel
theorem dX0_holderOf_15 : decode cX0_holderOf 15 = .ok (.iconst 0, 1) := by decide +kernel
theorem dX0_holderOf_16 : decode cX0_holderOf 16 = .ok (.istore_n 3, 1) := by decide +kernel
theorem dX0_holderOf_17 : decode cX0_holderOf 17 = .ok (.iload_n 3, 1) := by decide +kernel
theorem dX0_holderOf_18 : decode cX0_holderOf 18 = .ok (.aload_n 0, 1) := by decide +kernel
theorem dX0_holderOf_19 : decode cX0_holderOf 19 = .ok (.getfield 28, 3) := by decide +kernel
theorem dX0_holderOf_22 : decode cX0_holderOf 22 = .ok (.if_icmp .ge 25, 3) := by decide +kernel
theorem dX0_holderOf_25 : decode cX0_holderOf 25 = .ok (.iload_n 2, 1) := by decide +kernel
theorem dX0_holderOf_26 : decode cX0_holderOf 26 = .ok (.aload_n 0, 1) := by decide +kernel
theorem dX0_holderOf_27 : decode cX0_holderOf 27 = .ok (.iload_n 3, 1) := by decide +kernel
theorem dX0_holderOf_28 : decode cX0_holderOf 28 = .ok (.iconst 0, 1) := by decide +kernel
theorem dX0_holderOf_29 : decode cX0_holderOf 29 = .ok (.invokevirtual 45, 3) := by decide +kernel
theorem dX0_holderOf_32 : decode cX0_holderOf 32 = .ok (.iadd, 1) := by decide +kernel
theorem dX0_holderOf_33 : decode cX0_holderOf 33 = .ok (.istore_n 2, 1) := by decide +kernel
theorem dX0_holderOf_34 : decode cX0_holderOf 34 = .ok (.iload_n 1, 1) := by decide +kernel
theorem dX0_holderOf_35 : decode cX0_holderOf 35 = .ok (.iload_n 2, 1) := by decide +kernel
theorem dX0_holderOf_36 : decode cX0_holderOf 36 = .ok (.if_icmp .ge 5, 3) := by decide +kernel
theorem dX0_holderOf_39 : decode cX0_holderOf 39 = .ok (.iload_n 3, 1) := by decide +kernel
theorem dX0_holderOf_40 : decode cX0_holderOf 40 = .ok (.ireturn, 1) := by decide +kernel
theorem dX0_holderOf_41 : decode cX0_holderOf 41 = .ok (.iinc 3 1, 3) := by decide +kernel
theorem dX0_holderOf_44 : decode cX0_holderOf 44 = .ok (.goto (-27), 3) := by decide +kernel
theorem dX0_holderOf_47 : decode cX0_holderOf 47 = .ok (.iconst (-1), 1) := by decide +kernel
theorem dX0_holderOf_48 : decode cX0_holderOf 48 = .ok (.ireturn, 1) := by decide +kernel
theorem dX0_valuesAhead_0 : decode cX0_valuesAhead 0 = .ok (.aload_n 0, 1) := by decide +kernel
theorem dX0_valuesAhead_1 : decode cX0_valuesAhead 1 = .ok (.iload_n 1, 1) := by decide +kernel
theorem dX0_valuesAhead_2 : decode cX0_valuesAhead 2 = .ok (.invokevirtual 59, 3) := by decide +kernel
theorem dX0_valuesAhead_5 : decode cX0_valuesAhead 5 = .ok (.istore_n 3, 1) := by decide +kernel
theorem dX0_valuesAhead_6 : decode cX0_valuesAhead 6 = .ok (.iload_n 2, 1) := by decide +kernel
theorem dX0_valuesAhead_7 : decode cX0_valuesAhead 7 = .ok (.iload_n 3, 1) := by decide +kernel
theorem dX0_valuesAhead_8 : decode cX0_valuesAhead 8 = .ok (.isub, 1) := by decide +kernel
theorem dX0_valuesAhead_9 : decode cX0_valuesAhead 9 = .ok (.aload_n 0, 1) := by decide +kernel
theorem dX0_valuesAhead_10 : decode cX0_valuesAhead 10 = .ok (.getfield 14, 3) := by decide +kernel
theorem dX0_valuesAhead_13 : decode cX0_valuesAhead 13 = .ok (.iload_n 3, 1) := by decide +kernel
theorem dX0_valuesAhead_14 : decode cX0_valuesAhead 14 = .ok (.iload_n 2, 1) := by decide +kernel
theorem dX0_valuesAhead_15 : decode cX0_valuesAhead 15 = .ok (.invokevirtual 62, 3) := by decide +kernel
theorem dX0_valuesAhead_18 : decode cX0_valuesAhead 18 = .ok (.isub, 1) := by decide +kernel
theorem dX0_valuesAhead_19 : decode cX0_valuesAhead 19 = .ok (.ireturn, 1) := by decide +kernel
theorem dX0_reachOf_0 : decode cX0_reachOf 0 = .ok (.aload_n 0, 1) := by decide +kernel
theorem dX0_reachOf_1 : decode cX0_reachOf 1 = .ok (.iload_n 1, 1) := by decide +kernel
theorem dX0_reachOf_2 : decode cX0_reachOf 2 = .ok (.bipush 6, 2) := by decide +kernel
theorem dX0_reachOf_4 : decode cX0_reachOf 4 = .ok (.invokevirtual 45, 3) := by decide +kernel
theorem dX0_reachOf_7 : decode cX0_reachOf 7 = .ok (.i2l, 1) := by decide +kernel
theorem dX0_reachOf_8 : decode cX0_reachOf 8 = .ok (.lconst 1, 1) := by decide +kernel
theorem dX0_reachOf_9 : decode cX0_reachOf 9 = .ok (.aload_n 0, 1) := by decide +kernel
theorem dX0_reachOf_10 : decode cX0_reachOf 10 = .ok (.iload_n 1, 1) := by decide +kernel
theorem dX0_reachOf_11 : decode cX0_reachOf 11 = .ok (.iconst 3, 1) := by decide +kernel
theorem dX0_reachOf_12 : decode cX0_reachOf 12 = .ok (.invokevirtual 45, 3) := by decide +kernel
theorem dX0_reachOf_15 : decode cX0_reachOf 15 = .ok (.lshl, 1) := by decide +kernel
theorem dX0_reachOf_16 : decode cX0_reachOf 16 = .ok (.ladd, 1) := by decide +kernel
theorem dX0_reachOf_17 : decode cX0_reachOf 17 = .ok (.lconst 1, 1) := by decide +kernel
theorem dX0_reachOf_18 : decode cX0_reachOf 18 = .ok (.lsub, 1) := by decide +kernel
theorem dX0_reachOf_19 : decode cX0_reachOf 19 = .ok (.lreturn, 1) := by decide +kernel
theorem dX0_measureAsTold_0 : decode cX0_measureAsTold 0 = .ok (.aload_n 1, 1) := by decide +kernel
theorem dX0_measureAsTold_1 : decode cX0_measureAsTold 1 = .ok (.aload_n 0, 1) := by decide +kernel
theorem dX0_measureAsTold_2 : decode cX0_measureAsTold 2 = .ok (.getfield 14, 3) := by decide +kernel
theorem dX0_measureAsTold_5 : decode cX0_measureAsTold 5 = .ok (.aload_n 0, 1) := by decide +kernel
theorem dX0_measureAsTold_6 : decode cX0_measureAsTold 6 = .ok (.iload_n 2, 1) := by decide +kernel
theorem dX0_measureAsTold_7 : decode cX0_measureAsTold 7 = .ok (.invokevirtual 59, 3) := by decide +kernel
theorem dX0_measureAsTold_10 : decode cX0_measureAsTold 10 = .ok (.aload_n 0, 1) := by decide +kernel
theorem dX0_measureAsTold_11 : decode cX0_measureAsTold 11 = .ok (.iload_n 2, 1) := by decide +kernel
theorem dX0_measureAsTold_12 : decode cX0_measureAsTold 12 = .ok (.iconst 0, 1) := by decide +kernel
theorem dX0_measureAsTold_13 : decode cX0_measureAsTold 13 = .ok (.invokevirtual 45, 3) := by decide +kernel
theorem dX0_measureAsTold_16 : decode cX0_measureAsTold 16 = .ok (.invokevirtual 65, 3) := by decide +kernel
theorem dX0_measureAsTold_19 : decode cX0_measureAsTold 19 = .ok (.aload_n 1, 1) := by decide +kernel
theorem dX0_measureAsTold_20 : decode cX0_measureAsTold 20 = .ok (.aload_n 0, 1) := by decide +kernel
theorem dX0_measureAsTold_21 : decode cX0_measureAsTold 21 = .ok (.iload_n 2, 1) := by decide +kernel
theorem dX0_measureAsTold_22 : decode cX0_measureAsTold 22 = .ok (.iconst 2, 1) := by decide +kernel
theorem dX0_measureAsTold_23 : decode cX0_measureAsTold 23 = .ok (.invokevirtual 45, 3) := by decide +kernel
theorem dX0_measureAsTold_26 : decode cX0_measureAsTold 26 = .ok (.aload_n 0, 1) := by decide +kernel
theorem dX0_measureAsTold_27 : decode cX0_measureAsTold 27 = .ok (.iload_n 2, 1) := by decide +kernel
theorem dX0_measureAsTold_28 : decode cX0_measureAsTold 28 = .ok (.bipush 7, 2) := by decide +kernel
theorem dX0_measureAsTold_30 : decode cX0_measureAsTold 30 = .ok (.invokevirtual 45, 3) := by decide +kernel
theorem dX0_measureAsTold_33 : decode cX0_measureAsTold 33 = .ok (.invokevirtual 71, 3) := by decide +kernel
theorem dX0_measureAsTold_36 : decode cX0_measureAsTold 36 = .ok (.return_, 1) := by decide +kernel
theorem dX0_retell_0 : decode cX0_retell 0 = .ok (.aload_n 1, 1) := by decide +kernel
theorem dX0_retell_1 : decode cX0_retell 1 = .ok (.aload_n 0, 1) := by decide +kernel
theorem dX0_retell_2 : decode cX0_retell 2 = .ok (.getfield 14, 3) := by decide +kernel
theorem dX0_retell_5 : decode cX0_retell 5 = .ok (.aload_n 0, 1) := by decide +kernel
theorem dX0_retell_6 : decode cX0_retell 6 = .ok (.iload_n 2, 1) := by decide +kernel
theorem dX0_retell_7 : decode cX0_retell 7 = .ok (.invokevirtual 59, 3) := by decide +kernel
theorem dX0_retell_10 : decode cX0_retell 10 = .ok (.aload_n 0, 1) := by decide +kernel
theorem dX0_retell_11 : decode cX0_retell 11 = .ok (.iload_n 2, 1) := by decide +kernel
theorem dX0_retell_12 : decode cX0_retell 12 = .ok (.iconst 0, 1) := by decide +kernel
theorem dX0_retell_13 : decode cX0_retell 13 = .ok (.invokevirtual 45, 3) := by decide +kernel
theorem dX0_retell_16 : decode cX0_retell 16 = .ok (.invokevirtual 65, 3) := by decide +kernel
theorem dX0_retell_19 : decode cX0_retell 19 = .ok (.aload_n 1, 1) := by decide +kernel
theorem dX0_retell_20 : decode cX0_retell 20 = .ok (.invokevirtual 75, 3) := by decide +kernel
theorem dX0_retell_23 : decode cX0_retell 23 = .ok (.aload_n 0, 1) := by decide +kernel
theorem dX0_retell_24 : decode cX0_retell 24 = .ok (.iload_n 2, 1) := by decide +kernel
theorem dX0_retell_25 : decode cX0_retell 25 = .ok (.iconst 1, 1) := by decide +kernel
theorem dX0_retell_26 : decode cX0_retell 26 = .ok (.aload_n 1, 1) := by decide +kernel
theorem dX0_retell_27 : decode cX0_retell 27 = .ok (.getfield 78, 3) := by decide +kernel
theorem dX0_retell_30 : decode cX0_retell 30 = .ok (.invokevirtual 81, 3) := by decide +kernel
theorem dX0_retell_33 : decode cX0_retell 33 = .ok (.aload_n 0, 1) := by decide +kernel
theorem dX0_retell_34 : decode cX0_retell 34 = .ok (.iload_n 2, 1) := by decide +kernel
theorem dX0_retell_35 : decode cX0_retell 35 = .ok (.iconst 2, 1) := by decide +kernel
theorem dX0_retell_36 : decode cX0_retell 36 = .ok (.aload_n 1, 1) := by decide +kernel
theorem dX0_retell_37 : decode cX0_retell 37 = .ok (.getfield 85, 3) := by decide +kernel
theorem dX0_retell_40 : decode cX0_retell 40 = .ok (.invokevirtual 81, 3) := by decide +kernel
theorem dX0_retell_43 : decode cX0_retell 43 = .ok (.aload_n 0, 1) := by decide +kernel
theorem dX0_retell_44 : decode cX0_retell 44 = .ok (.iload_n 2, 1) := by decide +kernel
theorem dX0_retell_45 : decode cX0_retell 45 = .ok (.iconst 3, 1) := by decide +kernel
theorem dX0_retell_46 : decode cX0_retell 46 = .ok (.aload_n 1, 1) := by decide +kernel
theorem dX0_retell_47 : decode cX0_retell 47 = .ok (.getfield 88, 3) := by decide +kernel
theorem dX0_retell_50 : decode cX0_retell 50 = .ok (.invokevirtual 81, 3) := by decide +kernel
theorem dX0_retell_53 : decode cX0_retell 53 = .ok (.aload_n 0, 1) := by decide +kernel
theorem dX0_retell_54 : decode cX0_retell 54 = .ok (.iload_n 2, 1) := by decide +kernel
theorem dX0_retell_55 : decode cX0_retell 55 = .ok (.iconst 4, 1) := by decide +kernel
theorem dX0_retell_56 : decode cX0_retell 56 = .ok (.aload_n 1, 1) := by decide +kernel
theorem dX0_retell_57 : decode cX0_retell 57 = .ok (.getfield 91, 3) := by decide +kernel
theorem dX0_retell_60 : decode cX0_retell 60 = .ok (.invokevirtual 81, 3) := by decide +kernel
theorem dX0_retell_63 : decode cX0_retell 63 = .ok (.aload_n 0, 1) := by decide +kernel
theorem dX0_retell_64 : decode cX0_retell 64 = .ok (.iload_n 2, 1) := by decide +kernel
theorem dX0_retell_65 : decode cX0_retell 65 = .ok (.iconst 5, 1) := by decide +kernel
theorem dX0_retell_66 : decode cX0_retell 66 = .ok (.aload_n 1, 1) := by decide +kernel
theorem dX0_retell_67 : decode cX0_retell 67 = .ok (.getfield 94, 3) := by decide +kernel
theorem dX0_retell_70 : decode cX0_retell 70 = .ok (.invokevirtual 81, 3) := by decide +kernel
theorem dX0_retell_73 : decode cX0_retell 73 = .ok (.aload_n 0, 1) := by decide +kernel
theorem dX0_retell_74 : decode cX0_retell 74 = .ok (.iload_n 2, 1) := by decide +kernel
theorem dX0_retell_75 : decode cX0_retell 75 = .ok (.bipush 6, 2) := by decide +kernel
theorem dX0_retell_77 : decode cX0_retell 77 = .ok (.aload_n 1, 1) := by decide +kernel
theorem dX0_retell_78 : decode cX0_retell 78 = .ok (.getfield 97, 3) := by decide +kernel
theorem dX0_retell_81 : decode cX0_retell 81 = .ok (.invokevirtual 81, 3) := by decide +kernel
theorem dX0_retell_84 : decode cX0_retell 84 = .ok (.aload_n 0, 1) := by decide +kernel
theorem dX0_retell_85 : decode cX0_retell 85 = .ok (.iload_n 2, 1) := by decide +kernel
theorem dX0_retell_86 : decode cX0_retell 86 = .ok (.bipush 7, 2) := by decide +kernel
theorem dX0_retell_88 : decode cX0_retell 88 = .ok (.aload_n 1, 1) := by decide +kernel
theorem dX0_retell_89 : decode cX0_retell 89 = .ok (.getfield 100, 3) := by decide +kernel
theorem dX0_retell_92 : decode cX0_retell 92 = .ok (.invokevirtual 81, 3) := by decide +kernel
theorem dX0_retell_95 : decode cX0_retell 95 = .ok (.return_, 1) := by decide +kernel
theorem dX0_retellAll_0 : decode cX0_retellAll 0 = .ok (.iconst 0, 1) := by decide +kernel
theorem dX0_retellAll_1 : decode cX0_retellAll 1 = .ok (.istore_n 2, 1) := by decide +kernel
theorem dX0_retellAll_2 : decode cX0_retellAll 2 = .ok (.iload_n 2, 1) := by decide +kernel
theorem dX0_retellAll_3 : decode cX0_retellAll 3 = .ok (.aload_n 0, 1) := by decide +kernel
theorem dX0_retellAll_4 : decode cX0_retellAll 4 = .ok (.getfield 28, 3) := by decide +kernel
theorem dX0_retellAll_7 : decode cX0_retellAll 7 = .ok (.if_icmp .ge 15, 3) := by decide +kernel
theorem dX0_retellAll_10 : decode cX0_retellAll 10 = .ok (.aload_n 0, 1) := by decide +kernel
theorem dX0_retellAll_11 : decode cX0_retellAll 11 = .ok (.aload_n 1, 1) := by decide +kernel
theorem dX0_retellAll_12 : decode cX0_retellAll 12 = .ok (.iload_n 2, 1) := by decide +kernel
theorem dX0_retellAll_13 : decode cX0_retellAll 13 = .ok (.invokevirtual 103, 3) := by decide +kernel
theorem dX0_retellAll_16 : decode cX0_retellAll 16 = .ok (.iinc 2 1, 3) := by decide +kernel
theorem dX0_retellAll_19 : decode cX0_retellAll 19 = .ok (.goto (-17), 3) := by decide +kernel
theorem dX0_retellAll_22 : decode cX0_retellAll 22 = .ok (.return_, 1) := by decide +kernel
theorem dX0_seal_0 : decode cX0_seal 0 = .ok (.aload_n 0, 1) := by decide +kernel
theorem dX0_seal_1 : decode cX0_seal 1 = .ok (.getfield 28, 3) := by decide +kernel
theorem dX0_seal_4 : decode cX0_seal 4 = .ok (.istore_n 2, 1) := by decide +kernel
theorem dX0_seal_5 : decode cX0_seal 5 = .ok (.aload_n 0, 1) := by decide +kernel
theorem dX0_seal_6 : decode cX0_seal 6 = .ok (.iconst 0, 1) := by decide +kernel
theorem dX0_seal_7 : decode cX0_seal 7 = .ok (.invokevirtual 107, 3) := by decide +kernel
theorem dX0_seal_10 : decode cX0_seal 10 = .ok (.istore_n 3, 1) := by decide +kernel
theorem dX0_seal_11 : decode cX0_seal 11 = .ok (.iload_n 3, 1) := by decide +kernel
theorem dX0_seal_12 : decode cX0_seal 12 = .ok (.aload_n 0, 1) := by decide +kernel
theorem dX0_seal_13 : decode cX0_seal 13 = .ok (.getfield 14, 3) := by decide +kernel
theorem dX0_seal_16 : decode cX0_seal 16 = .ok (.getfield 24, 3) := by decide +kernel
theorem dX0_seal_19 : decode cX0_seal 19 = .ok (.if_icmp .ge 28, 3) := by decide +kernel
theorem dX0_seal_22 : decode cX0_seal 22 = .ok (.aload_n 0, 1) := by decide +kernel
theorem dX0_seal_23 : decode cX0_seal 23 = .ok (.aload_n 1, 1) := by decide +kernel
theorem dX0_seal_24 : decode cX0_seal 24 = .ok (.bipush 16, 2) := by decide +kernel
theorem dX0_seal_26 : decode cX0_seal 26 = .ok (.aload_n 0, 1) := by decide +kernel
theorem dX0_seal_27 : decode cX0_seal 27 = .ok (.getfield 14, 3) := by decide +kernel
theorem dX0_seal_30 : decode cX0_seal 30 = .ok (.getfield 24, 3) := by decide +kernel
theorem dX0_seal_33 : decode cX0_seal 33 = .ok (.iload_n 3, 1) := by decide +kernel
theorem dX0_seal_34 : decode cX0_seal 34 = .ok (.isub, 1) := by decide +kernel
theorem dX0_seal_35 : decode cX0_seal 35 = .ok (.invokestatic 110, 3) := by decide +kernel
theorem dX0_seal_38 : decode cX0_seal 38 = .ok (.invokevirtual 115, 3) := by decide +kernel
theorem dX0_seal_41 : decode cX0_seal 41 = .ok (.iinc 3 16, 3) := by decide +kernel
theorem dX0_seal_44 : decode cX0_seal 44 = .ok (.goto (-33), 3) := by decide +kernel
theorem dX0_seal_47 : decode cX0_seal 47 = .ok (.aload_n 0, 1) := by decide +kernel
theorem dX0_seal_48 : decode cX0_seal 48 = .ok (.getfield 28, 3) := by decide +kernel
theorem dX0_seal_51 : decode cX0_seal 51 = .ok (.iload_n 2, 1) := by decide +kernel
theorem dX0_seal_52 : decode cX0_seal 52 = .ok (.isub, 1) := by decide +kernel
theorem dX0_seal_53 : decode cX0_seal 53 = .ok (.ireturn, 1) := by decide +kernel
theorem dX0_addBlock_0 : decode cX0_addBlock 0 = .ok (.aload_n 0, 1) := by decide +kernel
theorem dX0_addBlock_1 : decode cX0_addBlock 1 = .ok (.getfield 28, 3) := by decide +kernel
theorem dX0_addBlock_4 : decode cX0_addBlock 4 = .ok (.bipush 24, 2) := by decide +kernel
theorem dX0_addBlock_6 : decode cX0_addBlock 6 = .ok (.if_icmp .ge 36, 3) := by decide +kernel
theorem dX0_addBlock_9 : decode cX0_addBlock 9 = .ok (.aload_n 0, 1) := by decide +kernel
theorem dX0_addBlock_10 : decode cX0_addBlock 10 = .ok (.dup, 1) := by decide +kernel
theorem dX0_addBlock_11 : decode cX0_addBlock 11 = .ok (.getfield 28, 3) := by decide +kernel
theorem dX0_addBlock_14 : decode cX0_addBlock 14 = .ok (.iconst 1, 1) := by decide +kernel
theorem dX0_addBlock_15 : decode cX0_addBlock 15 = .ok (.iadd, 1) := by decide +kernel
theorem dX0_addBlock_16 : decode cX0_addBlock 16 = .ok (.putfield 28, 3) := by decide +kernel
theorem dX0_addBlock_19 : decode cX0_addBlock 19 = .ok (.aload_n 0, 1) := by decide +kernel
theorem dX0_addBlock_20 : decode cX0_addBlock 20 = .ok (.aload_n 0, 1) := by decide +kernel
theorem dX0_addBlock_21 : decode cX0_addBlock 21 = .ok (.getfield 28, 3) := by decide +kernel
theorem dX0_addBlock_24 : decode cX0_addBlock 24 = .ok (.iconst 1, 1) := by decide +kernel
theorem dX0_addBlock_25 : decode cX0_addBlock 25 = .ok (.isub, 1) := by decide +kernel
theorem dX0_addBlock_26 : decode cX0_addBlock 26 = .ok (.iconst 0, 1) := by decide +kernel
theorem dX0_addBlock_27 : decode cX0_addBlock 27 = .ok (.iload_n 2, 1) := by decide +kernel
theorem dX0_addBlock_28 : decode cX0_addBlock 28 = .ok (.invokevirtual 81, 3) := by decide +kernel
theorem dX0_addBlock_31 : decode cX0_addBlock 31 = .ok (.aload_n 0, 1) := by decide +kernel
theorem dX0_addBlock_32 : decode cX0_addBlock 32 = .ok (.aload_n 1, 1) := by decide +kernel
theorem dX0_addBlock_33 : decode cX0_addBlock 33 = .ok (.aload_n 0, 1) := by decide +kernel
theorem dX0_addBlock_34 : decode cX0_addBlock 34 = .ok (.getfield 28, 3) := by decide +kernel
theorem dX0_addBlock_37 : decode cX0_addBlock 37 = .ok (.iconst 1, 1) := by decide +kernel
theorem dX0_addBlock_38 : decode cX0_addBlock 38 = .ok (.isub, 1) := by decide +kernel
theorem dX0_addBlock_39 : decode cX0_addBlock 39 = .ok (.invokevirtual 103, 3) := by decide +kernel
theorem dX0_addBlock_42 : decode cX0_addBlock 42 = .ok (.return_, 1) := by decide +kernel
theorem dX0_addTold_0 : decode cX0_addTold 0 = .ok (.aload_n 0, 1) := by decide +kernel
theorem dX0_addTold_1 : decode cX0_addTold 1 = .ok (.getfield 28, 3) := by decide +kernel
theorem dX0_addTold_4 : decode cX0_addTold 4 = .ok (.bipush 24, 2) := by decide +kernel
theorem dX0_addTold_6 : decode cX0_addTold 6 = .ok (.if_icmp .ge 88, 3) := by decide +kernel
theorem dX0_addTold_9 : decode cX0_addTold 9 = .ok (.aload_n 0, 1) := by decide +kernel
theorem dX0_addTold_10 : decode cX0_addTold 10 = .ok (.dup, 1) := by decide +kernel
theorem dX0_addTold_11 : decode cX0_addTold 11 = .ok (.getfield 28, 3) := by decide +kernel
theorem dX0_addTold_14 : decode cX0_addTold 14 = .ok (.iconst 1, 1) := by decide +kernel
theorem dX0_addTold_15 : decode cX0_addTold 15 = .ok (.iadd, 1) := by decide +kernel
theorem dX0_addTold_16 : decode cX0_addTold 16 = .ok (.putfield 28, 3) := by decide +kernel
theorem dX0_addTold_19 : decode cX0_addTold 19 = .ok (.aload_n 0, 1) := by decide +kernel
theorem dX0_addTold_20 : decode cX0_addTold 20 = .ok (.aload_n 0, 1) := by decide +kernel
theorem dX0_addTold_21 : decode cX0_addTold 21 = .ok (.getfield 28, 3) := by decide +kernel
theorem dX0_addTold_24 : decode cX0_addTold 24 = .ok (.iconst 1, 1) := by decide +kernel
theorem dX0_addTold_25 : decode cX0_addTold 25 = .ok (.isub, 1) := by decide +kernel
theorem dX0_addTold_26 : decode cX0_addTold 26 = .ok (.iconst 0, 1) := by decide +kernel
theorem dX0_addTold_27 : decode cX0_addTold 27 = .ok (.iload_n 1, 1) := by decide +kernel
theorem dX0_addTold_28 : decode cX0_addTold 28 = .ok (.invokevirtual 81, 3) := by decide +kernel
theorem dX0_addTold_31 : decode cX0_addTold 31 = .ok (.aload_n 0, 1) := by decide +kernel
theorem dX0_addTold_32 : decode cX0_addTold 32 = .ok (.aload_n 0, 1) := by decide +kernel
theorem dX0_addTold_33 : decode cX0_addTold 33 = .ok (.getfield 28, 3) := by decide +kernel
theorem dX0_addTold_36 : decode cX0_addTold 36 = .ok (.iconst 1, 1) := by decide +kernel
theorem dX0_addTold_37 : decode cX0_addTold 37 = .ok (.isub, 1) := by decide +kernel
theorem dX0_addTold_38 : decode cX0_addTold 38 = .ok (.iconst 1, 1) := by decide +kernel
theorem dX0_addTold_39 : decode cX0_addTold 39 = .ok (.iload_n 2, 1) := by decide +kernel
theorem dX0_addTold_40 : decode cX0_addTold 40 = .ok (.invokevirtual 81, 3) := by decide +kernel
theorem dX0_addTold_43 : decode cX0_addTold 43 = .ok (.aload_n 0, 1) := by decide +kernel
theorem dX0_addTold_44 : decode cX0_addTold 44 = .ok (.aload_n 0, 1) := by decide +kernel
theorem dX0_addTold_45 : decode cX0_addTold 45 = .ok (.getfield 28, 3) := by decide +kernel
theorem dX0_addTold_48 : decode cX0_addTold 48 = .ok (.iconst 1, 1) := by decide +kernel
theorem dX0_addTold_49 : decode cX0_addTold 49 = .ok (.isub, 1) := by decide +kernel
theorem dX0_addTold_50 : decode cX0_addTold 50 = .ok (.iconst 2, 1) := by decide +kernel
theorem dX0_addTold_51 : decode cX0_addTold 51 = .ok (.iload_n 3, 1) := by decide +kernel
theorem dX0_addTold_52 : decode cX0_addTold 52 = .ok (.invokevirtual 81, 3) := by decide +kernel
theorem dX0_addTold_55 : decode cX0_addTold 55 = .ok (.aload_n 0, 1) := by decide +kernel
theorem dX0_addTold_56 : decode cX0_addTold 56 = .ok (.aload_n 0, 1) := by decide +kernel
theorem dX0_addTold_57 : decode cX0_addTold 57 = .ok (.getfield 28, 3) := by decide +kernel
theorem dX0_addTold_60 : decode cX0_addTold 60 = .ok (.iconst 1, 1) := by decide +kernel
theorem dX0_addTold_61 : decode cX0_addTold 61 = .ok (.isub, 1) := by decide +kernel
theorem dX0_addTold_62 : decode cX0_addTold 62 = .ok (.iconst 3, 1) := by decide +kernel
theorem dX0_addTold_63 : decode cX0_addTold 63 = .ok (.iload 4, 2) := by decide +kernel
theorem dX0_addTold_65 : decode cX0_addTold 65 = .ok (.invokevirtual 81, 3) := by decide +kernel
theorem dX0_addTold_68 : decode cX0_addTold 68 = .ok (.aload_n 0, 1) := by decide +kernel
theorem dX0_addTold_69 : decode cX0_addTold 69 = .ok (.aload_n 0, 1) := by decide +kernel
theorem dX0_addTold_70 : decode cX0_addTold 70 = .ok (.getfield 28, 3) := by decide +kernel
theorem dX0_addTold_73 : decode cX0_addTold 73 = .ok (.iconst 1, 1) := by decide +kernel
theorem dX0_addTold_74 : decode cX0_addTold 74 = .ok (.isub, 1) := by decide +kernel
theorem dX0_addTold_75 : decode cX0_addTold 75 = .ok (.iconst 4, 1) := by decide +kernel
theorem dX0_addTold_76 : decode cX0_addTold 76 = .ok (.iload 5, 2) := by decide +kernel
theorem dX0_addTold_78 : decode cX0_addTold 78 = .ok (.invokevirtual 81, 3) := by decide +kernel
theorem dX0_addTold_81 : decode cX0_addTold 81 = .ok (.aload_n 0, 1) := by decide +kernel
theorem dX0_addTold_82 : decode cX0_addTold 82 = .ok (.aload_n 0, 1) := by decide +kernel
theorem dX0_addTold_83 : decode cX0_addTold 83 = .ok (.getfield 28, 3) := by decide +kernel
theorem dX0_addTold_86 : decode cX0_addTold 86 = .ok (.iconst 1, 1) := by decide +kernel
theorem dX0_addTold_87 : decode cX0_addTold 87 = .ok (.isub, 1) := by decide +kernel
theorem dX0_addTold_88 : decode cX0_addTold 88 = .ok (.iconst 5, 1) := by decide +kernel
theorem dX0_addTold_89 : decode cX0_addTold 89 = .ok (.iload 6, 2) := by decide +kernel
theorem dX0_addTold_91 : decode cX0_addTold 91 = .ok (.invokevirtual 81, 3) := by decide +kernel
theorem dX0_addTold_94 : decode cX0_addTold 94 = .ok (.return_, 1) := by decide +kernel
theorem dX0_baseTheLast_0 : decode cX0_baseTheLast 0 = .ok (.aload_n 0, 1) := by decide +kernel
theorem dX0_baseTheLast_1 : decode cX0_baseTheLast 1 = .ok (.aload_n 0, 1) := by decide +kernel
theorem dX0_baseTheLast_2 : decode cX0_baseTheLast 2 = .ok (.getfield 28, 3) := by decide +kernel
theorem dX0_baseTheLast_5 : decode cX0_baseTheLast 5 = .ok (.iconst 1, 1) := by decide +kernel
theorem dX0_baseTheLast_6 : decode cX0_baseTheLast 6 = .ok (.isub, 1) := by decide +kernel
theorem dX0_baseTheLast_7 : decode cX0_baseTheLast 7 = .ok (.bipush 6, 2) := by decide +kernel
theorem dX0_baseTheLast_9 : decode cX0_baseTheLast 9 = .ok (.iload_n 1, 1) := by decide +kernel
theorem dX0_baseTheLast_10 : decode cX0_baseTheLast 10 = .ok (.invokevirtual 81, 3) := by decide +kernel
theorem dX0_baseTheLast_13 : decode cX0_baseTheLast 13 = .ok (.aload_n 0, 1) := by decide +kernel
theorem dX0_baseTheLast_14 : decode cX0_baseTheLast 14 = .ok (.aload_n 0, 1) := by decide +kernel
theorem dX0_baseTheLast_15 : decode cX0_baseTheLast 15 = .ok (.getfield 28, 3) := by decide +kernel
theorem dX0_baseTheLast_18 : decode cX0_baseTheLast 18 = .ok (.iconst 1, 1) := by decide +kernel
theorem dX0_baseTheLast_19 : decode cX0_baseTheLast 19 = .ok (.isub, 1) := by decide +kernel
theorem dX0_baseTheLast_20 : decode cX0_baseTheLast 20 = .ok (.bipush 7, 2) := by decide +kernel
theorem dX0_baseTheLast_22 : decode cX0_baseTheLast 22 = .ok (.iload_n 2, 1) := by decide +kernel
theorem dX0_baseTheLast_23 : decode cX0_baseTheLast 23 = .ok (.invokevirtual 81, 3) := by decide +kernel
theorem dX0_baseTheLast_26 : decode cX0_baseTheLast 26 = .ok (.return_, 1) := by decide +kernel
theorem dX0_openSlot_0 : decode cX0_openSlot 0 = .ok (.iload_n 1, 1) := by decide +kernel
theorem dX0_openSlot_1 : decode cX0_openSlot 1 = .ok (.ifCond .lt 20, 3) := by decide +kernel
theorem dX0_openSlot_4 : decode cX0_openSlot 4 = .ok (.iload_n 1, 1) := by decide +kernel
theorem dX0_openSlot_5 : decode cX0_openSlot 5 = .ok (.aload_n 0, 1) := by decide +kernel
theorem dX0_openSlot_6 : decode cX0_openSlot 6 = .ok (.getfield 28, 3) := by decide +kernel
theorem dX0_openSlot_9 : decode cX0_openSlot 9 = .ok (.if_icmp .gt 12, 3) := by decide +kernel
theorem dX0_openSlot_12 : decode cX0_openSlot 12 = .ok (.aload_n 0, 1) := by decide +kernel
theorem dX0_openSlot_13 : decode cX0_openSlot 13 = .ok (.getfield 28, 3) := by decide +kernel
theorem dX0_openSlot_16 : decode cX0_openSlot 16 = .ok (.bipush 24, 2) := by decide +kernel
theorem dX0_openSlot_18 : decode cX0_openSlot 18 = .ok (.if_icmp .lt 4, 3) := by decide +kernel
theorem dX0_openSlot_21 : decode cX0_openSlot 21 = .ok (.return_, 1) := by decide +kernel
theorem dX0_openSlot_22 : decode cX0_openSlot 22 = .ok (.iload_n 1, 1) := by decide +kernel
theorem dX0_openSlot_23 : decode cX0_openSlot 23 = .ok (.bipush 8, 2) := by decide +kernel
theorem dX0_openSlot_25 : decode cX0_openSlot 25 = .ok (.imul, 1) := by decide +kernel
theorem dX0_openSlot_26 : decode cX0_openSlot 26 = .ok (.istore_n 2, 1) := by decide +kernel
theorem dX0_openSlot_27 : decode cX0_openSlot 27 = .ok (.aload_n 0, 1) := by decide +kernel
theorem dX0_openSlot_28 : decode cX0_openSlot 28 = .ok (.getfield 20, 3) := by decide +kernel
theorem dX0_openSlot_31 : decode cX0_openSlot 31 = .ok (.iload_n 2, 1) := by decide +kernel
theorem dX0_openSlot_32 : decode cX0_openSlot 32 = .ok (.aload_n 0, 1) := by decide +kernel
theorem dX0_openSlot_33 : decode cX0_openSlot 33 = .ok (.getfield 20, 3) := by decide +kernel
theorem dX0_openSlot_36 : decode cX0_openSlot 36 = .ok (.iload_n 2, 1) := by decide +kernel
theorem dX0_openSlot_37 : decode cX0_openSlot 37 = .ok (.bipush 8, 2) := by decide +kernel
theorem dX0_openSlot_39 : decode cX0_openSlot 39 = .ok (.iadd, 1) := by decide +kernel
theorem dX0_openSlot_40 : decode cX0_openSlot 40 = .ok (.aload_n 0, 1) := by decide +kernel
theorem dX0_openSlot_41 : decode cX0_openSlot 41 = .ok (.getfield 28, 3) := by decide +kernel
theorem dX0_openSlot_44 : decode cX0_openSlot 44 = .ok (.iload_n 1, 1) := by decide +kernel
theorem dX0_openSlot_45 : decode cX0_openSlot 45 = .ok (.isub, 1) := by decide +kernel
theorem dX0_openSlot_46 : decode cX0_openSlot 46 = .ok (.bipush 8, 2) := by decide +kernel
theorem dX0_openSlot_48 : decode cX0_openSlot 48 = .ok (.imul, 1) := by decide +kernel
theorem dX0_openSlot_49 : decode cX0_openSlot 49 = .ok (.invokestatic 35, 3) := by decide +kernel
theorem dX0_openSlot_52 : decode cX0_openSlot 52 = .ok (.aload_n 0, 1) := by decide +kernel
theorem dX0_openSlot_53 : decode cX0_openSlot 53 = .ok (.dup, 1) := by decide +kernel
theorem dX0_openSlot_54 : decode cX0_openSlot 54 = .ok (.getfield 28, 3) := by decide +kernel
theorem dX0_openSlot_57 : decode cX0_openSlot 57 = .ok (.iconst 1, 1) := by decide +kernel
theorem dX0_openSlot_58 : decode cX0_openSlot 58 = .ok (.iadd, 1) := by decide +kernel
theorem dX0_openSlot_59 : decode cX0_openSlot 59 = .ok (.putfield 28, 3) := by decide +kernel
theorem dX0_openSlot_62 : decode cX0_openSlot 62 = .ok (.return_, 1) := by decide +kernel
theorem dX0_closeSlot_0 : decode cX0_closeSlot 0 = .ok (.aload_n 0, 1) := by decide +kernel
theorem dX0_closeSlot_1 : decode cX0_closeSlot 1 = .ok (.iload_n 1, 1) := by decide +kernel
theorem dX0_closeSlot_2 : decode cX0_closeSlot 2 = .ok (.invokevirtual 41, 3) := by decide +kernel
theorem dX0_closeSlot_5 : decode cX0_closeSlot 5 = .ok (.ifCond .ne 4, 3) := by decide +kernel
theorem dX0_closeSlot_8 : decode cX0_closeSlot 8 = .ok (.return_, 1) := by decide +kernel
theorem dX0_closeSlot_9 : decode cX0_closeSlot 9 = .ok (.iload_n 1, 1) := by decide +kernel
theorem dX0_closeSlot_10 : decode cX0_closeSlot 10 = .ok (.bipush 8, 2) := by decide +kernel
theorem dX0_closeSlot_12 : decode cX0_closeSlot 12 = .ok (.imul, 1) := by decide +kernel
theorem dX0_closeSlot_13 : decode cX0_closeSlot 13 = .ok (.istore_n 2, 1) := by decide +kernel
theorem dX0_closeSlot_14 : decode cX0_closeSlot 14 = .ok (.aload_n 0, 1) := by decide +kernel
theorem dX0_closeSlot_15 : decode cX0_closeSlot 15 = .ok (.dup, 1) := by decide +kernel
theorem dX0_closeSlot_16 : decode cX0_closeSlot 16 = .ok (.getfield 28, 3) := by decide +kernel
theorem dX0_closeSlot_19 : decode cX0_closeSlot 19 = .ok (.iconst 1, 1) := by decide +kernel
theorem dX0_closeSlot_20 : decode cX0_closeSlot 20 = .ok (.isub, 1) := by decide +kernel
theorem dX0_closeSlot_21 : decode cX0_closeSlot 21 = .ok (.putfield 28, 3) := by decide +kernel
theorem dX0_closeSlot_24 : decode cX0_closeSlot 24 = .ok (.aload_n 0, 1) := by decide +kernel
theorem dX0_closeSlot_25 : decode cX0_closeSlot 25 = .ok (.getfield 20, 3) := by decide +kernel
theorem dX0_closeSlot_28 : decode cX0_closeSlot 28 = .ok (.iload_n 2, 1) := by decide +kernel
theorem dX0_closeSlot_29 : decode cX0_closeSlot 29 = .ok (.bipush 8, 2) := by decide +kernel
theorem dX0_closeSlot_31 : decode cX0_closeSlot 31 = .ok (.iadd, 1) := by decide +kernel
theorem dX0_closeSlot_32 : decode cX0_closeSlot 32 = .ok (.aload_n 0, 1) := by decide +kernel
theorem dX0_closeSlot_33 : decode cX0_closeSlot 33 = .ok (.getfield 20, 3) := by decide +kernel
theorem dX0_closeSlot_36 : decode cX0_closeSlot 36 = .ok (.iload_n 2, 1) := by decide +kernel
theorem dX0_closeSlot_37 : decode cX0_closeSlot 37 = .ok (.aload_n 0, 1) := by decide +kernel
theorem dX0_closeSlot_38 : decode cX0_closeSlot 38 = .ok (.getfield 28, 3) := by decide +kernel
theorem dX0_closeSlot_41 : decode cX0_closeSlot 41 = .ok (.iload_n 1, 1) := by decide +kernel
theorem dX0_closeSlot_42 : decode cX0_closeSlot 42 = .ok (.isub, 1) := by decide +kernel
theorem dX0_closeSlot_43 : decode cX0_closeSlot 43 = .ok (.bipush 8, 2) := by decide +kernel
theorem dX0_closeSlot_45 : decode cX0_closeSlot 45 = .ok (.imul, 1) := by decide +kernel
theorem dX0_closeSlot_46 : decode cX0_closeSlot 46 = .ok (.invokestatic 35, 3) := by decide +kernel
theorem dX0_closeSlot_49 : decode cX0_closeSlot 49 = .ok (.return_, 1) := by decide +kernel
theorem dX0_enteredBlock_0 : decode cX0_enteredBlock 0 = .ok (.iload_n 1, 1) := by decide +kernel
theorem dX0_enteredBlock_1 : decode cX0_enteredBlock 1 = .ok (.aload_n 0, 1) := by decide +kernel
theorem dX0_enteredBlock_2 : decode cX0_enteredBlock 2 = .ok (.getfield 14, 3) := by decide +kernel
theorem dX0_enteredBlock_5 : decode cX0_enteredBlock 5 = .ok (.getfield 24, 3) := by decide +kernel
theorem dX0_enteredBlock_8 : decode cX0_enteredBlock 8 = .ok (.if_icmp .ne 12, 3) := by decide +kernel
theorem dX0_enteredBlock_11 : decode cX0_enteredBlock 11 = .ok (.aload_n 0, 1) := by decide +kernel
theorem dX0_enteredBlock_12 : decode cX0_enteredBlock 12 = .ok (.getfield 28, 3) := by decide +kernel
theorem dX0_enteredBlock_15 : decode cX0_enteredBlock 15 = .ok (.iconst 1, 1) := by decide +kernel
theorem dX0_enteredBlock_16 : decode cX0_enteredBlock 16 = .ok (.isub, 1) := by decide +kernel
theorem dX0_enteredBlock_17 : decode cX0_enteredBlock 17 = .ok (.goto 8, 3) := by decide +kernel
theorem dX0_enteredBlock_20 : decode cX0_enteredBlock 20 = .ok (.aload_n 0, 1) := by decide +kernel
theorem dX0_enteredBlock_21 : decode cX0_enteredBlock 21 = .ok (.iload_n 1, 1) := by decide +kernel
theorem dX0_enteredBlock_22 : decode cX0_enteredBlock 22 = .ok (.invokevirtual 118, 3) := by decide +kernel
theorem dX0_enteredBlock_25 : decode cX0_enteredBlock 25 = .ok (.ireturn, 1) := by decide +kernel
theorem dX0_canEnter_0 : decode cX0_canEnter 0 = .ok (.aload_n 0, 1) := by decide +kernel
theorem dX0_canEnter_1 : decode cX0_canEnter 1 = .ok (.getfield 28, 3) := by decide +kernel
theorem dX0_canEnter_4 : decode cX0_canEnter 4 = .ok (.ifCond .eq 18, 3) := by decide +kernel
theorem dX0_canEnter_7 : decode cX0_canEnter 7 = .ok (.iload_n 1, 1) := by decide +kernel
theorem dX0_canEnter_8 : decode cX0_canEnter 8 = .ok (.ifCond .lt 14, 3) := by decide +kernel
theorem dX0_canEnter_11 : decode cX0_canEnter 11 = .ok (.iload_n 1, 1) := by decide +kernel
theorem dX0_canEnter_12 : decode cX0_canEnter 12 = .ok (.aload_n 0, 1) := by decide +kernel
theorem dX0_canEnter_13 : decode cX0_canEnter 13 = .ok (.getfield 14, 3) := by decide +kernel
theorem dX0_canEnter_16 : decode cX0_canEnter 16 = .ok (.getfield 24, 3) := by decide +kernel
theorem dX0_canEnter_19 : decode cX0_canEnter 19 = .ok (.if_icmp .le 5, 3) := by decide +kernel
theorem dX0_canEnter_22 : decode cX0_canEnter 22 = .ok (.iconst 0, 1) := by decide +kernel
theorem dX0_canEnter_23 : decode cX0_canEnter 23 = .ok (.ireturn, 1) := by decide +kernel
theorem dX0_canEnter_24 : decode cX0_canEnter 24 = .ok (.aload_n 0, 1) := by decide +kernel
theorem dX0_canEnter_25 : decode cX0_canEnter 25 = .ok (.iconst 1, 1) := by decide +kernel
theorem dX0_canEnter_26 : decode cX0_canEnter 26 = .ok (.aload_n 0, 1) := by decide +kernel
theorem dX0_canEnter_27 : decode cX0_canEnter 27 = .ok (.aload_n 0, 1) := by decide +kernel
theorem dX0_canEnter_28 : decode cX0_canEnter 28 = .ok (.iload_n 1, 1) := by decide +kernel
theorem dX0_canEnter_29 : decode cX0_canEnter 29 = .ok (.invokevirtual 121, 3) := by decide +kernel
theorem dX0_canEnter_32 : decode cX0_canEnter 32 = .ok (.iconst 0, 1) := by decide +kernel
theorem dX0_canEnter_33 : decode cX0_canEnter 33 = .ok (.invokevirtual 45, 3) := by decide +kernel
theorem dX0_canEnter_36 : decode cX0_canEnter 36 = .ok (.bipush 16, 2) := by decide +kernel
theorem dX0_canEnter_38 : decode cX0_canEnter 38 = .ok (.if_icmp .ne 7, 3) := by decide +kernel
theorem dX0_canEnter_41 : decode cX0_canEnter 41 = .ok (.iconst 1, 1) := by decide +kernel
theorem dX0_canEnter_42 : decode cX0_canEnter 42 = .ok (.goto 4, 3) := by decide +kernel
theorem dX0_canEnter_45 : decode cX0_canEnter 45 = .ok (.iconst 0, 1) := by decide +kernel
theorem dX0_canEnter_46 : decode cX0_canEnter 46 = .ok (.invokevirtual 124, 3) := by decide +kernel
theorem dX0_canEnter_49 : decode cX0_canEnter 49 = .ok (.ireturn, 1) := by decide +kernel
theorem dX0_enter_0 : decode cX0_enter 0 = .ok (.aload_n 0, 1) := by decide +kernel
theorem dX0_enter_1 : decode cX0_enter 1 = .ok (.iload_n 2, 1) := by decide +kernel
theorem dX0_enter_2 : decode cX0_enter 2 = .ok (.invokevirtual 121, 3) := by decide +kernel
theorem dX0_enter_5 : decode cX0_enter 5 = .ok (.istore 4, 2) := by decide +kernel
theorem dX0_enter_7 : decode cX0_enter 7 = .ok (.aload_n 0, 1) := by decide +kernel
theorem dX0_enter_8 : decode cX0_enter 8 = .ok (.iload 4, 2) := by decide +kernel
theorem dX0_enter_10 : decode cX0_enter 10 = .ok (.iconst 0, 1) := by decide +kernel
theorem dX0_enter_11 : decode cX0_enter 11 = .ok (.invokevirtual 45, 3) := by decide +kernel
theorem dX0_enter_14 : decode cX0_enter 14 = .ok (.iconst 1, 1) := by decide +kernel
theorem dX0_enter_15 : decode cX0_enter 15 = .ok (.iadd, 1) := by decide +kernel
theorem dX0_enter_16 : decode cX0_enter 16 = .ok (.istore 5, 2) := by decide +kernel
theorem dX0_enter_18 : decode cX0_enter 18 = .ok (.aload_n 0, 1) := by decide +kernel
theorem dX0_enter_19 : decode cX0_enter 19 = .ok (.getfield 14, 3) := by decide +kernel
theorem dX0_enter_22 : decode cX0_enter 22 = .ok (.iload_n 2, 1) := by decide +kernel
theorem dX0_enter_23 : decode cX0_enter 23 = .ok (.iload_n 3, 1) := by decide +kernel
theorem dX0_enter_24 : decode cX0_enter 24 = .ok (.invokevirtual 128, 3) := by decide +kernel
theorem dX0_enter_27 : decode cX0_enter 27 = .ok (.aload_n 0, 1) := by decide +kernel
theorem dX0_enter_28 : decode cX0_enter 28 = .ok (.iload 4, 2) := by decide +kernel
theorem dX0_enter_30 : decode cX0_enter 30 = .ok (.iconst 0, 1) := by decide +kernel
theorem dX0_enter_31 : decode cX0_enter 31 = .ok (.iload 5, 2) := by decide +kernel
theorem dX0_enter_33 : decode cX0_enter 33 = .ok (.invokevirtual 81, 3) := by decide +kernel
theorem dX0_enter_36 : decode cX0_enter 36 = .ok (.iload 5, 2) := by decide +kernel
theorem dX0_enter_38 : decode cX0_enter 38 = .ok (.bipush 16, 2) := by decide +kernel
theorem dX0_enter_40 : decode cX0_enter 40 = .ok (.if_icmp .le 15, 3) := by decide +kernel
theorem dX0_enter_43 : decode cX0_enter 43 = .ok (.aload_n 0, 1) := by decide +kernel
theorem dX0_enter_44 : decode cX0_enter 44 = .ok (.aload_n 1, 1) := by decide +kernel
theorem dX0_enter_45 : decode cX0_enter 45 = .ok (.iload 4, 2) := by decide +kernel
theorem dX0_enter_47 : decode cX0_enter 47 = .ok (.bipush 8, 2) := by decide +kernel
theorem dX0_enter_49 : decode cX0_enter 49 = .ok (.invokevirtual 131, 3) := by decide +kernel
theorem dX0_enter_52 : decode cX0_enter 52 = .ok (.goto 10, 3) := by decide +kernel
theorem dX0_enter_55 : decode cX0_enter 55 = .ok (.aload_n 0, 1) := by decide +kernel
theorem dX0_enter_56 : decode cX0_enter 56 = .ok (.aload_n 1, 1) := by decide +kernel
theorem dX0_enter_57 : decode cX0_enter 57 = .ok (.iload 4, 2) := by decide +kernel
theorem dX0_enter_59 : decode cX0_enter 59 = .ok (.invokevirtual 103, 3) := by decide +kernel
theorem dX0_enter_62 : decode cX0_enter 62 = .ok (.return_, 1) := by decide +kernel
theorem dX0_takeOut_0 : decode cX0_takeOut 0 = .ok (.aload_n 0, 1) := by decide +kernel
theorem dX0_takeOut_1 : decode cX0_takeOut 1 = .ok (.iload_n 2, 1) := by decide +kernel
theorem dX0_takeOut_2 : decode cX0_takeOut 2 = .ok (.invokevirtual 118, 3) := by decide +kernel
theorem dX0_takeOut_5 : decode cX0_takeOut 5 = .ok (.istore_n 3, 1) := by decide +kernel
theorem dX0_takeOut_6 : decode cX0_takeOut 6 = .ok (.aload_n 0, 1) := by decide +kernel
theorem dX0_takeOut_7 : decode cX0_takeOut 7 = .ok (.iload_n 3, 1) := by decide +kernel
theorem dX0_takeOut_8 : decode cX0_takeOut 8 = .ok (.iconst 0, 1) := by decide +kernel
theorem dX0_takeOut_9 : decode cX0_takeOut 9 = .ok (.invokevirtual 45, 3) := by decide +kernel
theorem dX0_takeOut_12 : decode cX0_takeOut 12 = .ok (.iconst 1, 1) := by decide +kernel
theorem dX0_takeOut_13 : decode cX0_takeOut 13 = .ok (.isub, 1) := by decide +kernel
theorem dX0_takeOut_14 : decode cX0_takeOut 14 = .ok (.istore 4, 2) := by decide +kernel
theorem dX0_takeOut_16 : decode cX0_takeOut 16 = .ok (.aload_n 0, 1) := by decide +kernel
theorem dX0_takeOut_17 : decode cX0_takeOut 17 = .ok (.getfield 14, 3) := by decide +kernel
theorem dX0_takeOut_20 : decode cX0_takeOut 20 = .ok (.iload_n 2, 1) := by decide +kernel
theorem dX0_takeOut_21 : decode cX0_takeOut 21 = .ok (.iconst 1, 1) := by decide +kernel
theorem dX0_takeOut_22 : decode cX0_takeOut 22 = .ok (.invokevirtual 135, 3) := by decide +kernel
theorem dX0_takeOut_25 : decode cX0_takeOut 25 = .ok (.iload 4, 2) := by decide +kernel
theorem dX0_takeOut_27 : decode cX0_takeOut 27 = .ok (.ifCond .ne 11, 3) := by decide +kernel
theorem dX0_takeOut_30 : decode cX0_takeOut 30 = .ok (.aload_n 0, 1) := by decide +kernel
theorem dX0_takeOut_31 : decode cX0_takeOut 31 = .ok (.iload_n 3, 1) := by decide +kernel
theorem dX0_takeOut_32 : decode cX0_takeOut 32 = .ok (.invokevirtual 138, 3) := by decide +kernel
theorem dX0_takeOut_35 : decode cX0_takeOut 35 = .ok (.goto 17, 3) := by decide +kernel
theorem dX0_takeOut_38 : decode cX0_takeOut 38 = .ok (.aload_n 0, 1) := by decide +kernel
theorem dX0_takeOut_39 : decode cX0_takeOut 39 = .ok (.iload_n 3, 1) := by decide +kernel
theorem dX0_takeOut_40 : decode cX0_takeOut 40 = .ok (.iconst 0, 1) := by decide +kernel
theorem dX0_takeOut_41 : decode cX0_takeOut 41 = .ok (.iload 4, 2) := by decide +kernel
theorem dX0_takeOut_43 : decode cX0_takeOut 43 = .ok (.invokevirtual 81, 3) := by decide +kernel
theorem dX0_takeOut_46 : decode cX0_takeOut 46 = .ok (.aload_n 0, 1) := by decide +kernel
theorem dX0_takeOut_47 : decode cX0_takeOut 47 = .ok (.aload_n 1, 1) := by decide +kernel
theorem dX0_takeOut_48 : decode cX0_takeOut 48 = .ok (.iload_n 3, 1) := by decide +kernel
theorem dX0_takeOut_49 : decode cX0_takeOut 49 = .ok (.invokevirtual 103, 3) := by decide +kernel
theorem dX0_takeOut_52 : decode cX0_takeOut 52 = .ok (.return_, 1) := by decide +kernel
theorem dX0_cutInTwo_0 : decode cX0_cutInTwo 0 = .ok (.aload_n 0, 1) := by decide +kernel
theorem dX0_cutInTwo_1 : decode cX0_cutInTwo 1 = .ok (.iload_n 2, 1) := by decide +kernel
theorem dX0_cutInTwo_2 : decode cX0_cutInTwo 2 = .ok (.iconst 0, 1) := by decide +kernel
theorem dX0_cutInTwo_3 : decode cX0_cutInTwo 3 = .ok (.invokevirtual 45, 3) := by decide +kernel
theorem dX0_cutInTwo_6 : decode cX0_cutInTwo 6 = .ok (.istore 4, 2) := by decide +kernel
theorem dX0_cutInTwo_8 : decode cX0_cutInTwo 8 = .ok (.aload_n 0, 1) := by decide +kernel
theorem dX0_cutInTwo_9 : decode cX0_cutInTwo 9 = .ok (.iload_n 2, 1) := by decide +kernel
theorem dX0_cutInTwo_10 : decode cX0_cutInTwo 10 = .ok (.iconst 1, 1) := by decide +kernel
theorem dX0_cutInTwo_11 : decode cX0_cutInTwo 11 = .ok (.iadd, 1) := by decide +kernel
theorem dX0_cutInTwo_12 : decode cX0_cutInTwo 12 = .ok (.invokevirtual 141, 3) := by decide +kernel
theorem dX0_cutInTwo_15 : decode cX0_cutInTwo 15 = .ok (.aload_n 0, 1) := by decide +kernel
theorem dX0_cutInTwo_16 : decode cX0_cutInTwo 16 = .ok (.iload_n 2, 1) := by decide +kernel
theorem dX0_cutInTwo_17 : decode cX0_cutInTwo 17 = .ok (.iconst 0, 1) := by decide +kernel
theorem dX0_cutInTwo_18 : decode cX0_cutInTwo 18 = .ok (.iload_n 3, 1) := by decide +kernel
theorem dX0_cutInTwo_19 : decode cX0_cutInTwo 19 = .ok (.invokevirtual 81, 3) := by decide +kernel
theorem dX0_cutInTwo_22 : decode cX0_cutInTwo 22 = .ok (.aload_n 0, 1) := by decide +kernel
theorem dX0_cutInTwo_23 : decode cX0_cutInTwo 23 = .ok (.iload_n 2, 1) := by decide +kernel
theorem dX0_cutInTwo_24 : decode cX0_cutInTwo 24 = .ok (.iconst 1, 1) := by decide +kernel
theorem dX0_cutInTwo_25 : decode cX0_cutInTwo 25 = .ok (.iadd, 1) := by decide +kernel
theorem dX0_cutInTwo_26 : decode cX0_cutInTwo 26 = .ok (.iconst 0, 1) := by decide +kernel
theorem dX0_cutInTwo_27 : decode cX0_cutInTwo 27 = .ok (.iload 4, 2) := by decide +kernel
theorem dX0_cutInTwo_29 : decode cX0_cutInTwo 29 = .ok (.iload_n 3, 1) := by decide +kernel
theorem dX0_cutInTwo_30 : decode cX0_cutInTwo 30 = .ok (.isub, 1) := by decide +kernel
theorem dX0_cutInTwo_31 : decode cX0_cutInTwo 31 = .ok (.invokevirtual 81, 3) := by decide +kernel
theorem dX0_cutInTwo_34 : decode cX0_cutInTwo 34 = .ok (.aload_n 0, 1) := by decide +kernel
theorem dX0_cutInTwo_35 : decode cX0_cutInTwo 35 = .ok (.aload_n 1, 1) := by decide +kernel
theorem dX0_cutInTwo_36 : decode cX0_cutInTwo 36 = .ok (.iload_n 2, 1) := by decide +kernel
theorem dX0_cutInTwo_37 : decode cX0_cutInTwo 37 = .ok (.invokevirtual 103, 3) := by decide +kernel
theorem dX0_cutInTwo_40 : decode cX0_cutInTwo 40 = .ok (.aload_n 0, 1) := by decide +kernel
theorem dX0_cutInTwo_41 : decode cX0_cutInTwo 41 = .ok (.aload_n 1, 1) := by decide +kernel
theorem dX0_cutInTwo_42 : decode cX0_cutInTwo 42 = .ok (.iload_n 2, 1) := by decide +kernel
theorem dX0_cutInTwo_43 : decode cX0_cutInTwo 43 = .ok (.iconst 1, 1) := by decide +kernel
theorem dX0_cutInTwo_44 : decode cX0_cutInTwo 44 = .ok (.iadd, 1) := by decide +kernel
theorem dX0_cutInTwo_45 : decode cX0_cutInTwo 45 = .ok (.invokevirtual 103, 3) := by decide +kernel
theorem dX0_cutInTwo_48 : decode cX0_cutInTwo 48 = .ok (.return_, 1) := by decide +kernel
theorem dX0_dropBlock_0 : decode cX0_dropBlock 0 = .ok (.aload_n 0, 1) := by decide +kernel
theorem dX0_dropBlock_1 : decode cX0_dropBlock 1 = .ok (.getfield 14, 3) := by decide +kernel
theorem dX0_dropBlock_4 : decode cX0_dropBlock 4 = .ok (.aload_n 0, 1) := by decide +kernel
theorem dX0_dropBlock_5 : decode cX0_dropBlock 5 = .ok (.iload_n 1, 1) := by decide +kernel
theorem dX0_dropBlock_6 : decode cX0_dropBlock 6 = .ok (.invokevirtual 59, 3) := by decide +kernel
theorem dX0_dropBlock_9 : decode cX0_dropBlock 9 = .ok (.aload_n 0, 1) := by decide +kernel
theorem dX0_dropBlock_10 : decode cX0_dropBlock 10 = .ok (.iload_n 1, 1) := by decide +kernel
theorem dX0_dropBlock_11 : decode cX0_dropBlock 11 = .ok (.iconst 0, 1) := by decide +kernel
theorem dX0_dropBlock_12 : decode cX0_dropBlock 12 = .ok (.invokevirtual 45, 3) := by decide +kernel
theorem dX0_dropBlock_15 : decode cX0_dropBlock 15 = .ok (.invokevirtual 135, 3) := by decide +kernel
theorem dX0_dropBlock_18 : decode cX0_dropBlock 18 = .ok (.aload_n 0, 1) := by decide +kernel
theorem dX0_dropBlock_19 : decode cX0_dropBlock 19 = .ok (.iload_n 1, 1) := by decide +kernel
theorem dX0_dropBlock_20 : decode cX0_dropBlock 20 = .ok (.invokevirtual 138, 3) := by decide +kernel
theorem dX0_dropBlock_23 : decode cX0_dropBlock 23 = .ok (.return_, 1) := by decide +kernel
theorem dX0_joinBlocks_0 : decode cX0_joinBlocks 0 = .ok (.aload_n 0, 1) := by decide +kernel
theorem dX0_joinBlocks_1 : decode cX0_joinBlocks 1 = .ok (.getfield 28, 3) := by decide +kernel
theorem dX0_joinBlocks_4 : decode cX0_joinBlocks 4 = .ok (.istore_n 2, 1) := by decide +kernel
theorem dX0_joinBlocks_5 : decode cX0_joinBlocks 5 = .ok (.iconst 0, 1) := by decide +kernel
theorem dX0_joinBlocks_6 : decode cX0_joinBlocks 6 = .ok (.istore_n 3, 1) := by decide +kernel
theorem dX0_joinBlocks_7 : decode cX0_joinBlocks 7 = .ok (.iconst 1, 1) := by decide +kernel
theorem dX0_joinBlocks_8 : decode cX0_joinBlocks 8 = .ok (.istore 4, 2) := by decide +kernel
theorem dX0_joinBlocks_10 : decode cX0_joinBlocks 10 = .ok (.iload 4, 2) := by decide +kernel
theorem dX0_joinBlocks_12 : decode cX0_joinBlocks 12 = .ok (.iload_n 2, 1) := by decide +kernel
theorem dX0_joinBlocks_13 : decode cX0_joinBlocks 13 = .ok (.if_icmp .ge 62, 3) := by decide +kernel
theorem dX0_joinBlocks_16 : decode cX0_joinBlocks 16 = .ok (.aload_n 0, 1) := by decide +kernel
theorem dX0_joinBlocks_17 : decode cX0_joinBlocks 17 = .ok (.aload_n 1, 1) := by decide +kernel
theorem dX0_joinBlocks_18 : decode cX0_joinBlocks 18 = .ok (.iload_n 3, 1) := by decide +kernel
theorem dX0_joinBlocks_19 : decode cX0_joinBlocks 19 = .ok (.invokevirtual 144, 3) := by decide +kernel
theorem dX0_joinBlocks_22 : decode cX0_joinBlocks 22 = .ok (.ifCond .eq 44, 3) := by decide +kernel
theorem dX0_joinBlocks_25 : decode cX0_joinBlocks 25 = .ok (.aload_n 0, 1) := by decide +kernel
theorem dX0_joinBlocks_26 : decode cX0_joinBlocks 26 = .ok (.iload_n 3, 1) := by decide +kernel
theorem dX0_joinBlocks_27 : decode cX0_joinBlocks 27 = .ok (.iconst 0, 1) := by decide +kernel
theorem dX0_joinBlocks_28 : decode cX0_joinBlocks 28 = .ok (.invokevirtual 45, 3) := by decide +kernel
theorem dX0_joinBlocks_31 : decode cX0_joinBlocks 31 = .ok (.aload_n 0, 1) := by decide +kernel
theorem dX0_joinBlocks_32 : decode cX0_joinBlocks 32 = .ok (.iload_n 3, 1) := by decide +kernel
theorem dX0_joinBlocks_33 : decode cX0_joinBlocks 33 = .ok (.iconst 1, 1) := by decide +kernel
theorem dX0_joinBlocks_34 : decode cX0_joinBlocks 34 = .ok (.iadd, 1) := by decide +kernel
theorem dX0_joinBlocks_35 : decode cX0_joinBlocks 35 = .ok (.iconst 0, 1) := by decide +kernel
theorem dX0_joinBlocks_36 : decode cX0_joinBlocks 36 = .ok (.invokevirtual 45, 3) := by decide +kernel
theorem dX0_joinBlocks_39 : decode cX0_joinBlocks 39 = .ok (.iadd, 1) := by decide +kernel
theorem dX0_joinBlocks_40 : decode cX0_joinBlocks 40 = .ok (.istore 5, 2) := by decide +kernel
theorem dX0_joinBlocks_42 : decode cX0_joinBlocks 42 = .ok (.aload_n 0, 1) := by decide +kernel
theorem dX0_joinBlocks_43 : decode cX0_joinBlocks 43 = .ok (.iload_n 3, 1) := by decide +kernel
theorem dX0_joinBlocks_44 : decode cX0_joinBlocks 44 = .ok (.iconst 1, 1) := by decide +kernel
theorem dX0_joinBlocks_45 : decode cX0_joinBlocks 45 = .ok (.iadd, 1) := by decide +kernel
theorem dX0_joinBlocks_46 : decode cX0_joinBlocks 46 = .ok (.invokevirtual 138, 3) := by decide +kernel
theorem dX0_joinBlocks_49 : decode cX0_joinBlocks 49 = .ok (.aload_n 0, 1) := by decide +kernel
theorem dX0_joinBlocks_50 : decode cX0_joinBlocks 50 = .ok (.iload_n 3, 1) := by decide +kernel
theorem dX0_joinBlocks_51 : decode cX0_joinBlocks 51 = .ok (.iconst 0, 1) := by decide +kernel
theorem dX0_joinBlocks_52 : decode cX0_joinBlocks 52 = .ok (.iload 5, 2) := by decide +kernel
theorem dX0_joinBlocks_54 : decode cX0_joinBlocks 54 = .ok (.invokevirtual 81, 3) := by decide +kernel
theorem dX0_joinBlocks_57 : decode cX0_joinBlocks 57 = .ok (.aload_n 0, 1) := by decide +kernel
theorem dX0_joinBlocks_58 : decode cX0_joinBlocks 58 = .ok (.aload_n 1, 1) := by decide +kernel
theorem dX0_joinBlocks_59 : decode cX0_joinBlocks 59 = .ok (.iload_n 3, 1) := by decide +kernel
theorem dX0_joinBlocks_60 : decode cX0_joinBlocks 60 = .ok (.invokevirtual 103, 3) := by decide +kernel
theorem dX0_joinBlocks_63 : decode cX0_joinBlocks 63 = .ok (.goto 6, 3) := by decide +kernel
theorem dX0_joinBlocks_66 : decode cX0_joinBlocks 66 = .ok (.iinc 3 1, 3) := by decide +kernel
theorem dX0_joinBlocks_69 : decode cX0_joinBlocks 69 = .ok (.iinc 4 1, 3) := by decide +kernel
theorem dX0_joinBlocks_72 : decode cX0_joinBlocks 72 = .ok (.goto (-62), 3) := by decide +kernel
theorem dX0_joinBlocks_75 : decode cX0_joinBlocks 75 = .ok (.iload_n 2, 1) := by decide +kernel
theorem dX0_joinBlocks_76 : decode cX0_joinBlocks 76 = .ok (.aload_n 0, 1) := by decide +kernel
theorem dX0_joinBlocks_77 : decode cX0_joinBlocks 77 = .ok (.getfield 28, 3) := by decide +kernel
theorem dX0_joinBlocks_80 : decode cX0_joinBlocks 80 = .ok (.isub, 1) := by decide +kernel
theorem dX0_joinBlocks_81 : decode cX0_joinBlocks 81 = .ok (.ireturn, 1) := by decide +kernel
theorem dX0_shouldJoin_0 : decode cX0_shouldJoin 0 = .ok (.aload_n 0, 1) := by decide +kernel
theorem dX0_shouldJoin_1 : decode cX0_shouldJoin 1 = .ok (.iload_n 2, 1) := by decide +kernel
theorem dX0_shouldJoin_2 : decode cX0_shouldJoin 2 = .ok (.iconst 0, 1) := by decide +kernel
theorem dX0_shouldJoin_3 : decode cX0_shouldJoin 3 = .ok (.invokevirtual 45, 3) := by decide +kernel
theorem dX0_shouldJoin_6 : decode cX0_shouldJoin 6 = .ok (.aload_n 0, 1) := by decide +kernel
theorem dX0_shouldJoin_7 : decode cX0_shouldJoin 7 = .ok (.iload_n 2, 1) := by decide +kernel
theorem dX0_shouldJoin_8 : decode cX0_shouldJoin 8 = .ok (.iconst 1, 1) := by decide +kernel
theorem dX0_shouldJoin_9 : decode cX0_shouldJoin 9 = .ok (.iadd, 1) := by decide +kernel
theorem dX0_shouldJoin_10 : decode cX0_shouldJoin 10 = .ok (.iconst 0, 1) := by decide +kernel
theorem dX0_shouldJoin_11 : decode cX0_shouldJoin 11 = .ok (.invokevirtual 45, 3) := by decide +kernel
theorem dX0_shouldJoin_14 : decode cX0_shouldJoin 14 = .ok (.iadd, 1) := by decide +kernel
theorem dX0_shouldJoin_15 : decode cX0_shouldJoin 15 = .ok (.istore_n 3, 1) := by decide +kernel
theorem dX0_shouldJoin_16 : decode cX0_shouldJoin 16 = .ok (.aload_n 0, 1) := by decide +kernel
theorem dX0_shouldJoin_17 : decode cX0_shouldJoin 17 = .ok (.iload_n 2, 1) := by decide +kernel
theorem dX0_shouldJoin_18 : decode cX0_shouldJoin 18 = .ok (.iconst 1, 1) := by decide +kernel
theorem dX0_shouldJoin_19 : decode cX0_shouldJoin 19 = .ok (.iadd, 1) := by decide +kernel
theorem dX0_shouldJoin_20 : decode cX0_shouldJoin 20 = .ok (.invokevirtual 41, 3) := by decide +kernel
theorem dX0_shouldJoin_23 : decode cX0_shouldJoin 23 = .ok (.ifCond .eq 9, 3) := by decide +kernel
theorem dX0_shouldJoin_26 : decode cX0_shouldJoin 26 = .ok (.iload_n 3, 1) := by decide +kernel
theorem dX0_shouldJoin_27 : decode cX0_shouldJoin 27 = .ok (.bipush 16, 2) := by decide +kernel
theorem dX0_shouldJoin_29 : decode cX0_shouldJoin 29 = .ok (.if_icmp .le 5, 3) := by decide +kernel
theorem dX0_shouldJoin_32 : decode cX0_shouldJoin 32 = .ok (.iconst 0, 1) := by decide +kernel
theorem dX0_shouldJoin_33 : decode cX0_shouldJoin 33 = .ok (.ireturn, 1) := by decide +kernel
theorem dX0_shouldJoin_34 : decode cX0_shouldJoin 34 = .ok (.aload_n 1, 1) := by decide +kernel
theorem dX0_shouldJoin_35 : decode cX0_shouldJoin 35 = .ok (.aload_n 0, 1) := by decide +kernel
theorem dX0_shouldJoin_36 : decode cX0_shouldJoin 36 = .ok (.getfield 14, 3) := by decide +kernel
theorem dX0_shouldJoin_39 : decode cX0_shouldJoin 39 = .ok (.aload_n 0, 1) := by decide +kernel
theorem dX0_shouldJoin_40 : decode cX0_shouldJoin 40 = .ok (.iload_n 2, 1) := by decide +kernel
theorem dX0_shouldJoin_41 : decode cX0_shouldJoin 41 = .ok (.invokevirtual 59, 3) := by decide +kernel
theorem dX0_shouldJoin_44 : decode cX0_shouldJoin 44 = .ok (.iload_n 3, 1) := by decide +kernel
theorem dX0_shouldJoin_45 : decode cX0_shouldJoin 45 = .ok (.invokevirtual 65, 3) := by decide +kernel
theorem dX0_shouldJoin_48 : decode cX0_shouldJoin 48 = .ok (.aload_n 1, 1) := by decide +kernel
theorem dX0_shouldJoin_49 : decode cX0_shouldJoin 49 = .ok (.invokevirtual 75, 3) := by decide +kernel
theorem dX0_shouldJoin_52 : decode cX0_shouldJoin 52 = .ok (.aload_n 1, 1) := by decide +kernel
theorem dX0_shouldJoin_53 : decode cX0_shouldJoin 53 = .ok (.getfield 94, 3) := by decide +kernel
theorem dX0_shouldJoin_56 : decode cX0_shouldJoin 56 = .ok (.aload_n 0, 1) := by decide +kernel
theorem dX0_shouldJoin_57 : decode cX0_shouldJoin 57 = .ok (.iload_n 2, 1) := by decide +kernel
theorem dX0_shouldJoin_58 : decode cX0_shouldJoin 58 = .ok (.iconst 5, 1) := by decide +kernel
theorem dX0_shouldJoin_59 : decode cX0_shouldJoin 59 = .ok (.invokevirtual 45, 3) := by decide +kernel
theorem dX0_shouldJoin_62 : decode cX0_shouldJoin 62 = .ok (.aload_n 0, 1) := by decide +kernel
theorem dX0_shouldJoin_63 : decode cX0_shouldJoin 63 = .ok (.iload_n 2, 1) := by decide +kernel
theorem dX0_shouldJoin_64 : decode cX0_shouldJoin 64 = .ok (.iconst 1, 1) := by decide +kernel
theorem dX0_shouldJoin_65 : decode cX0_shouldJoin 65 = .ok (.iadd, 1) := by decide +kernel
theorem dX0_shouldJoin_66 : decode cX0_shouldJoin 66 = .ok (.iconst 5, 1) := by decide +kernel
theorem dX0_shouldJoin_67 : decode cX0_shouldJoin 67 = .ok (.invokevirtual 45, 3) := by decide +kernel
theorem dX0_shouldJoin_70 : decode cX0_shouldJoin 70 = .ok (.iadd, 1) := by decide +kernel
theorem dX0_shouldJoin_71 : decode cX0_shouldJoin 71 = .ok (.if_icmp .ge 7, 3) := by decide +kernel
theorem dX0_shouldJoin_74 : decode cX0_shouldJoin 74 = .ok (.iconst 1, 1) := by decide +kernel
theorem dX0_shouldJoin_75 : decode cX0_shouldJoin 75 = .ok (.goto 4, 3) := by decide +kernel
theorem dX0_shouldJoin_78 : decode cX0_shouldJoin 78 = .ok (.iconst 0, 1) := by decide +kernel
theorem dX0_shouldJoin_79 : decode cX0_shouldJoin 79 = .ok (.ireturn, 1) := by decide +kernel
theorem dX0_cutBy_0 : decode cX0_cutBy 0 = .ok (.aload_n 0, 1) := by decide +kernel
theorem dX0_cutBy_1 : decode cX0_cutBy 1 = .ok (.iconst 0, 1) := by decide +kernel
theorem dX0_cutBy_2 : decode cX0_cutBy 2 = .ok (.putfield 28, 3) := by decide +kernel
theorem dX0_cutBy_5 : decode cX0_cutBy 5 = .ok (.iconst 0, 1) := by decide +kernel
theorem dX0_cutBy_6 : decode cX0_cutBy 6 = .ok (.istore_n 3, 1) := by decide +kernel
theorem dX0_cutBy_7 : decode cX0_cutBy 7 = .ok (.iload_n 3, 1) := by decide +kernel
theorem dX0_cutBy_8 : decode cX0_cutBy 8 = .ok (.aload_n 2, 1) := by decide +kernel
theorem dX0_cutBy_9 : decode cX0_cutBy 9 = .ok (.getfield 148, 3) := by decide +kernel
theorem dX0_cutBy_12 : decode cX0_cutBy 12 = .ok (.if_icmp .ge 26, 3) := by decide +kernel
theorem dX0_cutBy_15 : decode cX0_cutBy 15 = .ok (.iload_n 3, 1) := by decide +kernel
theorem dX0_cutBy_16 : decode cX0_cutBy 16 = .ok (.bipush 24, 2) := by decide +kernel
theorem dX0_cutBy_18 : decode cX0_cutBy 18 = .ok (.if_icmp .ge 20, 3) := by decide +kernel
theorem dX0_cutBy_21 : decode cX0_cutBy 21 = .ok (.aload_n 0, 1) := by decide +kernel
theorem dX0_cutBy_22 : decode cX0_cutBy 22 = .ok (.aload_n 1, 1) := by decide +kernel
theorem dX0_cutBy_23 : decode cX0_cutBy 23 = .ok (.aload_n 2, 1) := by decide +kernel
theorem dX0_cutBy_24 : decode cX0_cutBy 24 = .ok (.getfield 151, 3) := by decide +kernel
theorem dX0_cutBy_27 : decode cX0_cutBy 27 = .ok (.iload_n 3, 1) := by decide +kernel
theorem dX0_cutBy_28 : decode cX0_cutBy 28 = .ok (.iaload, 1) := by decide +kernel
theorem dX0_cutBy_29 : decode cX0_cutBy 29 = .ok (.invokevirtual 115, 3) := by decide +kernel
theorem dX0_cutBy_32 : decode cX0_cutBy 32 = .ok (.iinc 3 1, 3) := by decide +kernel
theorem dX0_cutBy_35 : decode cX0_cutBy 35 = .ok (.goto (-28), 3) := by decide +kernel
theorem dX0_cutBy_38 : decode cX0_cutBy 38 = .ok (.return_, 1) := by decide +kernel
theorem dX0_bitsByBest_0 : decode cX0_bitsByBest 0 = .ok (.iconst 0, 1) := by decide +kernel
theorem dX0_bitsByBest_1 : decode cX0_bitsByBest 1 = .ok (.istore_n 2, 1) := by decide +kernel
theorem dX0_bitsByBest_2 : decode cX0_bitsByBest 2 = .ok (.iconst 0, 1) := by decide +kernel
theorem dX0_bitsByBest_3 : decode cX0_bitsByBest 3 = .ok (.istore_n 3, 1) := by decide +kernel
theorem dX0_bitsByBest_4 : decode cX0_bitsByBest 4 = .ok (.iload_n 3, 1) := by decide +kernel
theorem dX0_bitsByBest_5 : decode cX0_bitsByBest 5 = .ok (.aload_n 0, 1) := by decide +kernel
theorem dX0_bitsByBest_6 : decode cX0_bitsByBest 6 = .ok (.getfield 28, 3) := by decide +kernel
theorem dX0_bitsByBest_9 : decode cX0_bitsByBest 9 = .ok (.if_icmp .ge 39, 3) := by decide +kernel
theorem dX0_bitsByBest_12 : decode cX0_bitsByBest 12 = .ok (.aload_n 1, 1) := by decide +kernel
theorem dX0_bitsByBest_13 : decode cX0_bitsByBest 13 = .ok (.aload_n 0, 1) := by decide +kernel
theorem dX0_bitsByBest_14 : decode cX0_bitsByBest 14 = .ok (.getfield 14, 3) := by decide +kernel
theorem dX0_bitsByBest_17 : decode cX0_bitsByBest 17 = .ok (.aload_n 0, 1) := by decide +kernel
theorem dX0_bitsByBest_18 : decode cX0_bitsByBest 18 = .ok (.iload_n 3, 1) := by decide +kernel
theorem dX0_bitsByBest_19 : decode cX0_bitsByBest 19 = .ok (.invokevirtual 59, 3) := by decide +kernel
theorem dX0_bitsByBest_22 : decode cX0_bitsByBest 22 = .ok (.aload_n 0, 1) := by decide +kernel
theorem dX0_bitsByBest_23 : decode cX0_bitsByBest 23 = .ok (.iload_n 3, 1) := by decide +kernel
theorem dX0_bitsByBest_24 : decode cX0_bitsByBest 24 = .ok (.iconst 0, 1) := by decide +kernel
theorem dX0_bitsByBest_25 : decode cX0_bitsByBest 25 = .ok (.invokevirtual 45, 3) := by decide +kernel
theorem dX0_bitsByBest_28 : decode cX0_bitsByBest 28 = .ok (.invokevirtual 65, 3) := by decide +kernel
theorem dX0_bitsByBest_31 : decode cX0_bitsByBest 31 = .ok (.aload_n 1, 1) := by decide +kernel
theorem dX0_bitsByBest_32 : decode cX0_bitsByBest 32 = .ok (.invokevirtual 75, 3) := by decide +kernel
theorem dX0_bitsByBest_35 : decode cX0_bitsByBest 35 = .ok (.iload_n 2, 1) := by decide +kernel
theorem dX0_bitsByBest_36 : decode cX0_bitsByBest 36 = .ok (.aload_n 1, 1) := by decide +kernel
theorem dX0_bitsByBest_37 : decode cX0_bitsByBest 37 = .ok (.getfield 94, 3) := by decide +kernel
theorem dX0_bitsByBest_40 : decode cX0_bitsByBest 40 = .ok (.iadd, 1) := by decide +kernel
theorem dX0_bitsByBest_41 : decode cX0_bitsByBest 41 = .ok (.istore_n 2, 1) := by decide +kernel
theorem dX0_bitsByBest_42 : decode cX0_bitsByBest 42 = .ok (.iinc 3 1, 3) := by decide +kernel
theorem dX0_bitsByBest_45 : decode cX0_bitsByBest 45 = .ok (.goto (-41), 3) := by decide +kernel
theorem dX0_bitsByBest_48 : decode cX0_bitsByBest 48 = .ok (.iload_n 2, 1) := by decide +kernel
theorem dX0_bitsByBest_49 : decode cX0_bitsByBest 49 = .ok (.ireturn, 1) := by decide +kernel
theorem dX0_bitsWith_0 : decode cX0_bitsWith 0 = .ok (.aload_n 0, 1) := by decide +kernel
theorem dX0_bitsWith_1 : decode cX0_bitsWith 1 = .ok (.iload_n 2, 1) := by decide +kernel
theorem dX0_bitsWith_2 : decode cX0_bitsWith 2 = .ok (.invokevirtual 118, 3) := by decide +kernel
theorem dX0_bitsWith_5 : decode cX0_bitsWith 5 = .ok (.istore 4, 2) := by decide +kernel
theorem dX0_bitsWith_7 : decode cX0_bitsWith 7 = .ok (.aload_n 0, 1) := by decide +kernel
theorem dX0_bitsWith_8 : decode cX0_bitsWith 8 = .ok (.getfield 14, 3) := by decide +kernel
theorem dX0_bitsWith_11 : decode cX0_bitsWith 11 = .ok (.iload_n 2, 1) := by decide +kernel
theorem dX0_bitsWith_12 : decode cX0_bitsWith 12 = .ok (.invokevirtual 154, 3) := by decide +kernel
theorem dX0_bitsWith_15 : decode cX0_bitsWith 15 = .ok (.lstore 5, 2) := by decide +kernel
theorem dX0_bitsWith_17 : decode cX0_bitsWith 17 = .ok (.aload_n 0, 1) := by decide +kernel
theorem dX0_bitsWith_18 : decode cX0_bitsWith 18 = .ok (.getfield 14, 3) := by decide +kernel
theorem dX0_bitsWith_21 : decode cX0_bitsWith 21 = .ok (.iload_n 2, 1) := by decide +kernel
theorem dX0_bitsWith_22 : decode cX0_bitsWith 22 = .ok (.iload_n 3, 1) := by decide +kernel
theorem dX0_bitsWith_23 : decode cX0_bitsWith 23 = .ok (.i2l, 1) := by decide +kernel
theorem dX0_bitsWith_24 : decode cX0_bitsWith 24 = .ok (.invokevirtual 158, 3) := by decide +kernel
theorem dX0_bitsWith_27 : decode cX0_bitsWith 27 = .ok (.aload_n 1, 1) := by decide +kernel
theorem dX0_bitsWith_28 : decode cX0_bitsWith 28 = .ok (.aload_n 0, 1) := by decide +kernel
theorem dX0_bitsWith_29 : decode cX0_bitsWith 29 = .ok (.getfield 14, 3) := by decide +kernel
theorem dX0_bitsWith_32 : decode cX0_bitsWith 32 = .ok (.aload_n 0, 1) := by decide +kernel
theorem dX0_bitsWith_33 : decode cX0_bitsWith 33 = .ok (.iload 4, 2) := by decide +kernel
theorem dX0_bitsWith_35 : decode cX0_bitsWith 35 = .ok (.invokevirtual 59, 3) := by decide +kernel
theorem dX0_bitsWith_38 : decode cX0_bitsWith 38 = .ok (.aload_n 0, 1) := by decide +kernel
theorem dX0_bitsWith_39 : decode cX0_bitsWith 39 = .ok (.iload 4, 2) := by decide +kernel
theorem dX0_bitsWith_41 : decode cX0_bitsWith 41 = .ok (.iconst 0, 1) := by decide +kernel
theorem dX0_bitsWith_42 : decode cX0_bitsWith 42 = .ok (.invokevirtual 45, 3) := by decide +kernel
theorem dX0_bitsWith_45 : decode cX0_bitsWith 45 = .ok (.invokevirtual 65, 3) := by decide +kernel
theorem dX0_bitsWith_48 : decode cX0_bitsWith 48 = .ok (.aload_n 0, 1) := by decide +kernel
theorem dX0_bitsWith_49 : decode cX0_bitsWith 49 = .ok (.getfield 14, 3) := by decide +kernel
theorem dX0_bitsWith_52 : decode cX0_bitsWith 52 = .ok (.iload_n 2, 1) := by decide +kernel
theorem dX0_bitsWith_53 : decode cX0_bitsWith 53 = .ok (.lload 5, 2) := by decide +kernel
theorem dX0_bitsWith_55 : decode cX0_bitsWith 55 = .ok (.invokevirtual 158, 3) := by decide +kernel
theorem dX0_bitsWith_58 : decode cX0_bitsWith 58 = .ok (.aload_n 1, 1) := by decide +kernel
theorem dX0_bitsWith_59 : decode cX0_bitsWith 59 = .ok (.invokevirtual 75, 3) := by decide +kernel
theorem dX0_bitsWith_62 : decode cX0_bitsWith 62 = .ok (.aload_n 0, 1) := by decide +kernel
theorem dX0_bitsWith_63 : decode cX0_bitsWith 63 = .ok (.iconst 5, 1) := by decide +kernel
theorem dX0_bitsWith_64 : decode cX0_bitsWith 64 = .ok (.invokevirtual 107, 3) := by decide +kernel
theorem dX0_bitsWith_67 : decode cX0_bitsWith 67 = .ok (.aload_n 0, 1) := by decide +kernel
theorem dX0_bitsWith_68 : decode cX0_bitsWith 68 = .ok (.iload 4, 2) := by decide +kernel
theorem dX0_bitsWith_70 : decode cX0_bitsWith 70 = .ok (.iconst 5, 1) := by decide +kernel
theorem dX0_bitsWith_71 : decode cX0_bitsWith 71 = .ok (.invokevirtual 45, 3) := by decide +kernel
theorem dX0_bitsWith_74 : decode cX0_bitsWith 74 = .ok (.isub, 1) := by decide +kernel
theorem dX0_bitsWith_75 : decode cX0_bitsWith 75 = .ok (.aload_n 1, 1) := by decide +kernel
theorem dX0_bitsWith_76 : decode cX0_bitsWith 76 = .ok (.getfield 94, 3) := by decide +kernel
theorem dX0_bitsWith_79 : decode cX0_bitsWith 79 = .ok (.iadd, 1) := by decide +kernel
theorem dX0_bitsWith_80 : decode cX0_bitsWith 80 = .ok (.ireturn, 1) := by decide +kernel
theorem dX0_blocksOf_0 : decode cX0_blocksOf 0 = .ok (.iconst 0, 1) := by decide +kernel
theorem dX0_blocksOf_1 : decode cX0_blocksOf 1 = .ok (.istore_n 3, 1) := by decide +kernel
theorem dX0_blocksOf_2 : decode cX0_blocksOf 2 = .ok (.iconst 0, 1) := by decide +kernel
theorem dX0_blocksOf_3 : decode cX0_blocksOf 3 = .ok (.istore 4, 2) := by decide +kernel
theorem dX0_blocksOf_5 : decode cX0_blocksOf 5 = .ok (.iload 4, 2) := by decide +kernel
theorem dX0_blocksOf_7 : decode cX0_blocksOf 7 = .ok (.aload_n 0, 1) := by decide +kernel
theorem dX0_blocksOf_8 : decode cX0_blocksOf 8 = .ok (.getfield 28, 3) := by decide +kernel
theorem dX0_blocksOf_11 : decode cX0_blocksOf 11 = .ok (.if_icmp .ge 44, 3) := by decide +kernel
theorem dX0_blocksOf_14 : decode cX0_blocksOf 14 = .ok (.iload_n 1, 1) := by decide +kernel
theorem dX0_blocksOf_15 : decode cX0_blocksOf 15 = .ok (.iconst (-1), 1) := by decide +kernel
theorem dX0_blocksOf_16 : decode cX0_blocksOf 16 = .ok (.if_icmp .eq 14, 3) := by decide +kernel
theorem dX0_blocksOf_19 : decode cX0_blocksOf 19 = .ok (.aload_n 0, 1) := by decide +kernel
theorem dX0_blocksOf_20 : decode cX0_blocksOf 20 = .ok (.iload 4, 2) := by decide +kernel
theorem dX0_blocksOf_22 : decode cX0_blocksOf 22 = .ok (.iconst 2, 1) := by decide +kernel
theorem dX0_blocksOf_23 : decode cX0_blocksOf 23 = .ok (.invokevirtual 45, 3) := by decide +kernel
theorem dX0_blocksOf_26 : decode cX0_blocksOf 26 = .ok (.iload_n 1, 1) := by decide +kernel
theorem dX0_blocksOf_27 : decode cX0_blocksOf 27 = .ok (.if_icmp .ne 22, 3) := by decide +kernel
theorem dX0_blocksOf_30 : decode cX0_blocksOf 30 = .ok (.iload_n 2, 1) := by decide +kernel
theorem dX0_blocksOf_31 : decode cX0_blocksOf 31 = .ok (.iconst (-1), 1) := by decide +kernel
theorem dX0_blocksOf_32 : decode cX0_blocksOf 32 = .ok (.if_icmp .eq 14, 3) := by decide +kernel
theorem dX0_blocksOf_35 : decode cX0_blocksOf 35 = .ok (.aload_n 0, 1) := by decide +kernel
theorem dX0_blocksOf_36 : decode cX0_blocksOf 36 = .ok (.iload 4, 2) := by decide +kernel
theorem dX0_blocksOf_38 : decode cX0_blocksOf 38 = .ok (.iconst 3, 1) := by decide +kernel
theorem dX0_blocksOf_39 : decode cX0_blocksOf 39 = .ok (.invokevirtual 45, 3) := by decide +kernel
theorem dX0_blocksOf_42 : decode cX0_blocksOf 42 = .ok (.iload_n 2, 1) := by decide +kernel
theorem dX0_blocksOf_43 : decode cX0_blocksOf 43 = .ok (.if_icmp .ne 6, 3) := by decide +kernel
theorem dX0_blocksOf_46 : decode cX0_blocksOf 46 = .ok (.iinc 3 1, 3) := by decide +kernel
theorem dX0_blocksOf_49 : decode cX0_blocksOf 49 = .ok (.iinc 4 1, 3) := by decide +kernel
theorem dX0_blocksOf_52 : decode cX0_blocksOf 52 = .ok (.goto (-47), 3) := by decide +kernel
theorem dX0_blocksOf_55 : decode cX0_blocksOf 55 = .ok (.iload_n 3, 1) := by decide +kernel
theorem dX0_blocksOf_56 : decode cX0_blocksOf 56 = .ok (.ireturn, 1) := by decide +kernel
theorem dX0_heaviestBlock_0 : decode cX0_heaviestBlock 0 = .ok (.iconst 0, 1) := by decide +kernel
theorem dX0_heaviestBlock_1 : decode cX0_heaviestBlock 1 = .ok (.istore_n 1, 1) := by decide +kernel
theorem dX0_heaviestBlock_2 : decode cX0_heaviestBlock 2 = .ok (.iconst 1, 1) := by decide +kernel
theorem dX0_heaviestBlock_3 : decode cX0_heaviestBlock 3 = .ok (.istore_n 2, 1) := by decide +kernel
theorem dX0_heaviestBlock_4 : decode cX0_heaviestBlock 4 = .ok (.iload_n 2, 1) := by decide +kernel
theorem dX0_heaviestBlock_5 : decode cX0_heaviestBlock 5 = .ok (.aload_n 0, 1) := by decide +kernel
theorem dX0_heaviestBlock_6 : decode cX0_heaviestBlock 6 = .ok (.getfield 28, 3) := by decide +kernel
theorem dX0_heaviestBlock_9 : decode cX0_heaviestBlock 9 = .ok (.if_icmp .ge 40, 3) := by decide +kernel
theorem dX0_heaviestBlock_12 : decode cX0_heaviestBlock 12 = .ok (.aload_n 0, 1) := by decide +kernel
theorem dX0_heaviestBlock_13 : decode cX0_heaviestBlock 13 = .ok (.iload_n 2, 1) := by decide +kernel
theorem dX0_heaviestBlock_14 : decode cX0_heaviestBlock 14 = .ok (.iconst 5, 1) := by decide +kernel
theorem dX0_heaviestBlock_15 : decode cX0_heaviestBlock 15 = .ok (.invokevirtual 45, 3) := by decide +kernel
theorem dX0_heaviestBlock_18 : decode cX0_heaviestBlock 18 = .ok (.aload_n 0, 1) := by decide +kernel
theorem dX0_heaviestBlock_19 : decode cX0_heaviestBlock 19 = .ok (.iload_n 1, 1) := by decide +kernel
theorem dX0_heaviestBlock_20 : decode cX0_heaviestBlock 20 = .ok (.iconst 0, 1) := by decide +kernel
theorem dX0_heaviestBlock_21 : decode cX0_heaviestBlock 21 = .ok (.invokevirtual 45, 3) := by decide +kernel
theorem dX0_heaviestBlock_24 : decode cX0_heaviestBlock 24 = .ok (.imul, 1) := by decide +kernel
theorem dX0_heaviestBlock_25 : decode cX0_heaviestBlock 25 = .ok (.aload_n 0, 1) := by decide +kernel
theorem dX0_heaviestBlock_26 : decode cX0_heaviestBlock 26 = .ok (.iload_n 1, 1) := by decide +kernel
theorem dX0_heaviestBlock_27 : decode cX0_heaviestBlock 27 = .ok (.iconst 5, 1) := by decide +kernel
theorem dX0_heaviestBlock_28 : decode cX0_heaviestBlock 28 = .ok (.invokevirtual 45, 3) := by decide +kernel
theorem dX0_heaviestBlock_31 : decode cX0_heaviestBlock 31 = .ok (.aload_n 0, 1) := by decide +kernel
theorem dX0_heaviestBlock_32 : decode cX0_heaviestBlock 32 = .ok (.iload_n 2, 1) := by decide +kernel
theorem dX0_heaviestBlock_33 : decode cX0_heaviestBlock 33 = .ok (.iconst 0, 1) := by decide +kernel
theorem dX0_heaviestBlock_34 : decode cX0_heaviestBlock 34 = .ok (.invokevirtual 45, 3) := by decide +kernel
theorem dX0_heaviestBlock_37 : decode cX0_heaviestBlock 37 = .ok (.imul, 1) := by decide +kernel
theorem dX0_heaviestBlock_38 : decode cX0_heaviestBlock 38 = .ok (.if_icmp .le 5, 3) := by decide +kernel
theorem dX0_heaviestBlock_41 : decode cX0_heaviestBlock 41 = .ok (.iload_n 2, 1) := by decide +kernel
theorem dX0_heaviestBlock_42 : decode cX0_heaviestBlock 42 = .ok (.istore_n 1, 1) := by decide +kernel
theorem dX0_heaviestBlock_43 : decode cX0_heaviestBlock 43 = .ok (.iinc 2 1, 3) := by decide +kernel
theorem dX0_heaviestBlock_46 : decode cX0_heaviestBlock 46 = .ok (.goto (-42), 3) := by decide +kernel
theorem dX0_heaviestBlock_49 : decode cX0_heaviestBlock 49 = .ok (.iload_n 1, 1) := by decide +kernel
theorem dX0_heaviestBlock_50 : decode cX0_heaviestBlock 50 = .ok (.ireturn, 1) := by decide +kernel
theorem dX0_blocksOutside_0 : decode cX0_blocksOutside 0 = .ok (.iconst 0, 1) := by decide +kernel
theorem dX0_blocksOutside_1 : decode cX0_blocksOutside 1 = .ok (.istore_n 3, 1) := by decide +kernel
theorem dX0_blocksOutside_2 : decode cX0_blocksOutside 2 = .ok (.iconst 0, 1) := by decide +kernel
theorem dX0_blocksOutside_3 : decode cX0_blocksOutside 3 = .ok (.istore 4, 2) := by decide +kernel
theorem dX0_blocksOutside_5 : decode cX0_blocksOutside 5 = .ok (.iload 4, 2) := by decide +kernel
theorem dX0_blocksOutside_7 : decode cX0_blocksOutside 7 = .ok (.aload_n 0, 1) := by decide +kernel
theorem dX0_blocksOutside_8 : decode cX0_blocksOutside 8 = .ok (.getfield 28, 3) := by decide +kernel
theorem dX0_blocksOutside_11 : decode cX0_blocksOutside 11 = .ok (.if_icmp .ge 33, 3) := by decide +kernel
theorem dX0_blocksOutside_14 : decode cX0_blocksOutside 14 = .ok (.aload_n 0, 1) := by decide +kernel
theorem dX0_blocksOutside_15 : decode cX0_blocksOutside 15 = .ok (.iload 4, 2) := by decide +kernel
theorem dX0_blocksOutside_17 : decode cX0_blocksOutside 17 = .ok (.iconst 1, 1) := by decide +kernel
theorem dX0_blocksOutside_18 : decode cX0_blocksOutside 18 = .ok (.invokevirtual 45, 3) := by decide +kernel
theorem dX0_blocksOutside_21 : decode cX0_blocksOutside 21 = .ok (.ifCond .eq 14, 3) := by decide +kernel
theorem dX0_blocksOutside_24 : decode cX0_blocksOutside 24 = .ok (.aload_n 0, 1) := by decide +kernel
theorem dX0_blocksOutside_25 : decode cX0_blocksOutside 25 = .ok (.iload 4, 2) := by decide +kernel
theorem dX0_blocksOutside_27 : decode cX0_blocksOutside 27 = .ok (.iload_n 1, 1) := by decide +kernel
theorem dX0_blocksOutside_28 : decode cX0_blocksOutside 28 = .ok (.iload_n 2, 1) := by decide +kernel
theorem dX0_blocksOutside_29 : decode cX0_blocksOutside 29 = .ok (.invokevirtual 162, 3) := by decide +kernel
theorem dX0_blocksOutside_32 : decode cX0_blocksOutside 32 = .ok (.ifCond .eq 6, 3) := by decide +kernel
theorem dX0_blocksOutside_35 : decode cX0_blocksOutside 35 = .ok (.iinc 3 1, 3) := by decide +kernel
theorem dX0_blocksOutside_38 : decode cX0_blocksOutside 38 = .ok (.iinc 4 1, 3) := by decide +kernel
theorem dX0_blocksOutside_41 : decode cX0_blocksOutside 41 = .ok (.goto (-36), 3) := by decide +kernel
theorem dX0_blocksOutside_44 : decode cX0_blocksOutside 44 = .ok (.iload_n 3, 1) := by decide +kernel
theorem dX0_blocksOutside_45 : decode cX0_blocksOutside 45 = .ok (.ireturn, 1) := by decide +kernel
theorem dX0_isOutside_0 : decode cX0_isOutside 0 = .ok (.aload_n 0, 1) := by decide +kernel
theorem dX0_isOutside_1 : decode cX0_isOutside 1 = .ok (.iload_n 1, 1) := by decide +kernel
theorem dX0_isOutside_2 : decode cX0_isOutside 2 = .ok (.iconst 2, 1) := by decide +kernel
theorem dX0_isOutside_3 : decode cX0_isOutside 3 = .ok (.invokevirtual 45, 3) := by decide +kernel
theorem dX0_isOutside_6 : decode cX0_isOutside 6 = .ok (.ifCond .ne 38, 3) := by decide +kernel
theorem dX0_isOutside_9 : decode cX0_isOutside 9 = .ok (.aload_n 0, 1) := by decide +kernel
theorem dX0_isOutside_10 : decode cX0_isOutside 10 = .ok (.iload_n 1, 1) := by decide +kernel
theorem dX0_isOutside_11 : decode cX0_isOutside 11 = .ok (.iconst 4, 1) := by decide +kernel
theorem dX0_isOutside_12 : decode cX0_isOutside 12 = .ok (.invokevirtual 45, 3) := by decide +kernel
theorem dX0_isOutside_15 : decode cX0_isOutside 15 = .ok (.ifCond .ne 29, 3) := by decide +kernel
theorem dX0_isOutside_18 : decode cX0_isOutside 18 = .ok (.aload_n 0, 1) := by decide +kernel
theorem dX0_isOutside_19 : decode cX0_isOutside 19 = .ok (.iload_n 1, 1) := by decide +kernel
theorem dX0_isOutside_20 : decode cX0_isOutside 20 = .ok (.bipush 6, 2) := by decide +kernel
theorem dX0_isOutside_22 : decode cX0_isOutside 22 = .ok (.invokevirtual 45, 3) := by decide +kernel
theorem dX0_isOutside_25 : decode cX0_isOutside 25 = .ok (.iload_n 3, 1) := by decide +kernel
theorem dX0_isOutside_26 : decode cX0_isOutside 26 = .ok (.if_icmp .gt 14, 3) := by decide +kernel
theorem dX0_isOutside_29 : decode cX0_isOutside 29 = .ok (.aload_n 0, 1) := by decide +kernel
theorem dX0_isOutside_30 : decode cX0_isOutside 30 = .ok (.iload_n 1, 1) := by decide +kernel
theorem dX0_isOutside_31 : decode cX0_isOutside 31 = .ok (.invokevirtual 166, 3) := by decide +kernel
theorem dX0_isOutside_34 : decode cX0_isOutside 34 = .ok (.iload_n 2, 1) := by decide +kernel
theorem dX0_isOutside_35 : decode cX0_isOutside 35 = .ok (.i2l, 1) := by decide +kernel
theorem dX0_isOutside_36 : decode cX0_isOutside 36 = .ok (.lcmp, 1) := by decide +kernel
theorem dX0_isOutside_37 : decode cX0_isOutside 37 = .ok (.ifCond .ge 7, 3) := by decide +kernel
theorem dX0_isOutside_40 : decode cX0_isOutside 40 = .ok (.iconst 1, 1) := by decide +kernel
theorem dX0_isOutside_41 : decode cX0_isOutside 41 = .ok (.goto 4, 3) := by decide +kernel
theorem dX0_isOutside_44 : decode cX0_isOutside 44 = .ok (.iconst 0, 1) := by decide +kernel
theorem dX0_isOutside_45 : decode cX0_isOutside 45 = .ok (.ireturn, 1) := by decide +kernel
theorem dX0_looksFor_0 : decode cX0_looksFor 0 = .ok (.iconst 0, 1) := by decide +kernel
theorem dX0_looksFor_1 : decode cX0_looksFor 1 = .ok (.istore_n 2, 1) := by decide +kernel
theorem dX0_looksFor_2 : decode cX0_looksFor 2 = .ok (.aload_n 0, 1) := by decide +kernel
theorem dX0_looksFor_3 : decode cX0_looksFor 3 = .ok (.invokevirtual 169, 3) := by decide +kernel
theorem dX0_looksFor_6 : decode cX0_looksFor 6 = .ok (.istore_n 3, 1) := by decide +kernel
theorem dX0_looksFor_7 : decode cX0_looksFor 7 = .ok (.iconst 0, 1) := by decide +kernel
theorem dX0_looksFor_8 : decode cX0_looksFor 8 = .ok (.istore 4, 2) := by decide +kernel
theorem dX0_looksFor_10 : decode cX0_looksFor 10 = .ok (.iload_n 2, 1) := by decide +kernel
theorem dX0_looksFor_11 : decode cX0_looksFor 11 = .ok (.iload_n 3, 1) := by decide +kernel
theorem dX0_looksFor_12 : decode cX0_looksFor 12 = .ok (.if_icmp .ge 52, 3) := by decide +kernel
theorem dX0_looksFor_15 : decode cX0_looksFor 15 = .ok (.iload 4, 2) := by decide +kernel
theorem dX0_looksFor_17 : decode cX0_looksFor 17 = .ok (.aload_n 0, 1) := by decide +kernel
theorem dX0_looksFor_18 : decode cX0_looksFor 18 = .ok (.getfield 28, 3) := by decide +kernel
theorem dX0_looksFor_21 : decode cX0_looksFor 21 = .ok (.if_icmp .ge 43, 3) := by decide +kernel
theorem dX0_looksFor_24 : decode cX0_looksFor 24 = .ok (.iload_n 2, 1) := by decide +kernel
theorem dX0_looksFor_25 : decode cX0_looksFor 25 = .ok (.iload_n 3, 1) := by decide +kernel
theorem dX0_looksFor_26 : decode cX0_looksFor 26 = .ok (.iadd, 1) := by decide +kernel
theorem dX0_looksFor_27 : decode cX0_looksFor 27 = .ok (.iconst 2, 1) := by decide +kernel
theorem dX0_looksFor_28 : decode cX0_looksFor 28 = .ok (.idiv, 1) := by decide +kernel
theorem dX0_looksFor_29 : decode cX0_looksFor 29 = .ok (.istore 5, 2) := by decide +kernel
theorem dX0_looksFor_31 : decode cX0_looksFor 31 = .ok (.aload_n 0, 1) := by decide +kernel
theorem dX0_looksFor_32 : decode cX0_looksFor 32 = .ok (.aload_n 0, 1) := by decide +kernel
theorem dX0_looksFor_33 : decode cX0_looksFor 33 = .ok (.iload 5, 2) := by decide +kernel
theorem dX0_looksFor_35 : decode cX0_looksFor 35 = .ok (.invokevirtual 173, 3) := by decide +kernel
theorem dX0_looksFor_38 : decode cX0_looksFor 38 = .ok (.bipush 6, 2) := by decide +kernel
theorem dX0_looksFor_40 : decode cX0_looksFor 40 = .ok (.invokevirtual 45, 3) := by decide +kernel
theorem dX0_looksFor_43 : decode cX0_looksFor 43 = .ok (.iload_n 1, 1) := by decide +kernel
theorem dX0_looksFor_44 : decode cX0_looksFor 44 = .ok (.if_icmp .ge 11, 3) := by decide +kernel
theorem dX0_looksFor_47 : decode cX0_looksFor 47 = .ok (.iload 5, 2) := by decide +kernel
theorem dX0_looksFor_49 : decode cX0_looksFor 49 = .ok (.iconst 1, 1) := by decide +kernel
theorem dX0_looksFor_50 : decode cX0_looksFor 50 = .ok (.iadd, 1) := by decide +kernel
theorem dX0_looksFor_51 : decode cX0_looksFor 51 = .ok (.istore_n 2, 1) := by decide +kernel
theorem dX0_looksFor_52 : decode cX0_looksFor 52 = .ok (.goto 6, 3) := by decide +kernel
theorem dX0_looksFor_55 : decode cX0_looksFor 55 = .ok (.iload 5, 2) := by decide +kernel
theorem dX0_looksFor_57 : decode cX0_looksFor 57 = .ok (.istore_n 3, 1) := by decide +kernel
theorem dX0_looksFor_58 : decode cX0_looksFor 58 = .ok (.iinc 4 1, 3) := by decide +kernel
theorem dX0_looksFor_61 : decode cX0_looksFor 61 = .ok (.goto (-51), 3) := by decide +kernel
theorem dX0_looksFor_64 : decode cX0_looksFor 64 = .ok (.iload 4, 2) := by decide +kernel
theorem dX0_looksFor_66 : decode cX0_looksFor 66 = .ok (.ireturn, 1) := by decide +kernel
theorem dX0_blocksWithValues_0 : decode cX0_blocksWithValues 0 = .ok (.iconst 0, 1) := by decide +kernel
theorem dX0_blocksWithValues_1 : decode cX0_blocksWithValues 1 = .ok (.istore_n 1, 1) := by decide +kernel
theorem dX0_blocksWithValues_2 : decode cX0_blocksWithValues 2 = .ok (.iconst 0, 1) := by decide +kernel
theorem dX0_blocksWithValues_3 : decode cX0_blocksWithValues 3 = .ok (.istore_n 2, 1) := by decide +kernel
theorem dX0_blocksWithValues_4 : decode cX0_blocksWithValues 4 = .ok (.iload_n 2, 1) := by decide +kernel
theorem dX0_blocksWithValues_5 : decode cX0_blocksWithValues 5 = .ok (.aload_n 0, 1) := by decide +kernel
theorem dX0_blocksWithValues_6 : decode cX0_blocksWithValues 6 = .ok (.getfield 28, 3) := by decide +kernel
theorem dX0_blocksWithValues_9 : decode cX0_blocksWithValues 9 = .ok (.if_icmp .ge 21, 3) := by decide +kernel
theorem dX0_blocksWithValues_12 : decode cX0_blocksWithValues 12 = .ok (.aload_n 0, 1) := by decide +kernel
theorem dX0_blocksWithValues_13 : decode cX0_blocksWithValues 13 = .ok (.iload_n 2, 1) := by decide +kernel
theorem dX0_blocksWithValues_14 : decode cX0_blocksWithValues 14 = .ok (.iconst 1, 1) := by decide +kernel
theorem dX0_blocksWithValues_15 : decode cX0_blocksWithValues 15 = .ok (.invokevirtual 45, 3) := by decide +kernel
theorem dX0_blocksWithValues_18 : decode cX0_blocksWithValues 18 = .ok (.ifCond .le 6, 3) := by decide +kernel
theorem dX0_blocksWithValues_21 : decode cX0_blocksWithValues 21 = .ok (.iinc 1 1, 3) := by decide +kernel
theorem dX0_blocksWithValues_24 : decode cX0_blocksWithValues 24 = .ok (.iinc 2 1, 3) := by decide +kernel
theorem dX0_blocksWithValues_27 : decode cX0_blocksWithValues 27 = .ok (.goto (-23), 3) := by decide +kernel
theorem dX0_blocksWithValues_30 : decode cX0_blocksWithValues 30 = .ok (.iload_n 1, 1) := by decide +kernel
theorem dX0_blocksWithValues_31 : decode cX0_blocksWithValues 31 = .ok (.ireturn, 1) := by decide +kernel
theorem dX0_withValues_0 : decode cX0_withValues 0 = .ok (.iconst 0, 1) := by decide +kernel
theorem dX0_withValues_1 : decode cX0_withValues 1 = .ok (.istore_n 2, 1) := by decide +kernel
theorem dX0_withValues_2 : decode cX0_withValues 2 = .ok (.iconst 0, 1) := by decide +kernel
theorem dX0_withValues_3 : decode cX0_withValues 3 = .ok (.istore_n 3, 1) := by decide +kernel
theorem dX0_withValues_4 : decode cX0_withValues 4 = .ok (.iload_n 3, 1) := by decide +kernel
theorem dX0_withValues_5 : decode cX0_withValues 5 = .ok (.aload_n 0, 1) := by decide +kernel
theorem dX0_withValues_6 : decode cX0_withValues 6 = .ok (.getfield 28, 3) := by decide +kernel
theorem dX0_withValues_9 : decode cX0_withValues 9 = .ok (.if_icmp .ge 28, 3) := by decide +kernel
theorem dX0_withValues_12 : decode cX0_withValues 12 = .ok (.aload_n 0, 1) := by decide +kernel
theorem dX0_withValues_13 : decode cX0_withValues 13 = .ok (.iload_n 3, 1) := by decide +kernel
theorem dX0_withValues_14 : decode cX0_withValues 14 = .ok (.iconst 1, 1) := by decide +kernel
theorem dX0_withValues_15 : decode cX0_withValues 15 = .ok (.invokevirtual 45, 3) := by decide +kernel
theorem dX0_withValues_18 : decode cX0_withValues 18 = .ok (.ifCond .le 13, 3) := by decide +kernel
theorem dX0_withValues_21 : decode cX0_withValues 21 = .ok (.iload_n 2, 1) := by decide +kernel
theorem dX0_withValues_22 : decode cX0_withValues 22 = .ok (.iload_n 1, 1) := by decide +kernel
theorem dX0_withValues_23 : decode cX0_withValues 23 = .ok (.if_icmp .ne 5, 3) := by decide +kernel
theorem dX0_withValues_26 : decode cX0_withValues 26 = .ok (.iload_n 3, 1) := by decide +kernel
theorem dX0_withValues_27 : decode cX0_withValues 27 = .ok (.ireturn, 1) := by decide +kernel
theorem dX0_withValues_28 : decode cX0_withValues 28 = .ok (.iinc 2 1, 3) := by decide +kernel
theorem dX0_withValues_31 : decode cX0_withValues 31 = .ok (.iinc 3 1, 3) := by decide +kernel
theorem dX0_withValues_34 : decode cX0_withValues 34 = .ok (.goto (-30), 3) := by decide +kernel
theorem dX0_withValues_37 : decode cX0_withValues 37 = .ok (.iconst (-1), 1) := by decide +kernel
theorem dX0_withValues_38 : decode cX0_withValues 38 = .ok (.ireturn, 1) := by decide +kernel

